set_option maxHeartbeats 4000000 in
set_option maxRecDepth 100000 in
theorem m_X11 {G : xG} {ro : xR} {sv : Nat → Value} (hG : x_Good G ro sv) {d t t0 : Nat} {h : xH} {Q : xQ} {a1 a2 a3 : Int32} (hs0 : sv 0 = .ref t0) (hro : ∃ f, ro t0 = some (7, f)) (ht : h t = some (.inr (11, [.null, .int 0, .int 0, .null, .null, .null, .null, .null, .int 0, .int 0, .int 0, .int 0, .int 0]))) (hQ : ∀ h' n pg rm ca, 2 ≤ n → n ≤ 4 → 4 ≤ pg → pg ≤ 16 → 1 ≤ rm → rm ≤ 32 → r_cl a1 2 4 = nI n → r_cl a2 4 16 = nI pg → r_cl a3 1 32 = nI rm → RepC ca n pg rm (uI pg rm) tI rI h' → ca 0 0 = t → Q none h') : G (d + 4) n_X11_init 1000 60000 0 [(0, .ref t), (1, .int a1), (2, .int a2), (3, .int a3)] [] h 0 0 Q := by
  obtain ⟨n, hn1, hn2, en, en'⟩ := wi_eq a1 2 4 (by decide) (by decide)
  obtain ⟨pg, hp1, hp2, ep, ep'⟩ := wi_eq a2 4 16 (by decide) (by decide)
  obtain ⟨rm, hr1, hr2, er, er'⟩ := wi_eq a3 1 32 (by decide) (by decide)
  repeat refine hG _ _ _ _ _ _ _ _ _ _ _ ?_
  refine ⟨0, 0, by decide, by decide, ?_⟩
  repeat refine hG _ _ _ _ _ _ _ _ _ _ _ ?_
  refine ⟨rfl, by decide, by decide, ?_⟩
  repeat refine hG _ _ _ _ _ _ _ _ _ _ _ ?_
  refine ⟨_, ht, Nat.le_of_ble_eq_true rfl, rfl, rfl, ?_⟩
  rintro h1 e1
  have k1 : h1 t = some (.inr (11, [.null, .int (nI pg), .int 0, .null, .null, .null, .null, .null, .int 0, .int 0, .int 0, .int 0, .int 0])) := by rw [e1, x_up_self, ← ep]; rfl
  have M1 := (MK.nil (h := h) (t := t)).put e1
  repeat refine hG _ _ _ _ _ _ _ _ _ _ _ ?_
  refine ⟨0, 0, by decide, by decide, ?_⟩
  repeat refine hG _ _ _ _ _ _ _ _ _ _ _ ?_
  refine ⟨rfl, by decide, by decide, ?_⟩
  repeat refine hG _ _ _ _ _ _ _ _ _ _ _ ?_
  refine ⟨_, k1, Nat.le_of_ble_eq_true rfl, rfl, rfl, ?_⟩
  rintro h2 e2
  have k2 : h2 t = some (.inr (11, [.null, .int (nI pg), .int (nI rm), .null, .null, .null, .null, .null, .int 0, .int 0, .int 0, .int 0, .int 0])) := by rw [e2, x_up_self, ← er]; rfl
  have M2 := M1.put e2
  repeat refine hG _ _ _ _ _ _ _ _ _ _ _ ?_
  refine ⟨0, 0, by decide, by decide, ?_⟩
  repeat refine hG _ _ _ _ _ _ _ _ _ _ _ ?_
  refine ⟨rfl, by decide, by decide, ?_⟩
  have ez : (nI n).toNatClampNeg = n := nI_clamp (by omega)
  have en2 : (if (2 : Int32) < (if a1 < 4 then a1 else 4) then (if a1 < 4 then a1 else 4) else 2) = nI n := en
  repeat refine hG _ _ _ _ _ _ _ _ _ _ _ ?_
  refine ⟨by rw [en2]; exact nI_pos (by omega), by rw [en2, ez]; omega, by decide, by rw [en2, ez]; omega, fun HA hHA => ?_⟩
  rintro h3 e3
  rw [en2, ez] at e3
  obtain ⟨M3, z3, w3, n3, l3, k3⟩ := M2.fresh k2 hHA e3
  repeat refine hG _ _ _ _ _ _ _ _ _ _ _ ?_
  refine ⟨_, k3, Nat.le_of_ble_eq_true rfl, rfl, rfl, ?_⟩
  rintro h4 e4
  have k4 : h4 t = some (.inr (11, [.ref HA, .int (nI pg), .int (nI rm), .null, .null, .null, .null, .null, .int 0, .int 0, .int 0, .int 0, .int 0])) := by rw [e4, x_up_self]; rfl
  have M4 := M3.put e4
  have kA4 : h4 HA = some (.inl (4, n, .inr (.inr (.inr (.inr (trO 0 (fun x => some 0))))))) := by
    have z : trO 0 (fun x => some 0) = (fun _ : Nat => (none : Option Nat)) := by funext x; unfold trO; rw [if_neg (by omega)]
    rw [e4, x_up_ne n3, w3, z]
  rw [en2, ez]
  refine hG _ _ _ _ _ _ _ _ _ _ _ ?_
  refine hG _ _ _ _ _ _ _ _ _ _ _ ?_
  refine m_X11l hG (rm := rm) (hb := h4) hs0 hro hp2 hn2 (T := [.ref HA, .int (nI pg), .int (nI rm), .null, .null, .null, .null, .null, .int 0, .int 0, .int 0, .int 0, .int 0]) rfl rfl (Ne.symm n3) n 0 (0 + 0 + 0 + 0 + 1) (0 + 0 + 0 + 0 + n) h4 (fun _ _ _ => 0) [] (by omega) k4 kA4 MK.nil (fun i hi => absurd hi (by omega)) (by omega) (by omega) (fun h5 cas Lh k5 kA5 N5 hH => ?_)
  obtain ⟨M5, -⟩ := MK.sub (1, 0) M4 k4 z3 kA4 n3 l3 N5 kA5
  have ec : (nI pg * 256).toNatClampNeg = pg * 256 := by rw [show nI pg * 256 = nI (pg * 256) from pk_mul pg 256, nI_clamp (by omega)]
  repeat refine hG _ _ _ _ _ _ _ _ _ _ _ ?_
  refine ⟨_, _, k5, rfl, ?_⟩
  repeat refine hG _ _ _ _ _ _ _ _ _ _ _ ?_
  refine ⟨by rw [show nI pg * 256 = nI (pg * 256) from pk_mul pg 256]; exact nI_pos (by omega), by rw [ec]; omega, by omega, by rw [ec]; omega, fun IM hIM => ?_⟩
  rintro h6 e6
  rw [ec] at e6
  rw [ec]
  obtain ⟨M6, z6, w6, n6, l6, k6⟩ := M5.fresh k5 hIM e6
  have M6 := M6.add (c := .inl (1, pg * 256, .inl fun _ => 0)) (34, 0) k6 z6 w6 n6 l6
  repeat refine hG _ _ _ _ _ _ _ _ _ _ _ ?_
  refine ⟨_, k6, Nat.le_of_ble_eq_true rfl, rfl, rfl, ?_⟩
  rintro h7 e7
  have k7 : h7 t = some (.inr (11, [.ref HA, .int (nI pg), .int (nI rm), .ref IM, .null, .null, .null, .null, .int 0, .int 0, .int 0, .int 0, .int 0])) := by rw [e7, x_up_self]; rfl
  have M7 := M6.put e7
  repeat refine hG _ _ _ _ _ _ _ _ _ _ _ ?_
  refine ⟨by omega, by show _ + 5 ≤ 60000; omega, fun SD hSD => ?_⟩
  rintro h8 e8
  obtain ⟨M8, z8, w8, n8, l8, k8⟩ := M7.fresh k7 hSD e8
  repeat refine hG _ _ _ _ _ _ _ _ _ _ _ ?_
  refine ⟨260, 9700, by omega, by show _ + 5 + 9700 ≤ 60000; omega, m_X9 hG (by rw [e8, x_up_self]; rfl) (fun h9 bl wt oa ob N9 q9 => ?_)⟩
  obtain ⟨M9, k9⟩ := MK.sub (23, 0) M8 k8 z8 w8 n8 l8 N9 q9
  repeat refine hG _ _ _ _ _ _ _ _ _ _ _ ?_
  refine ⟨_, k9, Nat.le_of_ble_eq_true rfl, rfl, rfl, ?_⟩
  rintro h10 e10
  have k10 : h10 t = some (.inr (11, [.ref HA, .int (nI pg), .int (nI rm), .ref IM, .ref SD, .null, .null, .null, .int 0, .int 0, .int 0, .int 0, .int 0])) := by rw [e10, x_up_self]; rfl
  have M10 := M9.put e10
  repeat refine hG _ _ _ _ _ _ _ _ _ _ _ ?_
  refine ⟨by omega, by show _ + 5 + 9700 + 2 ≤ 60000; omega, fun OU hOU => ?_⟩
  rintro h11 e11
  obtain ⟨M11, z11, w11, n11, l11, k11⟩ := M10.fresh k10 hOU e11
  repeat refine hG _ _ _ _ _ _ _ _ _ _ _ ?_
  refine ⟨1, 4096, by omega, by show _ + 5 + 9700 + 2 + 4096 ≤ 60000; omega, m_X8 hG (by rw [e11, x_up_self]; rfl) (fun h12 nu N12 q12 => ?_)⟩
  obtain ⟨M12, k12⟩ := MK.sub (28, 0) M11 k11 z11 w11 n11 l11 N12 q12
  repeat refine hG _ _ _ _ _ _ _ _ _ _ _ ?_
  refine ⟨_, k12, Nat.le_of_ble_eq_true rfl, rfl, rfl, ?_⟩
  rintro h13 e13
  have k13 : h13 t = some (.inr (11, [.ref HA, .int (nI pg), .int (nI rm), .ref IM, .ref SD, .ref OU, .null, .null, .int 0, .int 0, .int 0, .int 0, .int 0])) := by rw [e13, x_up_self]; rfl
  have M13 := M12.put e13
  repeat refine hG _ _ _ _ _ _ _ _ _ _ _ ?_
  refine ⟨by omega, by show _ + 5 + 9700 + 2 + 4096 + 3 ≤ 60000; omega, fun CH hCH => ?_⟩
  rintro h14 e14
  obtain ⟨M14, z14, w14, n14, l14, k14⟩ := M13.fresh k13 hCH e14
  repeat refine hG _ _ _ _ _ _ _ _ _ _ _ ?_
  refine ⟨_, _, k14, rfl, ?_⟩
  repeat refine hG _ _ _ _ _ _ _ _ _ _ _ ?_
  refine ⟨1, 512, by omega, by show _ + 5 + 9700 + 2 + 4096 + 3 + 512 ≤ 60000; omega, m_X2 hG (31, 0) ⟨hr1, by omega⟩ (by rw [e14, x_up_self]; rfl) (fun h15 cp N15 q15 => ?_)⟩
  obtain ⟨M15, k15⟩ := MK.sub (30, 0) M14 k14 z14 w14 n14 l14 N15 q15
  repeat refine hG _ _ _ _ _ _ _ _ _ _ _ ?_
  refine ⟨_, k15, Nat.le_of_ble_eq_true rfl, rfl, rfl, ?_⟩
  rintro h16 e16
  have k16 : h16 t = some (.inr (11, [.ref HA, .int (nI pg), .int (nI rm), .ref IM, .ref SD, .ref OU, .ref CH, .null, .int 0, .int 0, .int 0, .int 0, .int 0])) := by rw [e16, x_up_self]; rfl
  have M16 := M15.put e16
  repeat refine hG _ _ _ _ _ _ _ _ _ _ _ ?_
  refine ⟨by omega, by show _ + 5 + 9700 + 2 + 4096 + 3 + 512 + 3 ≤ 60000; omega, fun UW hUW => ?_⟩
  rintro h17 e17
  obtain ⟨M17, z17, w17, n17, l17, k17⟩ := M16.fresh k16 hUW e17
  repeat refine hG _ _ _ _ _ _ _ _ _ _ _ ?_
  refine ⟨_, _, k17, rfl, ?_⟩
  repeat refine hG _ _ _ _ _ _ _ _ _ _ _ ?_
  refine ⟨1, 512, by omega, by show _ + 5 + 9700 + 2 + 4096 + 3 + 512 + 3 + 512 ≤ 60000; omega, m_X2 hG (33, 0) ⟨hr1, by omega⟩ (by rw [e17, x_up_self]; rfl) (fun h18 up N18 q18 => ?_)⟩
  obtain ⟨M18, k18⟩ := MK.sub (32, 0) M17 k17 z17 w17 n17 l17 N18 q18
  repeat refine hG _ _ _ _ _ _ _ _ _ _ _ ?_
  refine ⟨_, k18, Nat.le_of_ble_eq_true rfl, rfl, rfl, ?_⟩
  rintro h19 e19
  have k19 : h19 t = some (.inr (11, [.ref HA, .int (nI pg), .int (nI rm), .ref IM, .ref SD, .ref OU, .ref CH, .ref UW, .int 0, .int 0, .int 0, .int 0, .int 0])) := by rw [e19, x_up_self]; rfl
  have M19 := M18.put e19
  repeat refine hG _ _ _ _ _ _ _ _ _ _ _ ?_
  refine ⟨_, k19, Nat.le_of_ble_eq_true rfl, rfl, rfl, ?_⟩
  rintro h20 e20
  have k20 : h20 t = some (.inr (11, [.ref HA, .int (nI pg), .int (nI rm), .ref IM, .ref SD, .ref OU, .ref CH, .ref UW, .int 0, .int (-1), .int 0, .int 0, .int 0])) := by rw [e20, x_up_self]; rfl
  have M20 := M19.put e20
  repeat refine hG _ _ _ _ _ _ _ _ _ _ _ ?_
  refine ⟨_, k20, Nat.le_of_ble_eq_true rfl, rfl, rfl, ?_⟩
  rintro h21 e21
  have k21 : h21 t = some (.inr (11, [.ref HA, .int (nI pg), .int (nI rm), .ref IM, .ref SD, .ref OU, .ref CH, .ref UW, .int 0, .int (-1), .int (-1), .int 0, .int 0])) := by rw [e21, x_up_self]; rfl
  have M21 := M20.put e21
  repeat refine hG _ _ _ _ _ _ _ _ _ _ _ ?_
  exact ⟨by omega, by show _ + 5 + 9700 + 2 + 4096 + 3 + 512 + 3 + 512 ≤ 60000; omega, hQ h21 n pg rm _ hn1 hn2 hp1 hp2 hr1 hr2 en' ep' er' (cA_rep hn2 hp2 hr2 M21 k21 hH) rfl⟩
