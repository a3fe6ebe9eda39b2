theorem m_X5 {G : xG} {ro : xR} {sv : Nat → Value} (hG : x_Good G ro sv) {d t pg i : Nat} {h : xH} {Q : xQ} (hp : pg ≤ 16) (ht : h t = some (.inr (5, [.null, .null]))) (hQ : ∀ h' a b, MK h h' t [((6, i), (b, .inl (2, pg, .inl fun _ => 0))), ((5, i), (a, .inl (1, pg * 256, .inl fun _ => 0)))] → h' t = some (.inr (5, [.ref a, .ref b])) → Q none h') : G d n_X5_init 2 4112 0 [(0, .ref t), (1, .int (nI pg))] [] h 0 0 Q := by
  have e : nI pg * 256 = nI (pg * 256) := pk_mul pg 256
  have ec : (nI pg * 256).toNatClampNeg = pg * 256 := by rw [e, nI_clamp (by omega)]
  have ed : (nI pg).toNatClampNeg = pg := nI_clamp (by omega)
  repeat refine hG _ _ _ _ _ _ _ _ _ _ _ ?_
  refine ⟨by rw [e]; exact nI_pos (by omega), by rw [ec]; omega, by decide, by rw [ec]; omega, fun a ha => ?_⟩
  rintro h1 e1
  rw [ec] at e1
  obtain ⟨M1, a1, k1, n1, l1, t1⟩ := (MK.nil (h := h) (t := t)).fresh ht ha e1
  have M1 := M1.add (c := .inl (1, pg * 256, .inl fun _ => 0)) (5, i) t1 a1 k1 n1 l1
  repeat refine hG _ _ _ _ _ _ _ _ _ _ _ ?_
  refine ⟨_, t1, Nat.le_of_ble_eq_true rfl, rfl, rfl, ?_⟩
  rintro h2 e2
  have t2 : h2 t = some (.inr (5, [.ref a, .null])) := by rw [e2, x_up_self]; rfl
  have M2 := M1.put e2
  repeat refine hG _ _ _ _ _ _ _ _ _ _ _ ?_
  refine ⟨nI_pos (by omega), by rw [ed]; omega, by decide, by rw [ec, ed]; omega, fun b hb => ?_⟩
  rintro h3 e3
  rw [ed] at e3
  obtain ⟨M3, b3, k3, n3, l3, t3⟩ := M2.fresh t2 hb e3
  have M3 := M3.add (c := .inl (2, pg, .inl fun _ => 0)) (6, i) t3 b3 k3 n3 l3
  repeat refine hG _ _ _ _ _ _ _ _ _ _ _ ?_
  refine ⟨_, t3, Nat.le_of_ble_eq_true rfl, rfl, rfl, ?_⟩
  rintro h4 e4
  repeat refine hG _ _ _ _ _ _ _ _ _ _ _ ?_
  exact ⟨by decide, by rw [ec, ed]; omega, hQ h4 a b (M3.put e4) (by rw [e4, x_up_self]; rfl)⟩
theorem m_X2 {G : xG} {ro : xR} {sv : Nat → Value} (hG : x_Good G ro sv) {d t n : Nat} {h : xH} {Q : xQ} (lb : Nat × Nat) (hn : 1 ≤ n ∧ n ≤ 512) (ht : h t = some (.inr (2, [.null, .int 0, .int 0]))) (hQ : ∀ h' a, MK h h' t [(lb, (a, .inl (5, n, .inr (.inr (.inr (.inr fun _ => none))))))] → h' t = some (.inr (2, [.ref a, .int 0, .int 0])) → Q none h') : G d n_X2_init 1 512 0 [(0, .ref t), (1, .int (nI n))] [] h 0 0 Q := by
  have e : (if (1 : Int32) < nI n then nI n else 1) = nI n := by
    by_cases h1 : (1 : Int32) < nI n
    · rw [if_pos h1]
    · rw [if_neg h1]
      have h2 : ¬ 1 < n := fun q => h1 (nI_lt (a := 1) q (by omega))
      rw [show n = 1 by omega]; rfl
  have ed : (nI n).toNatClampNeg = n := nI_clamp (by omega)
  repeat refine hG _ _ _ _ _ _ _ _ _ _ _ ?_
  refine ⟨by rw [e]; exact nI_pos (by omega), by rw [e, ed]; omega, by decide, by rw [e, ed]; omega, fun a ha => ?_⟩
  rintro h1 e1
  rw [e, ed] at e1
  obtain ⟨M1, a1, k1, n1, l1, t1⟩ := (MK.nil (h := h) (t := t)).fresh ht ha e1
  have M1 := M1.add (c := .inl (5, n, .inr (.inr (.inr (.inr fun _ => none))))) lb t1 a1 k1 n1 l1
  repeat refine hG _ _ _ _ _ _ _ _ _ _ _ ?_
  refine ⟨_, t1, Nat.le_of_ble_eq_true rfl, rfl, rfl, ?_⟩
  rintro h2 e2
  repeat refine hG _ _ _ _ _ _ _ _ _ _ _ ?_
  exact ⟨by decide, by rw [e, ed]; omega, hQ h2 a (M1.put e2) (by rw [e2, x_up_self]; rfl)⟩
theorem m_X8 {G : xG} {ro : xR} {sv : Nat → Value} (hG : x_Good G ro sv) {d t : Nat} {h : xH} {Q : xQ} (ht : h t = some (.inr (8, [.null, .int 0]))) (hQ : ∀ h' a, MK h h' t [((29, 0), (a, .inl (0, 4096, .inl fun _ => 0)))] → h' t = some (.inr (8, [.ref a, .int 0])) → Q none h') : G d n_X8_init 1 4096 0 [(0, .ref t)] [] h 0 0 Q := by
  repeat refine hG _ _ _ _ _ _ _ _ _ _ _ ?_
  refine ⟨by decide, by decide, by decide, by decide, fun a ha => ?_⟩
  rintro h1 e1
  obtain ⟨M1, a1, k1, n1, l1, t1⟩ := (MK.nil (h := h) (t := t)).fresh ht ha e1
  have M1 := M1.add (c := .inl (0, 4096, .inl fun _ => 0)) (29, 0) t1 a1 k1 n1 l1
  repeat refine hG _ _ _ _ _ _ _ _ _ _ _ ?_
  refine ⟨_, t1, Nat.le_of_ble_eq_true rfl, rfl, rfl, ?_⟩
  rintro h2 e2
  repeat refine hG _ _ _ _ _ _ _ _ _ _ _ ?_
  exact ⟨by decide, by decide, hQ h2 a (M1.put e2) (by rw [e2, x_up_self]; rfl)⟩
abbrev Z32 : xE := .inl (1, 32, .inl fun _ => 0)
abbrev Z64 : xE := .inl (1, 64, .inl fun _ => 0)
abbrev XL0 (i a b1 b2 b3 b c1 c d1 : Nat) : LC := [((14, i), (c, .inr (7, [.ref d1, .int 0, .int 0]))), ((15, i), (d1, Z32)), ((12, i), (b, .inr (6, [.ref c1, .int 0, .int 0, .int 0, .int 0, .int 0]))), ((13, i), (c1, Z64)), ((8, i), (a, .inr (10, [.ref b1, .ref b2, .ref b3, .int 0, .int 0, .int 0, .int 0]))), ((9, i), (b1, .inl (0, 16, .inl fun _ => 0))), ((10, i), (b2, .inl (0, 4, .inl fun _ => 0))), ((11, i), (b3, .inl (1, 128, .inl fun _ => 0)))]
theorem m_X0 {G : xG} {ro : xR} {sv : Nat → Value} (hG : x_Good G ro sv) {d t mm i : Nat} {h : xH} {Q : xQ} (ht : h t = some (.inr (0, [.null, .null, .null, .null, .int 0, .int 0, .int 0, .int 0, .int 0, .int 0, .int 0]))) (hQ : ∀ h' a b1 b2 b3 b c1 c d1, MK h h' t (XL0 i a b1 b2 b3 b c1 c d1) → h' t = some (.inr (0, [.ref mm, .ref a, .ref b, .ref c, .int 0, .int 0, .int 0, .int 0, .int 0, .int 0, .int 0])) → Q none h') : G (d + 1) n_X0_init 8 260 0 [(0, .ref t), (1, .ref mm)] [] h 0 0 Q := by
  repeat refine hG _ _ _ _ _ _ _ _ _ _ _ ?_
  refine ⟨_, ht, Nat.le_of_ble_eq_true rfl, rfl, rfl, ?_⟩
  rintro h1 e1
  have t1 : h1 t = some (.inr (0, [.ref mm, .null, .null, .null, .int 0, .int 0, .int 0, .int 0, .int 0, .int 0, .int 0])) := by rw [e1, x_up_self]; rfl
  have M1 := (MK.nil (h := h) (t := t)).put e1
  repeat refine hG _ _ _ _ _ _ _ _ _ _ _ ?_
  refine ⟨by decide, by decide, fun a ha => ?_⟩
  rintro h2 e2
  obtain ⟨M2, a2, k2, n2, l2, t2⟩ := M1.fresh t1 ha e2
  repeat refine hG _ _ _ _ _ _ _ _ _ _ _ ?_
  refine ⟨3, 148, by decide, by decide, c_X10_init hG (by rw [e2, x_up_self]; rfl) (fun h3 b1 b2 b3 hn q0 q1 q2 q3 => ?_)⟩
  obtain ⟨M3, t3⟩ := MK.sub (8, i) M2 t2 a2 k2 n2 l2 (MK.nw3 (9, i) (10, i) (11, i) hn q1 q2 q3) q0
  repeat refine hG _ _ _ _ _ _ _ _ _ _ _ ?_
  refine ⟨_, t3, Nat.le_of_ble_eq_true rfl, rfl, rfl, ?_⟩
  rintro h4 e4
  have t4 : h4 t = some (.inr (0, [.ref mm, .ref a, .null, .null, .int 0, .int 0, .int 0, .int 0, .int 0, .int 0, .int 0])) := by rw [e4, x_up_self]; rfl
  have M4 := M3.put e4
  repeat refine hG _ _ _ _ _ _ _ _ _ _ _ ?_
  refine ⟨by decide, by decide, fun b hb => ?_⟩
  rintro h5 e5
  obtain ⟨M5, a5, k5, n5, l5, t5⟩ := M4.fresh t4 hb e5
  repeat refine hG _ _ _ _ _ _ _ _ _ _ _ ?_
  refine ⟨1, 64, by decide, by decide, c_X6_init hG (by rw [e5, x_up_self]; rfl) (fun h6 c1 hn6 q0 q1 => ?_)⟩
  obtain ⟨M6, t6⟩ := MK.sub (12, i) M5 t5 a5 k5 n5 l5 (MK.nw1 (13, i) hn6 q1) q0
  repeat refine hG _ _ _ _ _ _ _ _ _ _ _ ?_
  refine ⟨_, t6, Nat.le_of_ble_eq_true rfl, rfl, rfl, ?_⟩
  rintro h7 e7
  have t7 : h7 t = some (.inr (0, [.ref mm, .ref a, .ref b, .null, .int 0, .int 0, .int 0, .int 0, .int 0, .int 0, .int 0])) := by rw [e7, x_up_self]; rfl
  have M7 := M6.put e7
  repeat refine hG _ _ _ _ _ _ _ _ _ _ _ ?_
  refine ⟨by decide, by decide, fun c hc => ?_⟩
  rintro h8 e8
  obtain ⟨M8, a8, k8, n8, l8, t8⟩ := M7.fresh t7 hc e8
  repeat refine hG _ _ _ _ _ _ _ _ _ _ _ ?_
  refine ⟨1, 32, by decide, by decide, c_X7_init hG (by rw [e8, x_up_self]; rfl) (fun h9 d1 hn9 q0 q1 => ?_)⟩
  obtain ⟨M9, t9⟩ := MK.sub (14, i) M8 t8 a8 k8 n8 l8 (MK.nw1 (15, i) hn9 q1) q0
  repeat refine hG _ _ _ _ _ _ _ _ _ _ _ ?_
  refine ⟨_, t9, Nat.le_of_ble_eq_true rfl, rfl, rfl, ?_⟩
  rintro h10 e10
  repeat refine hG _ _ _ _ _ _ _ _ _ _ _ ?_
  exact ⟨by decide, by decide, hQ h10 a b1 b2 b3 b c1 c d1 (M9.put e10) (by rw [e10, x_up_self]; rfl)⟩
abbrev XL3 (pg i m dv rg ct mb mt a b1 b2 b3 b c1 c d1 : Nat) : LC := [((17, i), (ct, .inl (0, 7, .inl fun _ => 0))), ((16, i), (rg, .inl (0, 32, .inl fun _ => 0))), ((7, i), (dv, .inr (0, [.ref m, .ref a, .ref b, .ref c, .int 0, .int 0, .int 0, .int 0, .int 0, .int 0, .int 0])))] ++ (XL0 i a b1 b2 b3 b c1 c d1 ++ [((4, i), (m, .inr (5, [.ref mb, .ref mt]))), ((6, i), (mt, .inl (2, pg, .inl fun _ => 0))), ((5, i), (mb, .inl (1, pg * 256, .inl fun _ => 0)))])
theorem m_X3 {G : xG} {ro : xR} {sv : Nat → Value} (hG : x_Good G ro sv) {d t pg t0 i : Nat} {h : xH} {Q : xQ} (hs0 : sv 0 = .ref t0) (hro : ∃ f, ro t0 = some (7, f)) (hp : pg ≤ 16) (ht : h t = some (.inr (3, [.null, .null, .null, .null, .int 0, .long 0, .int 0, .int 0]))) (hQ : ∀ h' m dv rg ct mb mt a b1 b2 b3 b c1 c d1, MK h h' t (XL3 pg i m dv rg ct mb mt a b1 b2 b3 b c1 c d1) → h' t = some (.inr (3, [.ref m, .ref dv, .ref rg, .ref ct, .int 0, .long 0, .int 0, .int 0])) → Q none h') : G (d + 2) n_X3_init 20 4500 0 [(0, .ref t), (1, .int (nI pg))] [] h 0 0 Q := by
  obtain ⟨f0, hf0⟩ := hro
  repeat refine hG _ _ _ _ _ _ _ _ _ _ _ ?_
  refine ⟨by decide, by decide, fun m hm => ?_⟩
  rintro h1 e1
  obtain ⟨M1, a1, k1, n1, l1, t1⟩ := (MK.nil (h := h) (t := t)).fresh ht hm e1
  repeat refine hG _ _ _ _ _ _ _ _ _ _ _ ?_
  refine ⟨2, 4112, by decide, by decide, m_X5 hG (i := i) hp (by rw [e1, x_up_self]; rfl) (fun h2 mb mt N2 q2 => ?_)⟩
  obtain ⟨M2, t2⟩ := MK.sub (4, i) M1 t1 a1 k1 n1 l1 N2 q2
  repeat refine hG _ _ _ _ _ _ _ _ _ _ _ ?_
  refine ⟨_, t2, Nat.le_of_ble_eq_true rfl, rfl, rfl, ?_⟩
  rintro h3 e3
  have t3 : h3 t = some (.inr (3, [.ref m, .null, .null, .null, .int 0, .long 0, .int 0, .int 0])) := by rw [e3, x_up_self]; rfl
  have M3 := M2.put e3
  repeat refine hG _ _ _ _ _ _ _ _ _ _ _ ?_
  refine ⟨by decide, by decide, fun dv hdv => ?_⟩
  rintro h4 e4
  obtain ⟨M4, a4, k4, n4, l4, t4⟩ := M3.fresh t3 hdv e4
  repeat refine hG _ _ _ _ _ _ _ _ _ _ _ ?_
  refine ⟨_, _, t4, rfl, ?_⟩
  repeat refine hG _ _ _ _ _ _ _ _ _ _ _ ?_
  refine ⟨8, 260, by decide, by decide, m_X0 hG (i := i) (mm := m) (by rw [e4, x_up_self]; rfl) (fun h5 a b1 b2 b3 b c1 c d1 N5 q5 => ?_)⟩
  obtain ⟨M5, t5⟩ := MK.sub (7, i) M4 t4 a4 k4 n4 l4 N5 q5
  repeat refine hG _ _ _ _ _ _ _ _ _ _ _ ?_
  refine ⟨_, t5, Nat.le_of_ble_eq_true rfl, rfl, rfl, ?_⟩
  rintro h6 e6
  have t6 : h6 t = some (.inr (3, [.ref m, .ref dv, .null, .null, .int 0, .long 0, .int 0, .int 0])) := by rw [e6, x_up_self]; rfl
  have M6 := M5.put e6
  repeat refine hG _ _ _ _ _ _ _ _ _ _ _ ?_
  refine ⟨by decide, by decide, by decide, by decide, fun rg hrg => ?_⟩
  rintro h7 e7
  obtain ⟨M7, a7, k7, n7, l7, t7⟩ := M6.fresh t6 hrg e7
  have M7 := M7.add (c := .inl (0, 32, .inl fun _ => 0)) (16, i) t7 a7 k7 n7 l7
  repeat refine hG _ _ _ _ _ _ _ _ _ _ _ ?_
  refine ⟨_, t7, Nat.le_of_ble_eq_true rfl, rfl, rfl, ?_⟩
  rintro h8 e8
  have t8 : h8 t = some (.inr (3, [.ref m, .ref dv, .ref rg, .null, .int 0, .long 0, .int 0, .int 0])) := by rw [e8, x_up_self]; rfl
  have M8 := M7.put e8
  repeat refine hG _ _ _ _ _ _ _ _ _ _ _ ?_
  rw [hs0]
  refine ⟨7, Or.inr ⟨f0, hf0⟩, ?_⟩
  repeat refine hG _ _ _ _ _ _ _ _ _ _ _ ?_
  refine ⟨by decide, by decide, by decide, by decide, fun ct hct => ?_⟩
  rintro h9 e9
  obtain ⟨M9, a9, k9, n9, l9, t9⟩ := M8.fresh t8 hct e9
  have M9 := M9.add (c := .inl (0, 7, .inl fun _ => 0)) (17, i) t9 a9 k9 n9 l9
  repeat refine hG _ _ _ _ _ _ _ _ _ _ _ ?_
  refine ⟨_, t9, Nat.le_of_ble_eq_true rfl, rfl, rfl, ?_⟩
  rintro h10 e10
  repeat refine hG _ _ _ _ _ _ _ _ _ _ _ ?_
  exact ⟨by decide, by decide, hQ h10 m dv rg ct mb mt a b1 b2 b3 b c1 c d1 (M9.put e10) (by rw [e10, x_up_self]; rfl)⟩
