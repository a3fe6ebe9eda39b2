set_option maxRecDepth 100000 in
theorem c_X11_loop {G : xG} {ro : xR} {sv : Nat → Value} (hG : x_Good G ro sv) {d t HA n pg t0 mc ms : Nat} {T : List Value} {Q : xQ} {a1 a2 a3 : Int32} (hs0 : sv 0 = .ref t0) (hro : ∃ f, ro t0 = some (7, f)) (hp : pg ≤ 16) (hn4 : n ≤ 4) (hT : T[0]? = some (.ref HA)) (hT1 : T[1]? = some (.int (nI pg))) : ∀ (m k cs sl : Nat) (h : xH) (f : Nat → Option Nat), k + m = n → h t = some (.inr (11, T)) → h HA = some (.inl (4, n, .inr (.inr (.inr (.inr f))))) → (∀ i, i < k → ∃ H, f i = some H ∧ HostOK pg h i H) → cs + 161 * m ≤ mc → sl + 7512 * m ≤ ms → (∀ (h' : xH) (f' : Nat → Option Nat), h' t = some (.inr (11, T)) → h' HA = some (.inl (4, n, .inr (.inr (.inr (.inr f'))))) → (∀ i, i < n → ∃ H, f' i = some H ∧ HostOK pg h' i H) → (∀ b e, h b = some e → b ≠ HA → h' b = some e) → G (d + 4) n_X11_init mc ms 78 [(4, .int (nI n)), (0, .ref t), (1, .int a1), (2, .int a2), (3, .int a3)] [] h' (cs + 161 * m) (sl + 7512 * m) Q) → G (d + 4) n_X11_init mc ms 42 [(4, .int (nI k)), (0, .ref t), (1, .int a1), (2, .int a2), (3, .int a3)] [] h cs sl Q := by
  intro m
  induction m with
  | zero =>
    intro k cs sl h f hk ht hHA hH hcs hsl hQ
    repeat refine hG _ _ _ _ _ _ _ _ _ _ _ ?_
    refine ⟨_, _, ht, hT, ?_⟩
    repeat refine hG _ _ _ _ _ _ _ _ _ _ _ ?_
    refine ⟨n, Or.inl ⟨_, _, hHA, by decide, rfl⟩, ?_⟩
    refine hG _ _ _ _ _ _ _ _ _ _ _ ?_
    have hkn : k = n := by omega
    subst hkn
    refine ⟨fun _ => ?_, fun hc => absurd (Int32.le_refl _) hc⟩
    exact hQ h f ht hHA hH (fun b e hb _ => hb)
  | succ m ih =>
    intro k cs sl h f hk ht hHA hH hcs hsl hQ
    repeat refine hG _ _ _ _ _ _ _ _ _ _ _ ?_
    refine ⟨_, _, ht, hT, ?_⟩
    repeat refine hG _ _ _ _ _ _ _ _ _ _ _ ?_
    refine ⟨n, Or.inl ⟨_, _, hHA, by decide, rfl⟩, ?_⟩
    repeat refine hG _ _ _ _ _ _ _ _ _ _ _ ?_
    refine ⟨fun hc => absurd hc (nI_ge (b := n) (by omega) (by omega)), fun _ => ?_⟩
    repeat refine hG _ _ _ _ _ _ _ _ _ _ _ ?_
    refine ⟨_, _, ht, hT, ?_⟩
    repeat refine hG _ _ _ _ _ _ _ _ _ _ _ ?_
    refine ⟨by omega, by show sl + 12 ≤ ms; omega, fun a ha => ?_⟩
    rintro h1 e1
    have kt1 := x_upd e1 ha ht
    have kk1 := x_upd e1 ha hHA
    have nk : HA ≠ a := x_fr ha hHA
    have nt : t ≠ a := x_fr ha ht
    repeat refine hG _ _ _ _ _ _ _ _ _ _ _ ?_
    refine ⟨_, _, kt1, hT1, ?_⟩
    repeat refine hG _ _ _ _ _ _ _ _ _ _ _ ?_
    refine ⟨160, 7500, by omega, by have hx : (x_cn 4).1 = 12 := rfl; omega, c_X4_init hG hs0 hro hp (by rw [e1, x_up_self]; rfl) (fun h2 f2 hok => ?_)⟩
    have kt2 := f2 t _ kt1 nt
    have kk2 := f2 HA _ kk1 nk
    have o2 : ∀ b e, h b = some e → h2 b = some e := fun b e hb => f2 b e (x_upd e1 ha hb) (x_fr ha hb)
    obtain ⟨g, ib, kp, mm, dv, rg, ct, mb, mt, pl, c1, c2, c3, c4, c5⟩ := id hok
    repeat refine hG _ _ _ _ _ _ _ _ _ _ _ ?_
    refine ⟨_, _, _, _, _, kk2, c1, rfl, vp_in_nI (by omega) (by omega), ?_⟩
    rintro h3 e3
    have ntk : t ≠ HA := fun q => by subst q; rw [ht] at hHA; cases hHA
    have kp3 : ∀ i H, HostOK pg h2 i H → HostOK pg h3 i H := fun i H hh => HostOK.keep (P := fun b => b ≠ HA) hh (fun b fs hb q => by subst q; rw [kk2] at hb; cases hb) (fun b fs hb q => by subst q; rw [kk2] at hb; cases hb) (fun b fs hb q => by subst q; rw [kk2] at hb; cases hb) (fun b fs hb q => by subst q; rw [kk2] at hb; cases hb) (fun b fs hb q => by subst q; rw [kk2] at hb; cases hb) (fun b e hb hP => x_upo e3 hP hb)
    have kp2 : ∀ i H, HostOK pg h i H → HostOK pg h2 i H := fun i H hh => HostOK.keep (P := fun _ => True) hh (fun _ _ _ => trivial) (fun _ _ _ => trivial) (fun _ _ _ => trivial) (fun _ _ _ => trivial) (fun _ _ _ => trivial) (fun b e hb _ => o2 b e hb)
    refine hG _ _ _ _ _ _ _ _ _ _ _ ?_
    refine hG _ _ _ _ _ _ _ _ _ _ _ ?_
    have ih1 := ih (k + 1)
    rw [nI_succ] at ih1
    refine ih1 (cs + 1 + 160) (sl + 12 + 7500) h3 (va_up f (nI k).toNatClampNeg (some a)) (by omega) (x_upo e3 ntk kt2) (by rw [e3, x_up_self]) (fun i hi => ?_) (by omega) (by omega) (fun h' f' g1 g2 g3 g4 => ?_)
    · rw [nI_clamp (show k < 2 ^ 31 by omega)]
      by_cases hik : i = k
      · subst hik
        exact ⟨a, va_up_self _ _ _, kp3 _ _ hok⟩
      · obtain ⟨H, q1, q2⟩ := hH i (by omega)
        exact ⟨H, by rw [va_up_ne _ _ hik]; exact q1, kp3 _ _ (kp2 _ _ q2)⟩
    · have := hQ h' f' g1 g2 g3 (fun b e hb hbk => g4 b e (x_upo e3 hbk (o2 b e hb)) hbk)
      rw [show cs + 161 * (m + 1) = cs + 1 + 160 + 161 * m by omega, show sl + 7512 * (m + 1) = sl + 12 + 7500 + 7512 * m by omega] at this
      exact this
def CN (n pg rm x : Nat) (h : xH) : Prop := ∃ (HA IM SD OU CH UW bl wt nu cp up : Nat) (f : Nat → Option Nat), h x = some (.inr (11, [.ref HA, .int (nI pg), .int (nI rm), .ref IM, .ref SD, .ref OU, .ref CH, .ref UW, .int 0, .int (-1), .int (-1), .int 0, .int 0])) ∧ h HA = some (.inl (4, n, .inr (.inr (.inr (.inr f))))) ∧ (∀ i, i < n → ∃ H, f i = some H ∧ HostOK pg h i H) ∧ h IM = some (.inl (1, pg * 256, .inl fun _ => 0)) ∧ h SD = some (.inr (9, [.ref bl, .ref wt, .int 0, .int 0, .int 0])) ∧ h bl = some (.inl (1, 512, .inl fun _ => 0)) ∧ h OU = some (.inr (8, [.ref nu, .int 0])) ∧ h nu = some (.inl (0, 4096, .inl fun _ => 0)) ∧ h CH = some (.inr (2, [.ref cp, .int 0, .int 0])) ∧ h UW = some (.inr (2, [.ref up, .int 0, .int 0]))
set_option maxHeartbeats 4000000 in
set_option maxRecDepth 100000 in
theorem c_X11_init {G : xG} {ro : xR} {sv : Nat → Value} (hG : x_Good G ro sv) {d t t0 : Nat} {h : xH} {Q : xQ} {a1 a2 a3 : Int32} (hs0 : sv 0 = .ref t0) (hro : ∃ f, ro t0 = some (7, f)) (ht : h t = some (.inr (11, [.null, .int 0, .int 0, .null, .null, .null, .null, .null, .int 0, .int 0, .int 0, .int 0, .int 0]))) (hQ : ∀ h' n pg rm, x_ext t h h' → 2 ≤ n → n ≤ 4 → 4 ≤ pg → pg ≤ 16 → 1 ≤ rm → rm ≤ 32 → r_cl a1 2 4 = nI n → r_cl a2 4 16 = nI pg → r_cl a3 1 32 = nI rm → CN n pg rm t h' → Q none h') : G (d + 4) n_X11_init 1000 60000 0 [(0, .ref t), (1, .int a1), (2, .int a2), (3, .int a3)] [] h 0 0 Q := by
  obtain ⟨n, hn1, hn2, en, en'⟩ := wi_eq a1 2 4 (by decide) (by decide)
  obtain ⟨pg, hp1, hp2, ep, ep'⟩ := wi_eq a2 4 16 (by decide) (by decide)
  obtain ⟨rm, hr1, hr2, er, er'⟩ := wi_eq a3 1 32 (by decide) (by decide)
  repeat refine hG _ _ _ _ _ _ _ _ _ _ _ ?_
  refine ⟨0, 0, by decide, by decide, ?_⟩
  repeat refine hG _ _ _ _ _ _ _ _ _ _ _ ?_
  refine ⟨rfl, by decide, by decide, ?_⟩
  repeat refine hG _ _ _ _ _ _ _ _ _ _ _ ?_
  refine ⟨_, ht, Nat.le_of_ble_eq_true rfl, rfl, rfl, ?_⟩
  rintro h1 e1
  have k1 : h1 t = some (.inr (11, [.null, .int (nI pg), .int 0, .null, .null, .null, .null, .null, .int 0, .int 0, .int 0, .int 0, .int 0])) := by rw [e1, x_up_self, ← ep]; rfl
  repeat refine hG _ _ _ _ _ _ _ _ _ _ _ ?_
  refine ⟨0, 0, by decide, by decide, ?_⟩
  repeat refine hG _ _ _ _ _ _ _ _ _ _ _ ?_
  refine ⟨rfl, by decide, by decide, ?_⟩
  repeat refine hG _ _ _ _ _ _ _ _ _ _ _ ?_
  refine ⟨_, k1, Nat.le_of_ble_eq_true rfl, rfl, rfl, ?_⟩
  rintro h2 e2
  have k2 : h2 t = some (.inr (11, [.null, .int (nI pg), .int (nI rm), .null, .null, .null, .null, .null, .int 0, .int 0, .int 0, .int 0, .int 0])) := by rw [e2, x_up_self, ← er]; rfl
  repeat refine hG _ _ _ _ _ _ _ _ _ _ _ ?_
  refine ⟨0, 0, by decide, by decide, ?_⟩
  repeat refine hG _ _ _ _ _ _ _ _ _ _ _ ?_
  refine ⟨rfl, by decide, by decide, ?_⟩
  have ez : (nI n).toNatClampNeg = n := nI_clamp (by omega)
  have en2 : (if (2 : Int32) < (if a1 < 4 then a1 else 4) then (if a1 < 4 then a1 else 4) else 2) = nI n := en
  repeat refine hG _ _ _ _ _ _ _ _ _ _ _ ?_
  refine ⟨by rw [en2]; exact nI_pos (by omega), by rw [en2, ez]; omega, by decide, by rw [en2, ez]; omega, fun HA hHA => ?_⟩
  rintro h3 e3
  rw [en2, ez] at e3
  have k3 := x_upd e3 hHA k2
  have n3 := x_fr hHA k2
  repeat refine hG _ _ _ _ _ _ _ _ _ _ _ ?_
  refine ⟨_, k3, Nat.le_of_ble_eq_true rfl, rfl, rfl, ?_⟩
  rintro h4 e4
  have k4 : h4 t = some (.inr (11, [.ref HA, .int (nI pg), .int (nI rm), .null, .null, .null, .null, .null, .int 0, .int 0, .int 0, .int 0, .int 0])) := by rw [e4, x_up_self]; rfl
  have kA4 : h4 HA = some (.inl (4, n, .inr (.inr (.inr (.inr fun _ => none))))) := by rw [e4, x_up_ne (Ne.symm n3), e3, x_up_self]
  have o4 : ∀ b e, h b = some e → b ≠ t → h4 b = some e := fun b e hb hbt => x_upo e4 hbt (x_upd e3 hHA (x_upo e2 hbt (x_upo e1 hbt hb)))
  have oA : ∀ b e, h b = some e → b ≠ t → b ≠ HA := fun b e hb hbt => x_fr hHA (x_upo e2 hbt (x_upo e1 hbt hb))
  rw [en2, ez]
  refine hG _ _ _ _ _ _ _ _ _ _ _ ?_
  refine hG _ _ _ _ _ _ _ _ _ _ _ ?_
  refine c_X11_loop hG hs0 hro hp2 hn2 (T := [.ref HA, .int (nI pg), .int (nI rm), .null, .null, .null, .null, .null, .int 0, .int 0, .int 0, .int 0, .int 0]) rfl rfl n 0 (0 + 0 + 0 + 0 + 1) (0 + 0 + 0 + 0 + n) h4 _ (by omega) k4 kA4 (fun i hi => absurd hi (by omega)) (by omega) (by omega) (fun h5 f k5 kA5 hH5 g5 => ?_)
  have ec : (nI pg * 256).toNatClampNeg = pg * 256 := by rw [show nI pg * 256 = nI (pg * 256) from pk_mul pg 256, nI_clamp (by omega)]
  repeat refine hG _ _ _ _ _ _ _ _ _ _ _ ?_
  refine ⟨_, _, k5, rfl, ?_⟩
  repeat refine hG _ _ _ _ _ _ _ _ _ _ _ ?_
  refine ⟨by rw [show nI pg * 256 = nI (pg * 256) from pk_mul pg 256]; exact nI_pos (by omega), by rw [ec]; omega, by omega, by rw [ec]; omega, fun IM hIM => ?_⟩
  rintro h6 e6
  rw [ec] at e6
  rw [ec]
  have k6 := x_upd e6 hIM k5
  have n6 := x_fr hIM k5
  repeat refine hG _ _ _ _ _ _ _ _ _ _ _ ?_
  refine ⟨_, k6, Nat.le_of_ble_eq_true rfl, rfl, rfl, ?_⟩
  rintro h7 e7
  have k7 : h7 t = some (.inr (11, [.ref HA, .int (nI pg), .int (nI rm), .ref IM, .null, .null, .null, .null, .int 0, .int 0, .int 0, .int 0, .int 0])) := by rw [e7, x_up_self]; rfl
  have i7 : h7 IM = some (.inl (1, pg * 256, .inl fun _ => 0)) := by rw [e7, x_up_ne (Ne.symm n6), e6, x_up_self]; rfl
  have o7 : ∀ b e, h5 b = some e → b ≠ t → h7 b = some e := fun b e hb hbt => x_upo e7 hbt (x_upd e6 hIM hb)
  repeat refine hG _ _ _ _ _ _ _ _ _ _ _ ?_
  refine ⟨by omega, by show _ + 5 ≤ 60000; omega, fun SD hSD => ?_⟩
  rintro h8 e8
  repeat refine hG _ _ _ _ _ _ _ _ _ _ _ ?_
  refine ⟨260, 9700, by omega, by show _ + 5 + 9700 ≤ 60000; omega, c_X9_init hG (by rw [e8, x_up_self]; rfl) (fun h9 bl wt f9 s9 b9 => ?_)⟩
  have o9 : ∀ b e, h7 b = some e → h9 b = some e := fun b e hb => f9 b e (x_upd e8 hSD hb) (x_fr hSD hb)
  have nS : SD ≠ t := Ne.symm (x_fr hSD k7)
  have nbl : bl ≠ t := fun q => by subst q; rw [o9 _ _ k7] at b9; cases b9
  repeat refine hG _ _ _ _ _ _ _ _ _ _ _ ?_
  refine ⟨_, o9 _ _ k7, Nat.le_of_ble_eq_true rfl, rfl, rfl, ?_⟩
  rintro h10 e10
  have k10 : h10 t = some (.inr (11, [.ref HA, .int (nI pg), .int (nI rm), .ref IM, .ref SD, .null, .null, .null, .int 0, .int 0, .int 0, .int 0, .int 0])) := by rw [e10, x_up_self]; rfl
  have s10 := x_upo e10 nS s9
  have b10 := x_upo e10 nbl b9
  have o10 : ∀ b e, h7 b = some e → b ≠ t → h10 b = some e := fun b e hb hbt => x_upo e10 hbt (o9 b e hb)
  repeat refine hG _ _ _ _ _ _ _ _ _ _ _ ?_
  refine ⟨by omega, by show _ + 5 + 9700 + 2 ≤ 60000; omega, fun OU hOU => ?_⟩
  rintro h11 e11
  repeat refine hG _ _ _ _ _ _ _ _ _ _ _ ?_
  refine ⟨1, 4096, by omega, by show _ + 5 + 9700 + 2 + 4096 ≤ 60000; omega, c_X8_init hG (by rw [e11, x_up_self]; rfl) (fun h12 nu f12 u12 v12 => ?_)⟩
  have o12 : ∀ b e, h10 b = some e → h12 b = some e := fun b e hb => f12 b e (x_upd e11 hOU hb) (x_fr hOU hb)
  have nO : OU ≠ t := Ne.symm (x_fr hOU k10)
  have nnu : nu ≠ t := fun q => by subst q; rw [o12 _ _ k10] at v12; cases v12
  repeat refine hG _ _ _ _ _ _ _ _ _ _ _ ?_
  refine ⟨_, o12 _ _ k10, Nat.le_of_ble_eq_true rfl, rfl, rfl, ?_⟩
  rintro h13 e13
  have k13 : h13 t = some (.inr (11, [.ref HA, .int (nI pg), .int (nI rm), .ref IM, .ref SD, .ref OU, .null, .null, .int 0, .int 0, .int 0, .int 0, .int 0])) := by rw [e13, x_up_self]; rfl
  have u13 := x_upo e13 nO u12
  have v13 := x_upo e13 nnu v12
  have o13 : ∀ b e, h10 b = some e → b ≠ t → h13 b = some e := fun b e hb hbt => x_upo e13 hbt (o12 b e hb)
  repeat refine hG _ _ _ _ _ _ _ _ _ _ _ ?_
  refine ⟨by omega, by show _ + 5 + 9700 + 2 + 4096 + 3 ≤ 60000; omega, fun CH hCH => ?_⟩
  rintro h14 e14
  repeat refine hG _ _ _ _ _ _ _ _ _ _ _ ?_
  refine ⟨_, _, x_upd e14 hCH k13, rfl, ?_⟩
  repeat refine hG _ _ _ _ _ _ _ _ _ _ _ ?_
  refine ⟨1, 512, by omega, by show _ + 5 + 9700 + 2 + 4096 + 3 + 512 ≤ 60000; omega, c_X2_init hG ⟨hr1, by omega⟩ (by rw [e14, x_up_self]; rfl) (fun h15 cp f15 w15 _ => ?_)⟩
  have o15 : ∀ b e, h13 b = some e → h15 b = some e := fun b e hb => f15 b e (x_upd e14 hCH hb) (x_fr hCH hb)
  have nC : CH ≠ t := Ne.symm (x_fr hCH k13)
  repeat refine hG _ _ _ _ _ _ _ _ _ _ _ ?_
  refine ⟨_, o15 _ _ k13, Nat.le_of_ble_eq_true rfl, rfl, rfl, ?_⟩
  rintro h16 e16
  have k16 : h16 t = some (.inr (11, [.ref HA, .int (nI pg), .int (nI rm), .ref IM, .ref SD, .ref OU, .ref CH, .null, .int 0, .int 0, .int 0, .int 0, .int 0])) := by rw [e16, x_up_self]; rfl
  have w16 := x_upo e16 nC w15
  have o16 : ∀ b e, h13 b = some e → b ≠ t → h16 b = some e := fun b e hb hbt => x_upo e16 hbt (o15 b e hb)
  repeat refine hG _ _ _ _ _ _ _ _ _ _ _ ?_
  refine ⟨by omega, by show _ + 5 + 9700 + 2 + 4096 + 3 + 512 + 3 ≤ 60000; omega, fun UW hUW => ?_⟩
  rintro h17 e17
  repeat refine hG _ _ _ _ _ _ _ _ _ _ _ ?_
  refine ⟨_, _, x_upd e17 hUW k16, rfl, ?_⟩
  repeat refine hG _ _ _ _ _ _ _ _ _ _ _ ?_
  refine ⟨1, 512, by omega, by show _ + 5 + 9700 + 2 + 4096 + 3 + 512 + 3 + 512 ≤ 60000; omega, c_X2_init hG ⟨hr1, by omega⟩ (by rw [e17, x_up_self]; rfl) (fun h18 up f18 w18 _ => ?_)⟩
  have o18 : ∀ b e, h16 b = some e → h18 b = some e := fun b e hb => f18 b e (x_upd e17 hUW hb) (x_fr hUW hb)
  have nU : UW ≠ t := Ne.symm (x_fr hUW k16)
  repeat refine hG _ _ _ _ _ _ _ _ _ _ _ ?_
  refine ⟨_, o18 _ _ k16, Nat.le_of_ble_eq_true rfl, rfl, rfl, ?_⟩
  rintro h19 e19
  have k19 : h19 t = some (.inr (11, [.ref HA, .int (nI pg), .int (nI rm), .ref IM, .ref SD, .ref OU, .ref CH, .ref UW, .int 0, .int 0, .int 0, .int 0, .int 0])) := by rw [e19, x_up_self]; rfl
  repeat refine hG _ _ _ _ _ _ _ _ _ _ _ ?_
  refine ⟨_, k19, Nat.le_of_ble_eq_true rfl, rfl, rfl, ?_⟩
  rintro h20 e20
  have k20 : h20 t = some (.inr (11, [.ref HA, .int (nI pg), .int (nI rm), .ref IM, .ref SD, .ref OU, .ref CH, .ref UW, .int 0, .int (-1), .int 0, .int 0, .int 0])) := by rw [e20, x_up_self]; rfl
  repeat refine hG _ _ _ _ _ _ _ _ _ _ _ ?_
  refine ⟨_, k20, Nat.le_of_ble_eq_true rfl, rfl, rfl, ?_⟩
  rintro h21 e21
  have k21 : h21 t = some (.inr (11, [.ref HA, .int (nI pg), .int (nI rm), .ref IM, .ref SD, .ref OU, .ref CH, .ref UW, .int 0, .int (-1), .int (-1), .int 0, .int 0])) := by rw [e21, x_up_self]; rfl
  have o21 : ∀ b e, h18 b = some e → b ≠ t → h21 b = some e := fun b e hb hbt => x_upo e21 hbt (x_upo e20 hbt (x_upo e19 hbt hb))
  have z7 : ∀ b e, h7 b = some e → b ≠ t → h21 b = some e := fun b e hb hbt => o21 b e (o18 b e (o16 b e (o13 b e (o10 b e hb hbt) hbt) hbt)) hbt
  have z5 : ∀ b e, h5 b = some e → b ≠ t → h21 b = some e := fun b e hb hbt => z7 b e (o7 b e hb hbt) hbt
  repeat refine hG _ _ _ _ _ _ _ _ _ _ _ ?_
  refine ⟨by omega, by show _ + 5 + 9700 + 2 + 4096 + 3 + 512 + 3 + 512 ≤ 60000; omega, hQ h21 n pg rm (fun q z hq hqt => z5 q z (g5 q z (o4 q z hq hqt) (oA q z hq hqt)) hqt) hn1 hn2 hp1 hp2 hr1 hr2 en' ep' er' ⟨HA, IM, SD, OU, CH, UW, bl, wt, nu, cp, up, f, k21, z5 _ _ kA5 (Ne.symm n3), fun i hi => ?_, z7 _ _ i7 (Ne.symm n6), ?_, ?_, ?_, ?_, ?_, o21 _ _ w18 nU⟩⟩
  · obtain ⟨H, q1, q2⟩ := hH5 i hi
    exact ⟨H, q1, HostOK.keep (P := fun b => b ≠ t) q2 (fun b fs hb q => by subst q; rw [k5] at hb; cases hb) (fun b fs hb q => by subst q; rw [k5] at hb; cases hb) (fun b fs hb q => by subst q; rw [k5] at hb; cases hb) (fun b fs hb q => by subst q; rw [k5] at hb; cases hb) (fun b fs hb q => by subst q; rw [k5] at hb; cases hb) (fun b e hb hP => z5 b e hb hP)⟩
  · exact o21 _ _ (o18 _ _ (o16 _ _ (o13 _ _ s10 nS) nS)) nS
  · exact o21 _ _ (o18 _ _ (o16 _ _ (o13 _ _ b10 nbl) nbl)) nbl
  · exact o21 _ _ (o18 _ _ (o16 _ _ u13 nO)) nO
  · exact o21 _ _ (o18 _ _ (o16 _ _ v13 nnu)) nnu
  · exact o21 _ _ (o18 _ _ w16) nC
