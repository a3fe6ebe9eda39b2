def v_block (b k : Int32) : Int32 := if b = 8 then 0 else if b < 0 ∨ 8 < b ∨ k < 0 ∨ 64 ≤ k then -1 else 0
theorem blk_ix {b k : Int32} (h8 : ¬ b = 8) (hb0 : ¬ b < 0) (hb1 : b ≤ 8) (hk0 : ¬ k < 0) (hk1 : k < 64) : ∃ i j : Nat, i < 8 ∧ j < 64 ∧ b = nI i ∧ k = nI j := by
  obtain ⟨i, hi, rfl⟩ := nI_of2 (M := 8) (n := 8) (by decide) hb0 hb1
  obtain ⟨j, hj, rfl⟩ : ∃ j : Nat, j < 64 ∧ k = nI j := by
    rcases pk_ix k (n := 64) (by decide) with q | q | q
    · exact absurd q hk0
    · exact absurd hk1 (Int32.not_lt.mpr q)
    · exact q
  have hi8 : i ≠ 8 := fun q => h8 (by rw [q]; rfl)
  exact ⟨i, j, by omega, hj, rfl, rfl⟩
theorem k_block {G : xG} {ro : xR} {sv : Nat → Value} (hG : x_Good G ro sv) {d n pg rm x : Nat} {h : xH} {Q : xQ} {b k : Int32} (hC : CN n pg rm x h) (hQ : Q (some (.int (v_block b k))) h) : G d n_X11_block 0 0 0 [(0, .ref x), (1, .int b), (2, .int k)] [] h 0 0 Q := by
  obtain ⟨HA, IM, SD, OU, CH, UW, bl, wt, nu, cp, up, f, a1, a2, a3, a4, a5, a6, -⟩ := id hC
  have bad : ∀ (h8 : ¬ b = 8) (hw : b < 0 ∨ 8 < b ∨ k < 0 ∨ 64 ≤ k), G d n_X11_block 0 0 34 [(0, .ref x), (1, .int b), (2, .int k)] [] h 0 0 Q := by
    intro h8 hw
    rw [v_block, if_neg h8, if_pos hw] at hQ
    repeat refine hG _ _ _ _ _ _ _ _ _ _ _ ?_
    exact ⟨rfl, by decide, by decide, hQ⟩
  repeat refine hG _ _ _ _ _ _ _ _ _ _ _ ?_
  refine ⟨fun h8 => ?_, fun h8 => ?_⟩
  · repeat refine hG _ _ _ _ _ _ _ _ _ _ _ ?_
    refine ⟨fun hc => bad h8 (Or.inl hc), fun hb0 => ?_⟩
    repeat refine hG _ _ _ _ _ _ _ _ _ _ _ ?_
    refine ⟨fun hc => bad h8 (Or.inr (Or.inl hc)), fun hb1 => ?_⟩
    repeat refine hG _ _ _ _ _ _ _ _ _ _ _ ?_
    refine ⟨fun hc => bad h8 (Or.inr (Or.inr (Or.inl hc))), fun hk0 => ?_⟩
    repeat refine hG _ _ _ _ _ _ _ _ _ _ _ ?_
    refine ⟨fun hk1 => ?_, fun hc => bad h8 (Or.inr (Or.inr (Or.inr (Int32.not_lt.mp hc))))⟩
    have hw : ¬ (b < 0 ∨ 8 < b ∨ k < 0 ∨ 64 ≤ k) := fun q => by
      rcases q with q | q | q | q
      · exact hb0 q
      · exact hb1 q
      · exact hk0 q
      · exact Int32.not_lt.mpr q hk1
    rw [v_block, if_neg h8, if_neg hw] at hQ
    obtain ⟨i, j, hi, hj, rfl, rfl⟩ := blk_ix h8 hb0 (Int32.not_lt.mp hb1) hk0 hk1
    repeat refine hG _ _ _ _ _ _ _ _ _ _ _ ?_
    refine ⟨_, _, a1, rfl, ?_⟩
    repeat refine hG _ _ _ _ _ _ _ _ _ _ _ ?_
    refine ⟨_, _, a5, rfl, ?_⟩
    repeat refine hG _ _ _ _ _ _ _ _ _ _ _ ?_
    refine ⟨_, _, _, a6, Or.inl rfl, (by rw [show nI i * 64 = nI (i * 64) from pk_mul i 64, nI_add]; exact vp_in_nI (by omega) (by decide)), ?_⟩
    repeat refine hG _ _ _ _ _ _ _ _ _ _ _ ?_
    exact ⟨rfl, by decide, by decide, hQ⟩
  · rw [v_block, if_pos h8] at hQ
    repeat refine hG _ _ _ _ _ _ _ _ _ _ _ ?_
    refine ⟨_, _, a1, rfl, ?_⟩
    repeat refine hG _ _ _ _ _ _ _ _ _ _ _ ?_
    refine ⟨_, _, a5, rfl, ?_⟩
    repeat refine hG _ _ _ _ _ _ _ _ _ _ _ ?_
    exact ⟨rfl, by decide, by decide, hQ⟩
def v_put (pg : Nat) (a : Int32) : Int32 := if a < 0 ∨ nI (pg * 256) - 8 < a then 0 else 1
theorem put_ix {pg : Nat} {a : Int32} (h4 : 4 ≤ pg ∧ pg ≤ 16) (h0 : ¬ a < 0) (h1 : a ≤ nI (pg * 256) - 8) : ∃ j : Nat, j + 8 ≤ pg * 256 ∧ a = nI j := by
  have e : nI (pg * 256) - 8 = nI (pg * 256 - 8) := pk_sub (a := pg * 256) (b := 8) (by omega)
  rw [e] at h1
  obtain ⟨j, hj, rfl⟩ := nI_of2 (M := nI (pg * 256 - 8)) (n := pg * 256 - 8) (nI_toInt (by omega)) h0 h1
  exact ⟨j, by omega, rfl⟩
theorem k_putL {G : xG} {ro : xR} {sv : Nat → Value} (hG : x_Good G ro sv) {d pg x IM j : Nat} {T : List Value} {h0 : xH} {Q : xQ} {v : Int64} (hp : 4 ≤ pg ∧ pg ≤ 16) (hj : j + 8 ≤ pg * 256) (hT : T[3]? = some (.ref IM)) (hne : x ≠ IM) (hQ : ∀ h', (∀ b, b ≠ IM → h' b = h0 b) → Q (some (.int 1)) h') : ∀ (m k : Nat) (h : xH) (f : Nat → Int32), k + m = 8 → h x = some (.inr (11, T)) → h IM = some (.inl (1, pg * 256, .inl f)) → (∀ b, b ≠ IM → h b = h0 b) → G d n_X11_put 0 0 21 [(4, .int (nI k)), (0, .ref x), (1, .int (nI j)), (2, .long v)] [] h 0 0 Q := by
  intro m
  induction m with
  | zero =>
    intro k h f hk hx hI hf
    repeat refine hG _ _ _ _ _ _ _ _ _ _ _ ?_
    refine ⟨fun _ => ?_, fun hc => absurd (by rw [show k = 8 by omega]; exact Int32.le_refl _) hc⟩
    repeat refine hG _ _ _ _ _ _ _ _ _ _ _ ?_
    exact ⟨rfl, by decide, by decide, hQ h hf⟩
  | succ m ih =>
    intro k h f hk hx hI hf
    repeat refine hG _ _ _ _ _ _ _ _ _ _ _ ?_
    refine ⟨fun hc => absurd hc (nI_ge (b := 8) (by omega) (by decide)), fun _ => ?_⟩
    repeat refine hG _ _ _ _ _ _ _ _ _ _ _ ?_
    refine ⟨_, _, hx, hT, ?_⟩
    repeat refine hG _ _ _ _ _ _ _ _ _ _ _ ?_
    refine ⟨_, _, _, .byte, hI, rfl, Or.inl rfl, (by rw [nI_add]; exact vp_in_nI (by omega) (by omega)), ?_⟩
    rintro h1 e1
    refine hG _ _ _ _ _ _ _ _ _ _ _ ?_
    refine hG _ _ _ _ _ _ _ _ _ _ _ ?_
    have ih1 := ih (k + 1)
    rw [nI_succ] at ih1
    exact ih1 h1 _ (by omega) (x_upo e1 hne hx) (by rw [e1, x_up_self]) (fun b hb => by rw [e1, x_up_ne hb]; exact hf b hb)
theorem k_put {G : xG} {ro : xR} {sv : Nat → Value} (hG : x_Good G ro sv) {d n pg rm x : Nat} {hx h : xH} {Q : xQ} {a : Int32} {v : Int64} (hp : 4 ≤ pg ∧ pg ≤ 16) (hC : CN n pg rm x hx) (hm : ∀ b e, hx b = some e → h b = some e) (hQ : ∀ h', (∀ b, hx b = none → h' b = h b) → Q (some (.int (v_put pg a))) h') : G d n_X11_put 0 0 0 [(0, .ref x), (1, .int a), (2, .long v)] [] h 0 0 Q := by
  obtain ⟨HA, IM, SD, OU, CH, UW, bl, wt, nu, cp, up, f, a1, a2, a3, a4, a5, -⟩ := id hC
  have hne : x ≠ IM := fun q => by subst q; rw [a1] at a4; cases a4
  have bad : ∀ (hw : a < 0 ∨ nI (pg * 256) - 8 < a), G d n_X11_put 0 0 16 [(0, .ref x), (1, .int a), (2, .long v)] [] h 0 0 Q := by
    intro hw
    rw [v_put, if_pos hw] at hQ
    repeat refine hG _ _ _ _ _ _ _ _ _ _ _ ?_
    exact ⟨rfl, by decide, by decide, hQ h (fun _ _ => rfl)⟩
  repeat refine hG _ _ _ _ _ _ _ _ _ _ _ ?_
  refine ⟨fun hc => bad (Or.inl hc), fun h0 => ?_⟩
  repeat refine hG _ _ _ _ _ _ _ _ _ _ _ ?_
  refine ⟨_, _, hm _ _ a1, rfl, ?_⟩
  repeat refine hG _ _ _ _ _ _ _ _ _ _ _ ?_
  refine ⟨pg * 256, Or.inl ⟨_, _, hm _ _ a4, by decide, rfl⟩, ?_⟩
  repeat refine hG _ _ _ _ _ _ _ _ _ _ _ ?_
  refine ⟨fun h1 => ?_, fun hc => bad (Or.inr (Int32.not_le.mp hc))⟩
  rw [v_put, if_neg (fun q => q.elim h0 (Int32.not_lt.mpr h1))] at hQ
  obtain ⟨j, hj, rfl⟩ := put_ix hp h0 h1
  refine hG _ _ _ _ _ _ _ _ _ _ _ ?_
  refine hG _ _ _ _ _ _ _ _ _ _ _ ?_
  exact k_putL hG (h0 := h) hp hj rfl hne (fun h' hf => hQ h' (fun b hb => hf b (fun q => by subst q; rw [a4] at hb; cases hb))) 8 0 h _ rfl (hm _ _ a1) (hm _ _ a4) (fun _ _ => rfl)
theorem k_boot {G : xG} {ro : xR} {sv : Nat → Value} (hG : x_Good G ro sv) {d n pg rm x : Nat} {hx h : xH} {Q : xQ} (hn : 2 ≤ n) (hn4 : n ≤ 4) (hp : 4 ≤ pg ∧ pg ≤ 16) (hC : CN n pg rm x hx) (hm : ∀ b e, hx b = some e → h b = some e) (hQ : ∀ h', (∀ b, hx b = none → h' b = h b) → Q (some (.int 1)) h') : G (d + 1) n_X11_boot 0 0 0 [(0, .ref x)] [] h 0 0 Q := by
  obtain ⟨HA, IM, SD, OU, CH, UW, bl, wt, nu, cp, up, f, a1, a2, a3, a4, a5, -⟩ := id hC
  obtain ⟨H, q1, g, ib, kp, mm, dv, rg, ct, mb, mt, pl, c1, c2, c3, c4, c5⟩ := a3 0 (by omega)
  have nHx : H ≠ x := fun q => by subst q; rw [a1] at c1; cases c1
  have nAx : HA ≠ x := fun q => by subst q; rw [a1] at a2; cases a2
  have ngx : g ≠ x := fun q => by subst q; rw [a1] at c2; cases c2
  have nmx : mm ≠ x := fun q => by subst q; rw [a1] at c3; cases c3
  have nbx : mb ≠ x := fun q => by subst q; rw [a1] at c4; cases c4
  have nIx : IM ≠ x := fun q => by subst q; rw [a1] at a4; cases a4
  have ngH : g ≠ H := fun q => by subst q; rw [c1] at c2; cases c2
  have nmH : mm ≠ H := fun q => by subst q; rw [c1] at c3; cases c3
  have nbH : mb ≠ H := fun q => by subst q; rw [c1] at c4; cases c4
  have nIH : IM ≠ H := fun q => by subst q; rw [c1] at a4; cases a4
  have nxH : x ≠ H := Ne.symm nHx
  have ez : (nI (pg * 256)).toNatClampNeg = pg * 256 := nI_clamp (by omega)
  have ec : (Int32.ofNat (pg * 256)).toNatClampNeg = pg * 256 := ez
  repeat refine hG _ _ _ _ _ _ _ _ _ _ _ ?_
  refine ⟨_, _, hm _ _ a1, rfl, ?_⟩
  repeat refine hG _ _ _ _ _ _ _ _ _ _ _ ?_
  refine ⟨fun _ => ?_, fun hc => absurd rfl hc⟩
  repeat refine hG _ _ _ _ _ _ _ _ _ _ _ ?_
  refine ⟨_, hm _ _ a1, Nat.le_of_ble_eq_true rfl, rfl, rfl, ?_⟩
  rintro h1 e1
  have k1 : h1 x = some (.inr (11, [.ref HA, .int (nI pg), .int (nI rm), .ref IM, .ref SD, .ref OU, .ref CH, .ref UW, .int 1, .int (-1), .int (-1), .int 0, .int 0])) := by rw [e1, x_up_self]; rfl
  repeat refine hG _ _ _ _ _ _ _ _ _ _ _ ?_
  refine ⟨_, _, k1, rfl, ?_⟩
  repeat refine hG _ _ _ _ _ _ _ _ _ _ _ ?_
  refine ⟨_, _, _, _, some H, x_upo e1 nAx (hm _ _ a2), rfl, (vp_in_nI (n := 0) (by omega) (by omega)), q1, ?_⟩
  repeat refine hG _ _ _ _ _ _ _ _ _ _ _ ?_
  refine ⟨_, x_upo e1 nHx (hm _ _ c1), Nat.le_of_ble_eq_true rfl, rfl, rfl, ?_⟩
  rintro h2 e2
  have k2 : h2 H = some (.inr (4, [.int (nI 0), .ref g, .ref ib, .ref kp, .int 1, .int 0, .int 0, .int 0, .int 0, .int 0, .int 0, .int 0])) := by rw [e2, x_up_self]; rfl
  repeat refine hG _ _ _ _ _ _ _ _ _ _ _ ?_
  refine ⟨_, _, k2, rfl, ?_⟩
  repeat refine hG _ _ _ _ _ _ _ _ _ _ _ ?_
  refine ⟨_, _, x_upo e2 ngH (x_upo e1 ngx (hm _ _ c2)), rfl, ?_⟩
  repeat refine hG _ _ _ _ _ _ _ _ _ _ _ ?_
  refine ⟨_, _, x_upo e2 nxH k1, rfl, ?_⟩
  repeat refine hG _ _ _ _ _ _ _ _ _ _ _ ?_
  have m2 := x_upo e2 nmH (x_upo e1 nmx (hm _ _ c3))
  have b2 := x_upo e2 nbH (x_upo e1 nbx (hm _ _ c4))
  have i2 := x_upo e2 nIH (x_upo e1 nIx (hm _ _ a4))
  refine ⟨⟨_, m2⟩, 0, 0, by decide, by decide, ?_⟩
  repeat refine hG _ _ _ _ _ _ _ _ _ _ _ ?_
  refine ⟨_, _, m2, rfl, ?_⟩
  repeat refine hG _ _ _ _ _ _ _ _ _ _ _ ?_
  refine ⟨pg * 256, Or.inl ⟨_, _, i2, by decide, rfl⟩, ?_⟩
  repeat refine hG _ _ _ _ _ _ _ _ _ _ _ ?_
  refine ⟨_, _, m2, rfl, ?_⟩
  repeat refine hG _ _ _ _ _ _ _ _ _ _ _ ?_
  refine ⟨pg * 256, Or.inl ⟨_, _, b2, by decide, rfl⟩, ?_⟩
  repeat refine hG _ _ _ _ _ _ _ _ _ _ _ ?_
  refine ⟨_, _, _, _, _, .byte, i2, b2, rfl, rfl, by decide, by decide, ?_, ?_, ?_, fun i _ => rfl, ?_⟩
  · rw [if_neg (Int32.lt_irrefl)]; exact nI_pos (by omega)
  · rw [if_neg (Int32.lt_irrefl), ec]; show 0 + _ ≤ _; omega
  · rw [if_neg (Int32.lt_irrefl), ec]; show 0 + _ ≤ _; omega
  rintro h3 e3
  repeat refine hG _ _ _ _ _ _ _ _ _ _ _ ?_
  refine ⟨by decide, by decide, ?_⟩
  repeat refine hG _ _ _ _ _ _ _ _ _ _ _ ?_
  refine ⟨rfl, by decide, by decide, hQ h3 (fun b hb => ?_)⟩
  have w1 : b ≠ mb := fun q => by subst q; rw [c4] at hb; cases hb
  have w2 : b ≠ H := fun q => by subst q; rw [c1] at hb; cases hb
  have w3 : b ≠ x := fun q => by subst q; rw [a1] at hb; cases hb
  rw [e3, x_up_ne w1, e2, x_up_ne w2, e1, x_up_ne w3]
theorem k_hostAtX {G : xG} {ro : xR} {sv : Nat → Value} (hG : x_Good G ro sv) {d n pg rm x : Nat} {hx h : xH} {Q : xQ} {i : Int32} (hn : n ≤ 4) (hC : CN n pg rm x hx) (hm : ∀ b e, hx b = some e → h b = some e) (hQ1 : (i < 0 ∨ nI n ≤ i) → Q (some .null) h) (hQ2 : ∀ j H, j < n → i = nI j → HostOK pg hx j H → Q (some (.ref H)) h) : G d n_X11_hostAt 0 0 0 [(0, .ref x), (1, .int i)] [] h 0 0 Q := by
  obtain ⟨HA, IM, SD, OU, CH, UW, bl, wt, nu, cp, up, f, a1, a2, a3, -⟩ := id hC
  repeat refine hG _ _ _ _ _ _ _ _ _ _ _ ?_
  refine ⟨fun hc => ?_, fun hc => ?_⟩
  · repeat refine hG _ _ _ _ _ _ _ _ _ _ _ ?_
    exact ⟨Nat.le_refl _, Nat.le_refl _, hQ1 (Or.inl hc)⟩
  · repeat refine hG _ _ _ _ _ _ _ _ _ _ _ ?_
    refine ⟨_, _, hm _ _ a1, rfl, ?_⟩
    repeat refine hG _ _ _ _ _ _ _ _ _ _ _ ?_
    refine ⟨n, Or.inl ⟨_, _, hm _ _ a2, by decide, rfl⟩, ?_⟩
    repeat refine hG _ _ _ _ _ _ _ _ _ _ _ ?_
    refine ⟨fun hc2 => ?_, fun hc2 => ?_⟩
    · obtain ⟨j, hj, rfl⟩ : ∃ j : Nat, j < n ∧ i = nI j := by
        rcases pk_ix i (n := n) (by omega) with q | q | q
        · exact absurd q hc
        · exact absurd hc2 (Int32.not_lt.mpr q)
        · exact q
      obtain ⟨H, q1, q2⟩ := a3 j hj
      repeat refine hG _ _ _ _ _ _ _ _ _ _ _ ?_
      refine ⟨_, _, hm _ _ a1, rfl, ?_⟩
      repeat refine hG _ _ _ _ _ _ _ _ _ _ _ ?_
      refine ⟨_, _, _, _, some H, hm _ _ a2, rfl, vp_in_nI hj (by omega), (by rw [nI_clamp (show j < 2 ^ 31 by omega)]; exact q1), ?_⟩
      repeat refine hG _ _ _ _ _ _ _ _ _ _ _ ?_
      exact ⟨Nat.le_refl _, Nat.le_refl _, hQ2 j H hj rfl q2⟩
    · repeat refine hG _ _ _ _ _ _ _ _ _ _ _ ?_
      exact ⟨Nat.le_refl _, Nat.le_refl _, hQ1 (Or.inr (Int32.not_lt.mp hc2))⟩
def v_crash (n : Nat) (i : Int32) : Int32 := if i < 0 ∨ nI n ≤ i then 0 else 1
theorem k_crash {G : xG} {ro : xR} {sv : Nat → Value} (hG : x_Good G ro sv) {d n pg rm x : Nat} {hx h : xH} {Q : xQ} {i : Int32} (hn : n ≤ 4) (hC : CN n pg rm x hx) (hm : ∀ b e, hx b = some e → h b = some e) (hQ : ∀ h', (∀ b, hx b = none → h' b = h b) → Q (some (.int (v_crash n i))) h') : G (d + 3) n_X11_crash 0 0 0 [(0, .ref x), (1, .int i)] [] h 0 0 Q := by
  obtain ⟨HA, IM, SD, OU, CH, UW, bl, wt, nu, cp, up, f, a1, a2, a3, a4, a5, -⟩ := id hC
  have hCh := hC.mono hm
  repeat refine hG _ _ _ _ _ _ _ _ _ _ _ ?_
  refine ⟨⟨_, hm _ _ a1⟩, 0, 0, by decide, by decide, k_hostAtX hG hn hC hm (fun hq => ?_) (fun j H hj hij hH => ?_)⟩
  · rw [v_crash, if_pos hq] at hQ
    repeat refine hG _ _ _ _ _ _ _ _ _ _ _ ?_
    exact ⟨rfl, by decide, by decide, hQ h (fun _ _ => rfl)⟩
  · obtain ⟨g, ib, kp, mm, dv, rg, ct, mb, mt, pl, c1, c2, c3, c4, c5⟩ := hH
    have hno : ¬ (i < 0 ∨ nI n ≤ i) := by
      subst hij
      exact fun q => q.elim (nI_pos (by omega)) (nI_ge hj (by omega))
    rw [v_crash, if_neg hno] at hQ
    have nib : ib ≠ H := fun q => by subst q; rw [c1] at c5; cases c5
    repeat refine hG _ _ _ _ _ _ _ _ _ _ _ ?_
    refine ⟨_, _, hm _ _ c1, rfl, ?_⟩
    repeat refine hG _ _ _ _ _ _ _ _ _ _ _ ?_
    refine ⟨fun _ => ?_, fun hc => absurd hc (by decide)⟩
    repeat refine hG _ _ _ _ _ _ _ _ _ _ _ ?_
    refine ⟨⟨_, hm _ _ a1⟩, 0, 0, by decide, by decide, k_receiving hG hn hCh ?_⟩
    repeat refine hG _ _ _ _ _ _ _ _ _ _ _ ?_
    refine ⟨_, _, hm _ _ c1, rfl, ?_⟩
    repeat refine hG _ _ _ _ _ _ _ _ _ _ _ ?_
    refine ⟨fun _ => ?_, fun hc => absurd hc (by decide)⟩
    repeat refine hG _ _ _ _ _ _ _ _ _ _ _ ?_
    refine ⟨⟨_, hm _ _ c1⟩, 0, 0, by decide, by decide, ?_⟩
    repeat refine hG _ _ _ _ _ _ _ _ _ _ _ ?_
    refine ⟨_, hm _ _ c1, Nat.le_of_ble_eq_true rfl, rfl, rfl, ?_⟩
    rintro h1 e1
    have k1 : h1 H = some (.inr (4, [.int (nI j), .ref g, .ref ib, .ref kp, .int 6, .int 0, .int 0, .int 0, .int 0, .int 0, .int 0, .int 0])) := by rw [e1, x_up_self]; rfl
    repeat refine hG _ _ _ _ _ _ _ _ _ _ _ ?_
    refine ⟨_, _, k1, rfl, ?_⟩
    repeat refine hG _ _ _ _ _ _ _ _ _ _ _ ?_
    refine ⟨_, k1, Nat.le_of_ble_eq_true rfl, rfl, rfl, ?_⟩
    rintro h2 e2
    have k2 : h2 H = some (.inr (4, [.int (nI j), .ref g, .ref ib, .ref kp, .int 6, .int 0, .int 0, .int 0, .int 0, .int 0, .int 0, .int (0 + 1)])) := by rw [e2, x_up_self]; rfl
    repeat refine hG _ _ _ _ _ _ _ _ _ _ _ ?_
    refine ⟨⟨_, k2⟩, 0, 0, by decide, by decide, ?_⟩
    repeat refine hG _ _ _ _ _ _ _ _ _ _ _ ?_
    refine ⟨_, k2, Nat.le_of_ble_eq_true rfl, rfl, rfl, ?_⟩
    rintro h3 e3
    have k3 : h3 H = some (.inr (4, [.int (nI j), .ref g, .ref ib, .ref kp, .int 6, .int 0, .int 0, .int 0, .int 0, .int 0, .int 0, .int (0 + 1)])) := by rw [e3, x_up_self]; rfl
    repeat refine hG _ _ _ _ _ _ _ _ _ _ _ ?_
    refine ⟨_, k3, Nat.le_of_ble_eq_true rfl, rfl, rfl, ?_⟩
    rintro h4 e4
    have k4 : h4 H = some (.inr (4, [.int (nI j), .ref g, .ref ib, .ref kp, .int 6, .int 0, .int 0, .int 0, .int 0, .int 0, .int 0, .int (0 + 1)])) := by rw [e4, x_up_self]; rfl
    repeat refine hG _ _ _ _ _ _ _ _ _ _ _ ?_
    refine ⟨_, k4, Nat.le_of_ble_eq_true rfl, rfl, rfl, ?_⟩
    rintro h5 e5
    have k5 : h5 H = some (.inr (4, [.int (nI j), .ref g, .ref ib, .ref kp, .int 6, .int 0, .int 0, .int 0, .int 0, .int 0, .int 0, .int (0 + 1)])) := by rw [e5, x_up_self]; rfl
    repeat refine hG _ _ _ _ _ _ _ _ _ _ _ ?_
    refine ⟨_, k5, Nat.le_of_ble_eq_true rfl, rfl, rfl, ?_⟩
    rintro h6 e6
    have k6 : h6 H = some (.inr (4, [.int (nI j), .ref g, .ref ib, .ref kp, .int 6, .int 0, .int 0, .int 0, .int 0, .int 0, .int 0, .int (0 + 1)])) := by rw [e6, x_up_self]; rfl
    have i6 := x_upo e6 nib (x_upo e5 nib (x_upo e4 nib (x_upo e3 nib (x_upo e2 nib (x_upo e1 nib (hm _ _ c5))))))
    repeat refine hG _ _ _ _ _ _ _ _ _ _ _ ?_
    refine ⟨by decide, by decide, ?_⟩
    repeat refine hG _ _ _ _ _ _ _ _ _ _ _ ?_
    refine ⟨_, _, k6, rfl, ?_⟩
    repeat refine hG _ _ _ _ _ _ _ _ _ _ _ ?_
    refine ⟨⟨_, i6⟩, 0, 0, by decide, by decide, ?_⟩
    repeat refine hG _ _ _ _ _ _ _ _ _ _ _ ?_
    refine ⟨_, i6, Nat.le_of_ble_eq_true rfl, rfl, rfl, ?_⟩
    rintro h7 e7
    have i7 : h7 ib = some (.inr (2, [.ref pl, .int 0, .int 0])) := by rw [e7, x_up_self]; rfl
    repeat refine hG _ _ _ _ _ _ _ _ _ _ _ ?_
    refine ⟨_, i7, Nat.le_of_ble_eq_true rfl, rfl, rfl, ?_⟩
    rintro h8 e8
    have k8 := x_upo e8 (Ne.symm nib) (x_upo e7 (Ne.symm nib) k6)
    repeat refine hG _ _ _ _ _ _ _ _ _ _ _ ?_
    refine ⟨by decide, by decide, ?_⟩
    repeat refine hG _ _ _ _ _ _ _ _ _ _ _ ?_
    refine ⟨_, _, k8, rfl, ?_⟩
    repeat refine hG _ _ _ _ _ _ _ _ _ _ _ ?_
    refine ⟨⟨_, k8⟩, 0, 0, by decide, by decide, ?_⟩
    repeat refine hG _ _ _ _ _ _ _ _ _ _ _ ?_
    refine ⟨_, _, k8, rfl, ?_⟩
    repeat refine hG _ _ _ _ _ _ _ _ _ _ _ ?_
    refine ⟨0, 0, by decide, by decide, ?_⟩
    repeat refine hG _ _ _ _ _ _ _ _ _ _ _ ?_
    refine ⟨rfl, by decide, by decide, ?_⟩
    repeat refine hG _ _ _ _ _ _ _ _ _ _ _ ?_
    refine ⟨_, _, k8, rfl, ?_⟩
    repeat refine hG _ _ _ _ _ _ _ _ _ _ _ ?_
    refine ⟨_, k8, Nat.le_of_ble_eq_true rfl, rfl, rfl, ?_⟩
    rintro h9 e9
    have k9 := x_ups e9
    repeat refine hG _ _ _ _ _ _ _ _ _ _ _ ?_
    refine ⟨_, _, k9, rfl, ?_⟩
    repeat refine hG _ _ _ _ _ _ _ _ _ _ _ ?_
    refine ⟨_, k9, Nat.le_of_ble_eq_true rfl, rfl, rfl, ?_⟩
    rintro h10 e10
    repeat refine hG _ _ _ _ _ _ _ _ _ _ _ ?_
    refine ⟨by decide, by decide, ?_⟩
    repeat refine hG _ _ _ _ _ _ _ _ _ _ _ ?_
    refine ⟨by decide, by decide, ?_⟩
    repeat refine hG _ _ _ _ _ _ _ _ _ _ _ ?_
    refine ⟨rfl, by decide, by decide, hQ h10 (fun b hb => ?_)⟩
    have w1 : b ≠ H := fun q => by subst q; rw [c1] at hb; cases hb
    have w2 : b ≠ ib := fun q => by subst q; rw [c5] at hb; cases hb
    rw [e10, x_up_ne w1, e9, x_up_ne w1, e8, x_up_ne w2, e7, x_up_ne w2, e6, x_up_ne w1, e5, x_up_ne w1, e4, x_up_ne w1, e3, x_up_ne w1, e2, x_up_ne w1, e1, x_up_ne w1]
