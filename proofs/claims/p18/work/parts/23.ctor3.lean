theorem c_X9_loop {G : xG} {ro : xR} {sv : Nat → Value} (hG : x_Good G ro sv) {d t wt mc ms : Nat} {T : List Value} {Q : xQ} (hT : T[1]? = some (.ref wt)) : ∀ (n k cs sl : Nat) (h : xH) (f : Nat → Option Nat), k + n = 128 → h t = some (.inr (9, T)) → h wt = some (.inl (7, 128, .inr (.inr (.inr (.inr f))))) → cs + 2 * n ≤ mc → sl + 70 * n ≤ ms → (∀ h', (∀ b e, h b = some e → b ≠ wt → h' b = some e) → Q none h') → G (d + 1) n_X9_init mc ms 25 [(1, .int (nI k)), (0, .ref t)] [] h cs sl Q := by
  intro n
  induction n with
  | zero =>
    intro k cs sl h f hk ht hkp hcs hsl hQ
    repeat refine hG _ _ _ _ _ _ _ _ _ _ _ ?_
    refine ⟨_, _, ht, hT, ?_⟩
    repeat refine hG _ _ _ _ _ _ _ _ _ _ _ ?_
    refine ⟨128, Or.inl ⟨_, _, hkp, by decide, rfl⟩, ?_⟩
    repeat refine hG _ _ _ _ _ _ _ _ _ _ _ ?_
    refine ⟨fun _ => ?_, fun hc => absurd (by rw [show k = 128 by omega]; exact Int32.le_refl _) hc⟩
    repeat refine hG _ _ _ _ _ _ _ _ _ _ _ ?_
    exact ⟨by omega, by omega, hQ h (fun b e hb _ => hb)⟩
  | succ n ih =>
    intro k cs sl h f hk ht hkp hcs hsl hQ
    repeat refine hG _ _ _ _ _ _ _ _ _ _ _ ?_
    refine ⟨_, _, ht, hT, ?_⟩
    repeat refine hG _ _ _ _ _ _ _ _ _ _ _ ?_
    refine ⟨128, Or.inl ⟨_, _, hkp, by decide, rfl⟩, ?_⟩
    repeat refine hG _ _ _ _ _ _ _ _ _ _ _ ?_
    refine ⟨fun hc => absurd hc (nI_ge (b := 128) (by omega) (by decide)), fun _ => ?_⟩
    repeat refine hG _ _ _ _ _ _ _ _ _ _ _ ?_
    refine ⟨_, _, ht, hT, ?_⟩
    repeat refine hG _ _ _ _ _ _ _ _ _ _ _ ?_
    refine ⟨by omega, by show sl + 6 ≤ ms; omega, fun a ha => ?_⟩
    rintro h1 e1
    have kt1 := x_upd e1 ha ht
    have kk1 := x_upd e1 ha hkp
    have nk : wt ≠ a := x_fr ha hkp
    have nt : t ≠ a := x_fr ha ht
    repeat refine hG _ _ _ _ _ _ _ _ _ _ _ ?_
    refine ⟨1, 64, by omega, by show sl + 6 + 64 ≤ ms; omega, c_X6_init hG (by rw [e1, x_up_self]; rfl) (fun h2 b hn k1 k2 => ?_)⟩
    have kt2 := hn.ext t _ kt1 nt
    have kk2 := hn.ext wt _ kk1 nk
    repeat refine hG _ _ _ _ _ _ _ _ _ _ _ ?_
    refine ⟨_, _, _, _, _, kk2, k1, rfl, vp_in_nI (by omega) (by decide), ?_⟩
    rintro h3 e3
    have ntk : t ≠ wt := fun q => by subst q; rw [ht] at hkp; cases hkp
    refine hG _ _ _ _ _ _ _ _ _ _ _ ?_
    refine hG _ _ _ _ _ _ _ _ _ _ _ ?_
    have ih1 := ih (k + 1)
    rw [nI_succ] at ih1
    refine ih1 (cs + 1 + 1) (sl + 6 + 64) h3 _ (by omega) (x_upo e3 ntk kt2) (by rw [e3, x_up_self]) (by omega) (by omega) (fun h' hf => hQ h' (fun q z hq hqk => ?_))
    have q1 := x_upd e1 ha hq
    have q2 := hn.ext q z q1 (x_fr ha hq)
    exact hf q z (x_upo e3 hqk q2) hqk
theorem c_X9_init {G : xG} {ro : xR} {sv : Nat → Value} (hG : x_Good G ro sv) {d t : Nat} {h : xH} {Q : xQ} (ht : h t = some (.inr (9, [.null, .null, .int 0, .int 0, .int 0]))) (hQ : ∀ h' bl wt, x_ext t h h' → h' t = some (.inr (9, [.ref bl, .ref wt, .int 0, .int 0, .int 0])) → h' bl = some (.inl (1, 512, .inl fun _ => 0)) → Q none h') : G (d + 1) n_X9_init 260 9700 0 [(0, .ref t)] [] h 0 0 Q := by
  repeat refine hG _ _ _ _ _ _ _ _ _ _ _ ?_
  refine ⟨by decide, by decide, by decide, by decide, fun bl hbl => ?_⟩
  rintro h1 e1
  have n1 := x_fr hbl ht
  have k1 := x_upd e1 hbl ht
  repeat refine hG _ _ _ _ _ _ _ _ _ _ _ ?_
  refine ⟨_, k1, Nat.le_of_ble_eq_true rfl, rfl, rfl, ?_⟩
  rintro h2 e2
  have k2 : h2 t = some (.inr (9, [.ref bl, .null, .int 0, .int 0, .int 0])) := by rw [e2, x_up_self]; rfl
  have b2 : h2 bl = some (.inl (1, 512, .inl fun _ => 0)) := by rw [e2, x_up_ne (Ne.symm n1), e1, x_up_self]; rfl
  repeat refine hG _ _ _ _ _ _ _ _ _ _ _ ?_
  refine ⟨by decide, by decide, by decide, by decide, fun wt hwt => ?_⟩
  rintro h3 e3
  have k3 := x_upd e3 hwt k2
  have n3 := x_fr hwt k2
  have b3 := x_upd e3 hwt b2
  have nb := x_fr hwt b2
  repeat refine hG _ _ _ _ _ _ _ _ _ _ _ ?_
  refine ⟨_, k3, Nat.le_of_ble_eq_true rfl, rfl, rfl, ?_⟩
  rintro h4 e4
  have k4 : h4 t = some (.inr (9, [.ref bl, .ref wt, .int 0, .int 0, .int 0])) := by rw [e4, x_up_self]; rfl
  have b4 := x_upo e4 (Ne.symm n1) b3
  refine hG _ _ _ _ _ _ _ _ _ _ _ ?_
  refine hG _ _ _ _ _ _ _ _ _ _ _ ?_
  refine c_X9_loop hG (t := t) (wt := wt) rfl 128 0 _ _ h4 (fun _ => none) rfl k4 (by rw [e4, x_up_ne (Ne.symm n3), e3, x_up_self]; rfl) (by decide) (by decide) (fun h' hf => hQ h' bl wt (fun q z hq hqt => ?_) (hf t _ k4 n3) (hf bl _ b4 nb))
  have q2 := x_upo e2 hqt (x_upd e1 hbl hq)
  exact hf q z (x_upo e4 hqt (x_upd e3 hwt q2)) (x_fr hwt q2)
theorem wi_eq (p : Int32) (lo hi : Nat) (h1 : lo ≤ hi) (h2 : hi < 1000) : ∃ g : Nat, lo ≤ g ∧ g ≤ hi ∧ (if nI lo < (if p < nI hi then p else nI hi) then (if p < nI hi then p else nI hi) else nI lo) = nI g ∧ r_cl p (nI lo) (nI hi) = nI g := by
  by_cases ha : p < nI hi
  · rw [if_pos ha]
    by_cases hb : nI lo < p
    · rw [if_pos hb]
      obtain ⟨j, hj, rfl⟩ : ∃ j : Nat, j < hi ∧ p = nI j := by
        rcases pk_ix p (n := hi) (by omega) with q | q | q
        · exact absurd (Int32.lt_trans hb q) (nI_pos (by omega))
        · exact absurd ha (Int32.not_lt.mpr q)
        · exact q
      have h3 := (nI_ltI (by omega) (by omega)).mp hb
      refine ⟨j, by omega, by omega, rfl, ?_⟩
      rw [r_cl, if_neg (nI_nlt (by omega) (by omega)), if_neg (nI_nlt (by omega) (by omega))]
    · rw [if_neg hb]
      refine ⟨lo, Nat.le_refl _, h1, rfl, ?_⟩
      by_cases hc : p < nI lo
      · rw [r_cl, if_pos hc]
      · have e : p = nI lo := Int32.le_antisymm (Int32.not_lt.mp hb) (Int32.not_lt.mp hc)
        rw [r_cl, if_neg hc, if_neg (fun q => Int32.lt_irrefl (Int32.lt_trans ha q)), e]
  · rw [if_neg ha]
    by_cases hb : nI lo < nI hi
    · rw [if_pos hb]
      refine ⟨hi, h1, Nat.le_refl _, rfl, ?_⟩
      have hc : ¬ p < nI lo := fun q => ha (Int32.lt_trans q hb)
      by_cases hd : nI hi < p
      · rw [r_cl, if_neg hc, if_pos hd]
      · rw [r_cl, if_neg hc, if_neg hd]
        exact Int32.le_antisymm (Int32.not_lt.mp hd) (Int32.not_lt.mp ha)
    · rw [if_neg hb]
      have e : lo = hi := by
        rcases Nat.lt_or_ge lo hi with q | q
        · exact absurd (nI_lt q (by omega)) hb
        · omega
      subst e
      refine ⟨lo, Nat.le_refl _, Nat.le_refl _, rfl, ?_⟩
      by_cases hd : nI lo < p
      · rw [r_cl, if_neg ha, if_pos hd]
      · rw [r_cl, if_neg ha, if_neg hd]
        exact Int32.le_antisymm (Int32.not_lt.mp hd) (Int32.not_lt.mp ha)
