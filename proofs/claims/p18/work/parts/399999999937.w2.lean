def scN (L : Nat) (xs : Nat → Int32) (k : Nat) : Int32 := if k < L then xs k else 0
theorem l_cellN {G : xG} {ro : xR} {sv : Nat → Value} (hG : x_Good G ro sv) {d b L k : Nat} {xs : Nat → Int32} {h : xH} {Q : xQ} (hL : L < 2 ^ 31) (hk : k < 2 ^ 31) (hro : ro b = some (L, xs)) (hQ : Q (some (.int (scN L xs k))) h) : G d n_L_cell 0 0 0 [(0, .ref b), (1, .int (nI k))] [] h 0 0 Q := by
  repeat refine hG _ _ _ _ _ _ _ _ _ _ _ ?_
  refine ⟨L, Or.inr ⟨xs, hro⟩, ?_⟩
  repeat refine hG _ _ _ _ _ _ _ _ _ _ _ ?_
  refine ⟨fun hc => ?_, fun hc => ?_⟩
  · have hlt : ¬ k < L := fun q => absurd (show nI L ≤ nI k from hc) (nI_ge q hL)
    rw [scN, if_neg hlt] at hQ
    repeat refine hG _ _ _ _ _ _ _ _ _ _ _ ?_
    exact ⟨rfl, by decide, by decide, hQ⟩
  · have hlt : k < L := by
      rcases Nat.lt_or_ge k L with q | q
      · exact q
      · exact absurd (show Int32.ofNat L ≤ nI k from nI_le q hk) hc
    rw [scN, if_pos hlt] at hQ
    repeat refine hG _ _ _ _ _ _ _ _ _ _ _ ?_
    refine ⟨_, _, Or.inr hro, vp_in_nI hlt hL, ?_⟩
    repeat refine hG _ _ _ _ _ _ _ _ _ _ _ ?_
    refine ⟨rfl, by decide, by decide, ?_⟩
    rw [nI_clamp hk]
    exact hQ
