theorem HostOK.mono {pg i H : Nat} {h h' : xH} (hm : ∀ b e, h b = some e → h' b = some e) (hk : HostOK pg h i H) : HostOK pg h' i H := HostOK.keep (P := fun _ => True) hk (fun _ _ _ => trivial) (fun _ _ _ => trivial) (fun _ _ _ => trivial) (fun _ _ _ => trivial) (fun _ _ _ => trivial) (fun b e hb _ => hm b e hb)
theorem CN.mono {n pg rm x : Nat} {h h' : xH} (hm : ∀ b e, h b = some e → h' b = some e) (hC : CN n pg rm x h) : CN n pg rm x h' := by
  obtain ⟨HA, IM, SD, OU, CH, UW, bl, wt, nu, cp, up, f, a1, a2, a3, a4, a5, a6, a7, a8, a9, a10⟩ := hC
  refine ⟨HA, IM, SD, OU, CH, UW, bl, wt, nu, cp, up, f, hm _ _ a1, hm _ _ a2, fun i hi => ?_, hm _ _ a4, hm _ _ a5, hm _ _ a6, hm _ _ a7, hm _ _ a8, hm _ _ a9, hm _ _ a10⟩
  obtain ⟨H, q1, q2⟩ := a3 i hi
  exact ⟨H, q1, q2.mono hm⟩
theorem k_hostAt {G : xG} {ro : xR} {sv : Nat → Value} (hG : x_Good G ro sv) {d n pg rm x : Nat} {h : xH} {Q : xQ} {i : Int32} (hn : n ≤ 4) (hC : CN n pg rm x h) (hQ1 : (i < 0 ∨ nI n ≤ i) → Q (some .null) h) (hQ2 : ∀ j H, j < n → i = nI j → HostOK pg h j H → Q (some (.ref H)) h) : G d n_X11_hostAt 0 0 0 [(0, .ref x), (1, .int i)] [] h 0 0 Q := by
  obtain ⟨HA, IM, SD, OU, CH, UW, bl, wt, nu, cp, up, f, a1, a2, a3, -⟩ := id hC
  repeat refine hG _ _ _ _ _ _ _ _ _ _ _ ?_
  refine ⟨fun hc => ?_, fun hc => ?_⟩
  · repeat refine hG _ _ _ _ _ _ _ _ _ _ _ ?_
    exact ⟨Nat.le_refl _, Nat.le_refl _, hQ1 (Or.inl hc)⟩
  · repeat refine hG _ _ _ _ _ _ _ _ _ _ _ ?_
    refine ⟨_, _, a1, rfl, ?_⟩
    repeat refine hG _ _ _ _ _ _ _ _ _ _ _ ?_
    refine ⟨n, Or.inl ⟨_, _, a2, by decide, rfl⟩, ?_⟩
    repeat refine hG _ _ _ _ _ _ _ _ _ _ _ ?_
    refine ⟨fun hc2 => ?_, fun hc2 => ?_⟩
    · obtain ⟨j, hj, rfl⟩ : ∃ j : Nat, j < n ∧ i = nI j := by
        rcases pk_ix i (n := n) (by omega) with q | q | q
        · exact absurd q hc
        · exact absurd hc2 (Int32.not_lt.mpr q)
        · exact q
      obtain ⟨H, q1, q2⟩ := a3 j hj
      repeat refine hG _ _ _ _ _ _ _ _ _ _ _ ?_
      refine ⟨_, _, a1, rfl, ?_⟩
      repeat refine hG _ _ _ _ _ _ _ _ _ _ _ ?_
      refine ⟨_, _, _, _, some H, a2, rfl, vp_in_nI hj (by omega), (by rw [nI_clamp (show j < 2 ^ 31 by omega)]; exact q1), ?_⟩
      repeat refine hG _ _ _ _ _ _ _ _ _ _ _ ?_
      exact ⟨Nat.le_refl _, Nat.le_refl _, hQ2 j H hj rfl q2⟩
    · repeat refine hG _ _ _ _ _ _ _ _ _ _ _ ?_
      exact ⟨Nat.le_refl _, Nat.le_refl _, hQ1 (Or.inr (Int32.not_lt.mp hc2))⟩
theorem k_heardL {G : xG} {ro : xR} {sv : Nat → Value} (hG : x_Good G ro sv) {d n pg rm x : Nat} {h : xH} {Q : xQ} (hn : n ≤ 4) (hC : CN n pg rm x h) (hQ : Q (some .null) h) : ∀ m k : Nat, k + m = n → G d n_X11_heardHost 0 0 2 [(1, .int (nI k)), (0, .ref x)] [] h 0 0 Q := by
  obtain ⟨HA, IM, SD, OU, CH, UW, bl, wt, nu, cp, up, f, a1, a2, a3, -⟩ := id hC
  intro m
  induction m with
  | zero =>
    intro k hk
    have hkn : k = n := by omega
    subst hkn
    repeat refine hG _ _ _ _ _ _ _ _ _ _ _ ?_
    refine ⟨_, _, a1, rfl, ?_⟩
    repeat refine hG _ _ _ _ _ _ _ _ _ _ _ ?_
    refine ⟨k, Or.inl ⟨_, _, a2, by decide, rfl⟩, ?_⟩
    repeat refine hG _ _ _ _ _ _ _ _ _ _ _ ?_
    refine ⟨fun _ => ?_, fun hc => absurd (Int32.le_refl _) hc⟩
    repeat refine hG _ _ _ _ _ _ _ _ _ _ _ ?_
    exact ⟨Nat.le_refl _, Nat.le_refl _, hQ⟩
  | succ m ih =>
    intro k hk
    obtain ⟨H, q1, q2⟩ := a3 k (by omega)
    obtain ⟨g, ib, kp, mm, dv, rg, ct, mb, mt, pl, c1, c2, c3, c4, c5⟩ := q2
    repeat refine hG _ _ _ _ _ _ _ _ _ _ _ ?_
    refine ⟨_, _, a1, rfl, ?_⟩
    repeat refine hG _ _ _ _ _ _ _ _ _ _ _ ?_
    refine ⟨n, Or.inl ⟨_, _, a2, by decide, rfl⟩, ?_⟩
    repeat refine hG _ _ _ _ _ _ _ _ _ _ _ ?_
    refine ⟨fun hc => absurd hc (nI_ge (b := n) (by omega) (by omega)), fun _ => ?_⟩
    repeat refine hG _ _ _ _ _ _ _ _ _ _ _ ?_
    refine ⟨_, _, a1, rfl, ?_⟩
    repeat refine hG _ _ _ _ _ _ _ _ _ _ _ ?_
    refine ⟨_, _, _, _, some H, a2, rfl, vp_in_nI (show k < n by omega) (by omega), (by rw [nI_clamp (show k < 2 ^ 31 by omega)]; exact q1), ?_⟩
    repeat refine hG _ _ _ _ _ _ _ _ _ _ _ ?_
    refine ⟨_, _, c1, rfl, ?_⟩
    repeat refine hG _ _ _ _ _ _ _ _ _ _ _ ?_
    refine ⟨fun _ => ?_, fun hc => absurd hc (by decide)⟩
    refine hG _ _ _ _ _ _ _ _ _ _ _ ?_
    refine hG _ _ _ _ _ _ _ _ _ _ _ ?_
    have ih1 := ih (k + 1) (by omega)
    rw [nI_succ] at ih1
    exact ih1
theorem k_heardHost {G : xG} {ro : xR} {sv : Nat → Value} (hG : x_Good G ro sv) {d n pg rm x : Nat} {h : xH} {Q : xQ} (hn : n ≤ 4) (hC : CN n pg rm x h) (hQ : Q (some .null) h) : G d n_X11_heardHost 0 0 0 [(0, .ref x)] [] h 0 0 Q := by
  refine hG _ _ _ _ _ _ _ _ _ _ _ ?_
  refine hG _ _ _ _ _ _ _ _ _ _ _ ?_
  exact k_heardL hG hn hC hQ n 0 (by omega)
theorem k_onlyL {G : xG} {ro : xR} {sv : Nat → Value} (hG : x_Good G ro sv) {d n pg rm x : Nat} {h : xH} {Q : xQ} (hn : n ≤ 4) (hC : CN n pg rm x h) (hQ : Q (some .null) h) : ∀ m k : Nat, k + m = n → G d n_X11_onlyLive 0 0 4 [(2, .int (nI k)), (1, .null), (0, .ref x)] [] h 0 0 Q := by
  obtain ⟨HA, IM, SD, OU, CH, UW, bl, wt, nu, cp, up, f, a1, a2, a3, -⟩ := id hC
  intro m
  induction m with
  | zero =>
    intro k hk
    have hkn : k = n := by omega
    subst hkn
    repeat refine hG _ _ _ _ _ _ _ _ _ _ _ ?_
    refine ⟨_, _, a1, rfl, ?_⟩
    repeat refine hG _ _ _ _ _ _ _ _ _ _ _ ?_
    refine ⟨k, Or.inl ⟨_, _, a2, by decide, rfl⟩, ?_⟩
    repeat refine hG _ _ _ _ _ _ _ _ _ _ _ ?_
    refine ⟨fun _ => ?_, fun hc => absurd (Int32.le_refl _) hc⟩
    repeat refine hG _ _ _ _ _ _ _ _ _ _ _ ?_
    exact ⟨Nat.le_refl _, Nat.le_refl _, hQ⟩
  | succ m ih =>
    intro k hk
    obtain ⟨H, q1, q2⟩ := a3 k (by omega)
    obtain ⟨g, ib, kp, mm, dv, rg, ct, mb, mt, pl, c1, c2, c3, c4, c5⟩ := q2
    repeat refine hG _ _ _ _ _ _ _ _ _ _ _ ?_
    refine ⟨_, _, a1, rfl, ?_⟩
    repeat refine hG _ _ _ _ _ _ _ _ _ _ _ ?_
    refine ⟨n, Or.inl ⟨_, _, a2, by decide, rfl⟩, ?_⟩
    repeat refine hG _ _ _ _ _ _ _ _ _ _ _ ?_
    refine ⟨fun hc => absurd hc (nI_ge (b := n) (by omega) (by omega)), fun _ => ?_⟩
    repeat refine hG _ _ _ _ _ _ _ _ _ _ _ ?_
    refine ⟨_, _, a1, rfl, ?_⟩
    repeat refine hG _ _ _ _ _ _ _ _ _ _ _ ?_
    refine ⟨_, _, _, _, some H, a2, rfl, vp_in_nI (show k < n by omega) (by omega), (by rw [nI_clamp (show k < 2 ^ 31 by omega)]; exact q1), ?_⟩
    repeat refine hG _ _ _ _ _ _ _ _ _ _ _ ?_
    refine ⟨_, _, c1, rfl, ?_⟩
    repeat refine hG _ _ _ _ _ _ _ _ _ _ _ ?_
    refine ⟨fun _ => ?_, fun hc => absurd hc (by decide)⟩
    refine hG _ _ _ _ _ _ _ _ _ _ _ ?_
    refine hG _ _ _ _ _ _ _ _ _ _ _ ?_
    have ih1 := ih (k + 1) (by omega)
    rw [nI_succ] at ih1
    exact ih1
theorem k_onlyLive {G : xG} {ro : xR} {sv : Nat → Value} (hG : x_Good G ro sv) {d n pg rm x : Nat} {h : xH} {Q : xQ} (hn : n ≤ 4) (hC : CN n pg rm x h) (hQ : Q (some .null) h) : G d n_X11_onlyLive 0 0 0 [(0, .ref x)] [] h 0 0 Q := by
  refine hG _ _ _ _ _ _ _ _ _ _ _ ?_
  refine hG _ _ _ _ _ _ _ _ _ _ _ ?_
  refine hG _ _ _ _ _ _ _ _ _ _ _ ?_
  refine hG _ _ _ _ _ _ _ _ _ _ _ ?_
  exact k_onlyL hG hn hC hQ n 0 (by omega)
theorem k_recL {G : xG} {ro : xR} {sv : Nat → Value} (hG : x_Good G ro sv) {d n pg rm x : Nat} {h : xH} {Q : xQ} (hn : n ≤ 4) (hC : CN n pg rm x h) (hQ : Q (some .null) h) : ∀ m k : Nat, k + m = n → G d n_X11_receiving 0 0 2 [(1, .int (nI k)), (0, .ref x)] [] h 0 0 Q := by
  obtain ⟨HA, IM, SD, OU, CH, UW, bl, wt, nu, cp, up, f, a1, a2, a3, -⟩ := id hC
  intro m
  induction m with
  | zero =>
    intro k hk
    have hkn : k = n := by omega
    subst hkn
    repeat refine hG _ _ _ _ _ _ _ _ _ _ _ ?_
    refine ⟨_, _, a1, rfl, ?_⟩
    repeat refine hG _ _ _ _ _ _ _ _ _ _ _ ?_
    refine ⟨k, Or.inl ⟨_, _, a2, by decide, rfl⟩, ?_⟩
    repeat refine hG _ _ _ _ _ _ _ _ _ _ _ ?_
    refine ⟨fun _ => ?_, fun hc => absurd (Int32.le_refl _) hc⟩
    repeat refine hG _ _ _ _ _ _ _ _ _ _ _ ?_
    exact ⟨Nat.le_refl _, Nat.le_refl _, hQ⟩
  | succ m ih =>
    intro k hk
    obtain ⟨H, q1, q2⟩ := a3 k (by omega)
    obtain ⟨g, ib, kp, mm, dv, rg, ct, mb, mt, pl, c1, c2, c3, c4, c5⟩ := q2
    repeat refine hG _ _ _ _ _ _ _ _ _ _ _ ?_
    refine ⟨_, _, a1, rfl, ?_⟩
    repeat refine hG _ _ _ _ _ _ _ _ _ _ _ ?_
    refine ⟨n, Or.inl ⟨_, _, a2, by decide, rfl⟩, ?_⟩
    repeat refine hG _ _ _ _ _ _ _ _ _ _ _ ?_
    refine ⟨fun hc => absurd hc (nI_ge (b := n) (by omega) (by omega)), fun _ => ?_⟩
    repeat refine hG _ _ _ _ _ _ _ _ _ _ _ ?_
    refine ⟨_, _, a1, rfl, ?_⟩
    repeat refine hG _ _ _ _ _ _ _ _ _ _ _ ?_
    refine ⟨_, _, _, _, some H, a2, rfl, vp_in_nI (show k < n by omega) (by omega), (by rw [nI_clamp (show k < 2 ^ 31 by omega)]; exact q1), ?_⟩
    repeat refine hG _ _ _ _ _ _ _ _ _ _ _ ?_
    refine ⟨_, _, c1, rfl, ?_⟩
    repeat refine hG _ _ _ _ _ _ _ _ _ _ _ ?_
    refine ⟨fun _ => ?_, fun hc => absurd hc (by decide)⟩
    refine hG _ _ _ _ _ _ _ _ _ _ _ ?_
    refine hG _ _ _ _ _ _ _ _ _ _ _ ?_
    have ih1 := ih (k + 1) (by omega)
    rw [nI_succ] at ih1
    exact ih1
theorem k_receiving {G : xG} {ro : xR} {sv : Nat → Value} (hG : x_Good G ro sv) {d n pg rm x : Nat} {h : xH} {Q : xQ} (hn : n ≤ 4) (hC : CN n pg rm x h) (hQ : Q (some .null) h) : G d n_X11_receiving 0 0 0 [(0, .ref x)] [] h 0 0 Q := by
  refine hG _ _ _ _ _ _ _ _ _ _ _ ?_
  refine hG _ _ _ _ _ _ _ _ _ _ _ ?_
  exact k_recL hG hn hC hQ n 0 (by omega)
