theorem sp_lt {n c j : Nat} {s : (Nat → Nat → Int32)} (H : EX n c s) (hj : j < 4) (hm : ¬ s 9 j ≤ s 14 0) (hc : c ≤ 4000) : cl (s 14 0) < cl (s 9 j) := by
  have x0 := H.1
  have b9 := x0.2.2 j hj
  have b14 := x0.2.1
  rcases Nat.lt_or_ge (cl (s 14 0)) (cl (s 9 j)) with q | q
  · exact q
  · refine absurd ?_ hm
    rw [b9.1, b14.1]
    exact (nIv_le (by have := b9.2; have := x0.1.2; omega) (by have := b14.2; have := x0.1.2; omega)).mpr q
theorem EX_tk {n c j : Nat} {s s' : (Nat → Nat → Int32)} (H : EX n c s) (hj : j < 4) (h7 : s 7 j = 2) (hlt : cl (s 14 0) < cl (s 9 j)) (h5 : ¬ s 5 0 = 0) (hc : c ≤ 4000) (e7 : ∀ h, s' 7 h = if h = j then 3 else s 7 h) (e14 : s' 14 0 = s 9 j) (e : ∀ f, f = 5 ∨ f = 8 ∨ f = 9 ∨ f = 11 ∨ f = 13 ∨ f = 60 ∨ f = 61 → s' f = s f) (e12 : (∃ l, l < 4 ∧ isLO s j l ∧ ∀ h, s' 12 h = if h = l then 1 else s 12 h) ∨ (NoL s ∧ s' 12 = s 12)) : EX n (c + 1) s' ∧ (∀ l, l < 4 → ¬ LKl s' l) := by
  obtain ⟨x0, x1, x2, x3, x4, x5, x6, x7, x8, x9⟩ := id H
  have ab : AB s j := ⟨h7, hlt⟩
  have u : ∀ h v, ¬ v = 3 → s' 7 h = v → s 7 h = v ∧ h ≠ j := fun h v hv q => by
    rw [e7] at q
    by_cases x : h = j
    · rw [if_pos x] at q; exact absurd q.symm hv
    · rw [if_neg x] at q; exact ⟨q, x⟩
  have nAB : ∀ b, b < 4 → ¬ AB s' b := fun b hb q => by
    obtain ⟨q1, q2⟩ := u b 2 (by decide) q.1
    have q3 := q.2
    rw [e14, e 9 (by omega)] at q3
    exact q2 (x4 b j hb hj ⟨q1, by omega⟩ ab)
  have n9 : nb (s' 14 0) (cl (s' 13 0)) := by rw [e14, e 13 (by omega)]; exact x0.2.2 j hj
  have key : (∀ h, h < 4 → s 7 h = 1 → ¬ s' 12 h = 0 ∧ ¬ s 11 h = 0 ∧ cl (s 9 h) ≤ cl (s 9 j)) ∧ (∀ h, h < 4 → ¬ s 7 h = 3 ∧ ¬ s 7 h = 4) ∧ (∀ l, l < 4 → ¬ LKl s' l) := by
    rcases e12 with ⟨l, hl, lo, e12⟩ | ⟨no, e12⟩
    · obtain ⟨a1, a2, a3, a4, a5⟩ := x2 l hl lo.lk
      refine ⟨fun h hh q => ?_, fun h hh => (a4 h hh).2, fun l' hl' q => ?_⟩
      · have := (a4 h hh).1 q
        rw [this, e12, if_pos rfl]
        exact ⟨by decide, lo.2.1, by rw [lo.2.2.2.2]; exact Nat.le_refl _⟩
      · unfold LKl at q
        rw [e 11 (by omega), e12] at q
        by_cases x : l' = l
        · rw [if_pos x] at q; exact absurd q.2 (by decide)
        · rw [if_neg x] at q; exact x (a5 l' hl' q)
    · refine ⟨fun h hh q => absurd q (no.2 h hh).1, fun h hh => (no.2 h hh).2, fun l' hl' q => ?_⟩
      unfold LKl at q
      rw [e 11 (by omega), e12] at q
      exact no.1 l' hl' q
  refine ⟨⟨⟨?_, n9, ?_⟩, fun h hh q1 q2 => ?_, fun l hl q => absurd q (key.2.2 l hl), fun b hb q => absurd q (nAB b hb), fun b b' hb hb' q => absurd q (nAB b hb), fun h h' hh hh' q q' => ?_, fun h hh q => ?_, fun q h hh q1 => ?_, fun h h1 h2 => ?_, fun q h hh => ?_⟩, key.2.2⟩
  · rw [e 13 (by omega)]; exact nb_up x0.1 (by omega)
  · rw [e 9 (by omega), e 13 (by omega)]; exact x0.2.2
  · obtain ⟨k1, k2, k3⟩ := key.1 h hh (u h 1 (by decide) q1).1
    rw [e 11 (by omega), e 9 (by omega), e14]; exact ⟨k2, k3⟩
  · have k : ∀ h, h < 4 → HD s' h → h = j := fun h hh q => by
      by_cases x : h = j
      · exact x
      · rcases q with q | q
        · exact absurd q.2 (key.1 h hh (u h 1 (by decide) q.1).1).1
        · rw [e7, if_neg x] at q; exact absurd q (key.2.1 h hh).1
    rw [k h hh q, k h' hh' q']
  · exact absurd (u h 4 (by decide) q).1 (key.2.1 h hh).2
  · rw [e 60 (by omega)] at q
    rw [e 61 (by omega)]; exact x7 q h hh (u h 1 (by decide) q1).1
  · obtain ⟨y1, y2, y3⟩ := x8 h h1 h2
    have x : ¬ h = j := fun q => by rw [q] at y1; rw [y1] at h7; exact absurd h7 (by decide)
    rw [e7, if_neg x, e 11 (by omega)]
    refine ⟨y1, y2, ?_⟩
    rcases e12 with ⟨l, hl, lo, e12⟩ | ⟨no, e12⟩
    · have : ¬ h = l := fun q => by rw [q] at y2; exact lo.2.1 y2
      rw [e12, if_neg this]; exact y3
    · rw [e12]; exact y3
  · rw [e 5 (by omega)] at q; exact absurd q h5
theorem EX_spB {n c j : Nat} {s σ1 : (Nat → Nat → Int32)} (H : EX n c s) (hj : j < 4) (h7 : s 7 j = 2) (hm : ¬ s 9 j ≤ s 14 0) (h5 : ¬ s 5 0 = 0) (hc : c ≤ 4000) (hR : ¬ s 60 0 = -1 → ∃ r, r < 4 ∧ s 7 r = 4) (e1 : ∀ f, f = 5 ∨ f = 7 ∨ f = 8 ∨ f = 9 ∨ f = 11 ∨ f = 13 ∨ f = 60 ∨ f = 61 → σ1 f = s f) (e14 : σ1 14 0 = s 9 j) (e12 : (∃ l, l < 4 ∧ isLO s j l ∧ ∀ h, σ1 12 h = if h = l then 1 else s 12 h) ∨ ((∀ l, l < 4 → ¬ isLO s j l) ∧ σ1 12 = s 12)) : EX n (c + 1) (m_spB s σ1 j) ∧ (∀ l, l < 4 → ¬ LKl (m_spB s σ1 j) l) := by
  have hlt := sp_lt H hj hm hc
  have e12' : (∃ l, l < 4 ∧ isLO s j l ∧ ∀ h, u2 σ1 7 j 3 12 h = if h = l then 1 else s 12 h) ∨ (NoL s ∧ u2 σ1 7 j 3 12 = s 12) := by
    rw [u2_ne (by decide)]
    rcases e12 with q | ⟨q1, q2⟩
    · exact Or.inl q
    · rcases H.2.2.2.1 j hj ⟨h7, hlt⟩ with ⟨l, hl, r⟩ | r
      · exact absurd r (q1 l hl)
      · exact Or.inr ⟨r, q2⟩
  have e7 : ∀ h, u2 σ1 7 j 3 7 h = if h = j then 3 else s 7 h := fun h => by rw [u2_i, e1 7 (by omega)]
  obtain ⟨k1, k2⟩ := EX_tk (s' := u2 σ1 7 j 3) H hj h7 hlt h5 hc e7 (by rw [u2_ne (by decide)]; exact e14) (fun f hf => by rw [u2_ne (by omega), e1 f (by omega)]) e12'
  unfold m_spB
  by_cases q : s 58 j = s 59 j
  · rw [if_pos q]
    have g : ∀ F, F < 15 → m_goLive (u2 σ1 7 j 3) j (cl (s 38 j)) F = m_go0 (u2 σ1 7 j 3) j F := fun F h => goL_e (by omega)
    have n60 : s 60 0 = -1 := by
      by_cases x : s 60 0 = -1
      · exact x
      · obtain ⟨r, hr, h4⟩ := hR x
        rcases e12' with ⟨l, hl, lo, -⟩ | ⟨no, -⟩
        · exact absurd h4 ((H.2.2.1 l hl lo.lk).2.2.2.1 r hr).2.2
        · exact absurd h4 (no.2 r hr).2.2
    have v7 : ∀ h, m_go0 (u2 σ1 7 j 3) j 7 h = if h = j then 1 else u2 σ1 7 j 3 7 h := fun h => by unfold m_go0; rw [u2_ne (by decide), u2_ne (by decide), u2_ne (by decide), u2_i]
    have v11 : ∀ h, m_go0 (u2 σ1 7 j 3) j 11 h = if h = j then 0 else u2 σ1 7 j 3 11 h := fun h => by unfold m_go0; rw [u2_ne (by decide), u2_ne (by decide), u2_i, u2_ne (by decide)]
    have v12 : ∀ h, m_go0 (u2 σ1 7 j 3) j 12 h = if h = j then 0 else u2 σ1 7 j 3 12 h := fun h => by unfold m_go0; rw [u2_ne (by decide), u2_i, u2_ne (by decide), u2_ne (by decide)]
    have v8 : ∀ h, m_go0 (u2 σ1 7 j 3) j 8 h = if h = j then -1 else u2 σ1 7 j 3 8 h := fun h => by unfold m_go0; rw [u2_i, u2_ne (by decide), u2_ne (by decide), u2_ne (by decide)]
    have hi : ∀ f, f = 60 ∨ f = 61 → m_goLive (u2 σ1 7 j 3) j (cl (s 38 j)) f = u2 σ1 7 j 3 f := fun f hf => m_goLive_ne (by omega) (by omega) (by omega) (by omega) (by omega) (by omega) (by omega) (by omega) (by omega) (by omega) (by omega) (by omega) (by omega) (by omega) (by omega) (by omega) (by omega) (by omega)
    refine ⟨EX_go (j := j) k1 (fun x => absurd (by rw [u2_ne (by decide), e1 60 (by omega)]; exact n60) x) hj (by rw [e7, if_pos rfl]) (fun h => by rw [g 7 (by decide), v7]) (fun h => by rw [g 11 (by decide), v11]) (fun h => by rw [g 12 (by decide), v12]) (fun h => by rw [g 8 (by decide), v8]) (fun f hf => ?_), fun l hl r => ?_⟩
    · rcases hf with q | q | q | q | q
      · rw [q, g 5 (by decide), m_go0_ne (by decide) (by decide) (by decide) (by decide)]
      · rw [q, g 9 (by decide), m_go0_ne (by decide) (by decide) (by decide) (by decide)]
      · rw [q, g 13 (by decide), m_go0_ne (by decide) (by decide) (by decide) (by decide)]
      · rw [q, g 14 (by decide), m_go0_ne (by decide) (by decide) (by decide) (by decide)]
      · exact hi f q
    · unfold LKl at r
      rw [g 11 (by decide), g 12 (by decide), v11, v12] at r
      by_cases x : l = j
      · rw [if_pos x] at r; exact r.1 rfl
      · rw [if_neg x, if_neg x] at r; exact k2 l hl r
  · rw [if_neg q]; exact ⟨k1, k2⟩
