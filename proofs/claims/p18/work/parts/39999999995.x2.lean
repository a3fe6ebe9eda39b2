theorem EX_halt {n c j : Nat} {s : (Nat → Nat → Int32)} (H : EX n c s) (hj : j < 4) (hA : SpIs s j = true ∨ s 7 j = 2) (hm : s 9 j ≤ s 14 0) (hc : c ≤ 4000) : EX n (c + 1) (m_halt s j) := by
  obtain ⟨x0, x1, x2, x3, x4, x5, x6, x7, x8, x9⟩ := id H
  have e7 : ∀ h, m_halt s j 7 h = if h = j then 5 else s 7 h := fun h => by unfold m_halt; rw [u2_ne (by decide), u2_i]
  have e : ∀ f, f ≠ 7 → f ≠ 10 → m_halt s j f = s f := fun f h1 h2 => by unfold m_halt; rw [u2_ne h2, u2_ne h1]
  have hle : cl (s 9 j) ≤ cl (s 14 0) := by
    have b9 := x0.2.2 j hj
    have b14 := x0.2.1
    rw [b9.1, b14.1] at hm
    exact (nIv_le (by have := b9.2; have := x0.1.2; omega) (by have := b14.2; have := x0.1.2; omega)).mp hm
  have nLK : ¬ LKl s j := fun q => by have := (x2 j hj q).1; omega
  have nAB : ¬ AB s j := fun q => by have := q.2; omega
  have u : ∀ h v, ¬ v = 5 → m_halt s j 7 h = v → s 7 h = v ∧ h ≠ j := fun h v hv q => by
    rw [e7] at q
    by_cases x : h = j
    · rw [if_pos x] at q; exact absurd q.symm hv
    · rw [if_neg x] at q; exact ⟨q, x⟩
  have eLK : ∀ l, LKl (m_halt s j) l ↔ LKl s l := fun l => by unfold LKl; rw [e 11 (by decide) (by decide), e 12 (by decide) (by decide)]
  have eLO : ∀ b l, isLO (m_halt s j) b l ↔ isLO s b l := fun b l => by unfold isLO; rw [e 8 (by decide) (by decide), e 9 (by decide) (by decide), e 11 (by decide) (by decide), e 12 (by decide) (by decide)]
  have eAB : ∀ b, AB (m_halt s j) b → AB s b := fun b q => ⟨(u b 2 (by decide) q.1).1, by have := q.2; rw [e 14 (by decide) (by decide), e 9 (by decide) (by decide)] at this; exact this⟩
  have eHD : ∀ h, HD (m_halt s j) h → HD s h := fun h q => by
    rcases q with q | q
    · exact Or.inl ⟨(u h 1 (by decide) q.1).1, by have := q.2; rw [e 12 (by decide) (by decide)] at this; exact this⟩
    · exact Or.inr (u h 3 (by decide) q).1
  refine ⟨by rw [e 13 (by decide) (by decide), e 14 (by decide) (by decide), e 9 (by decide) (by decide)]; exact ⟨nb_up x0.1 (by omega), x0.2⟩, fun h hh q1 q2 => ?_, fun l hl q => ?_, fun b hb q => ?_, fun b b' hb hb' q q' => x4 b b' hb hb' (eAB b q) (eAB b' q'), fun h h' hh hh' q q' => x5 h h' hh hh' (eHD h q) (eHD h' q'), fun h hh q => ?_, fun q h hh q1 => ?_, fun h h1 h2 => ?_, fun q h hh => ?_⟩
  · rw [e 12 (by decide) (by decide)] at q2
    rw [e 11 (by decide) (by decide), e 9 (by decide) (by decide), e 14 (by decide) (by decide)]
    exact x1 h hh (u h 1 (by decide) q1).1 q2
  · have q := (eLK l).mp q
    obtain ⟨a1, a2, ⟨b, b1, b2, b3, b4⟩, a4, a5⟩ := x2 l hl q
    have hlj : l ≠ j := fun r => nLK (r ▸ q)
    unfold LKp
    rw [e 14 (by decide) (by decide), e 9 (by decide) (by decide), e 8 (by decide) (by decide), e7, if_neg hlj]
    refine ⟨a1, a2, ⟨b, b1, b2, b3, fun r => b4 (u b 2 (by decide) r).1⟩, fun h hh => ⟨fun r => (a4 h hh).1 (u h 1 (by decide) r).1, fun r => (a4 h hh).2.1 (u h 3 (by decide) r).1, fun r => (a4 h hh).2.2 (u h 4 (by decide) r).1⟩, fun l' hl' r => a5 l' hl' ((eLK l').mp r)⟩
  · rcases x3 b hb (eAB b q) with ⟨l, hl, r⟩ | ⟨r1, r2⟩
    · exact Or.inl ⟨l, hl, (eLO b l).mpr r⟩
    · exact Or.inr ⟨fun l hl r => r1 l hl ((eLK l).mp r), fun h hh => ⟨fun r => (r2 h hh).1 (u h 1 (by decide) r).1, fun r => (r2 h hh).2.1 (u h 3 (by decide) r).1, fun r => (r2 h hh).2.2 (u h 4 (by decide) r).1⟩⟩
  · rw [e 60 (by decide) (by decide)]; exact x6 h hh (u h 4 (by decide) q).1
  · rw [e 60 (by decide) (by decide)] at q; rw [e 61 (by decide) (by decide)]; exact x7 q h hh (u h 1 (by decide) q1).1
  · obtain ⟨y1, y2, y3⟩ := x8 h h1 h2
    have x : ¬ h = j := fun q => by
      rw [q] at y1
      rcases hA with r | r
      · have := (of_decide_eq_true r).1; rw [y1] at this; exact absurd this (by decide)
      · rw [y1] at r; exact absurd r (by decide)
    rw [e7, if_neg x, e 11 (by decide) (by decide), e 12 (by decide) (by decide)]; exact ⟨y1, y2, y3⟩
  · rw [e 5 (by decide) (by decide)] at q; rw [e 12 (by decide) (by decide)]; exact x9 q h hh
theorem EX_spL {n c j : Nat} {s : (Nat → Nat → Int32)} (H : EX n c s) (hj : j < 4) (hA : SpIs s j = true) (hm : ¬ s 9 j ≤ s 14 0) (hc : c ≤ 4000) : EX n (c + 1) (m_spL s j) ∧ LKl s j := by
  obtain ⟨x0, x1, x2, x3, x4, x5, x6, x7, x8, x9⟩ := id H
  obtain ⟨h7, h11⟩ := of_decide_eq_true hA
  have hlt : cl (s 14 0) < cl (s 9 j) := by
    have b9 := x0.2.2 j hj
    have b14 := x0.2.1
    rcases Nat.lt_or_ge (cl (s 14 0)) (cl (s 9 j)) with q | q
    · exact q
    · refine absurd ?_ hm
      rw [b9.1, b14.1]
      exact (nIv_le (by have := b9.2; have := x0.1.2; omega) (by have := b14.2; have := x0.1.2; omega)).mpr q
  have h12 : s 12 j = 0 := by
    by_cases q : s 12 j = 0
    · exact q
    · have := (x1 j hj h7 q).2; omega
  have lk : LKl s j := ⟨h11, h12⟩
  refine ⟨?_, lk⟩
  obtain ⟨a1, a2, -, a4, a5⟩ := x2 j hj lk
  have e0 : ∀ f, f < 15 → m_spL s j f = u2 (u2 (u2 s 14 0 (s 9 j)) 11 j 0) 8 j (-1) f := fun f h => by unfold m_spL; rw [lall_lo (by omega), noCh_lo (by omega)]
  have e : ∀ f, f < 15 → f ≠ 14 → f ≠ 11 → f ≠ 8 → m_spL s j f = s f := fun f h h1 h2 h3 => by rw [e0 f h, u2_ne h3, u2_ne h2, u2_ne h1]
  have e6 : ∀ f, f = 60 ∨ f = 61 → m_spL s j f = s f := fun f h => by
    unfold m_spL
    rw [m_lall_ne (by omega) (by omega) (by omega) (by omega) (by omega) (by omega) (by omega) (by omega) (by omega) (by omega) (by omega) (by omega) (by omega) (by omega), noCh_ne (by omega) (by omega) (by omega), u2_ne (by omega), u2_ne (by omega), u2_ne (by omega)]
  have e14 : m_spL s j 14 0 = s 9 j := by rw [e0 14 (by decide), u2_ne (by decide), u2_ne (by decide), u2_ss]
  have e11 : ∀ h, m_spL s j 11 h = if h = j then 0 else s 11 h := fun h => by rw [e0 11 (by decide), u2_ne (by decide), u2_i, u2_ne (by decide)]
  have nLK : ∀ l, l < 4 → ¬ LKl (m_spL s j) l := fun l hl q => by
    unfold LKl at q
    rw [e11, e 12 (by decide) (by decide) (by decide) (by decide)] at q
    by_cases x : l = j
    · rw [if_pos x] at q; exact q.1 rfl
    · rw [if_neg x] at q; exact x (a5 l hl q)
  have nAB : ∀ b, b < 4 → ¬ AB (m_spL s j) b := fun b hb q => by
    unfold AB at q
    rw [e 7 (by decide) (by decide) (by decide) (by decide), e14, e 9 (by decide) (by decide) (by decide) (by decide)] at q
    rcases x3 b hb ⟨q.1, by omega⟩ with ⟨l, hl, r⟩ | r
    · have := a5 l hl r.lk
      have r9 := r.2.2.2.2
      rw [this] at r9; rw [← r9] at q; omega
    · exact r.1 j hj lk
  refine ⟨?_, fun h hh q1 q2 => ?_, fun l hl q => absurd q (nLK l hl), fun b hb q => absurd q (nAB b hb), fun b b' hb hb' q => absurd q (nAB b hb), fun h h' hh hh' q q' => ?_, fun h hh q => ?_, fun q h hh q1 => ?_, fun h h1 h2 => ?_, fun q h hh => ?_⟩
  · rw [e 13 (by decide) (by decide) (by decide) (by decide), e14, e 9 (by decide) (by decide) (by decide) (by decide)]
    exact ⟨nb_up x0.1 (by omega), x0.2.2 j hj, x0.2.2⟩
  · rw [e 7 (by decide) (by decide) (by decide) (by decide)] at q1
    rw [e 12 (by decide) (by decide) (by decide) (by decide)] at q2
    have := (a4 h hh).1 q1
    rw [this] at q2; exact absurd h12 q2
  · have k : ∀ h, HD (m_spL s j) h → HD s h := fun h q => by
      unfold HD at q ⊢
      rw [e 7 (by decide) (by decide) (by decide) (by decide), e 12 (by decide) (by decide) (by decide) (by decide)] at q
      exact q
    exact x5 h h' hh hh' (k h q) (k h' q')
  · rw [e 7 (by decide) (by decide) (by decide) (by decide)] at q
    exact absurd q (a4 h hh).2.2
  · rw [e6 60 (by omega)] at q
    rw [e6 61 (by omega)]
    rw [e 7 (by decide) (by decide) (by decide) (by decide)] at q1
    exact x7 q h hh q1
  · obtain ⟨y1, y2, y3⟩ := x8 h h1 h2
    rw [e 7 (by decide) (by decide) (by decide) (by decide), e11, e 12 (by decide) (by decide) (by decide) (by decide)]
    refine ⟨y1, ?_, y3⟩
    by_cases x : h = j
    · rw [if_pos x]
    · rw [if_neg x]; exact y2
  · rw [e 5 (by decide) (by decide) (by decide) (by decide)] at q
    rw [e 12 (by decide) (by decide) (by decide) (by decide)]; exact x9 q h hh
