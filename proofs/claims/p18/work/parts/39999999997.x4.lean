theorem EX_prot {n pg c j v : Nat} {s : (Nat → Nat → Int32)} (H : EX n c s) (hj : j < n) (hn : n ≤ 4) (hv : v < n) (h0 : s 7 j = 0) (h60 : s 60 0 = -1) (h1 : s 7 v = 1) (h11 : s 11 v = 0) (one : ∀ t, t < n → s 7 t = 1 → t = v) (h5 : ¬ s 5 0 = 0) : EX n (c + 1) (m_prot s j v pg) := by
  obtain ⟨x0, x1, x2, x3, x4, x5, x6, x7, x8, x9⟩ := id H
  have e0 : ∀ f, f ≠ 63 → m_prot s j v pg f = u2 (u2 (u2 (u2 s 7 j 4) 60 0 (nI j)) 61 0 (nI v)) 62 0 0 f := fun f h => by unfold m_prot; rw [m_prl_ne h]
  have e : ∀ f, f ≠ 63 → f ≠ 7 → f ≠ 60 → f ≠ 61 → f ≠ 62 → m_prot s j v pg f = s f := fun f h h1 h2 h3 h4 => by rw [e0 f h, u2_ne h4, u2_ne h3, u2_ne h2, u2_ne h1]
  have e7 : ∀ h, m_prot s j v pg 7 h = if h = j then 4 else s 7 h := fun h => by rw [e0 7 (by decide), u2_ne (by decide), u2_ne (by decide), u2_ne (by decide), u2_i]
  have e60 : m_prot s j v pg 60 0 = nI j := by rw [e0 60 (by decide), u2_ne (by decide), u2_ne (by decide), u2_ss]
  have e61 : m_prot s j v pg 61 0 = nI v := by rw [e0 61 (by decide), u2_ne (by decide), u2_ss]
  have u : ∀ h w, ¬ w = 4 → m_prot s j v pg 7 h = w → s 7 h = w ∧ h ≠ j := fun h w hw q => by
    rw [e7] at q
    by_cases x : h = j
    · rw [if_pos x] at q; exact absurd q.symm hw
    · rw [if_neg x] at q; exact ⟨q, x⟩
  have lt : ∀ t, t < 4 → s 7 t = 1 → t = v := fun t ht q => by
    rcases Nat.lt_or_ge t n with r | r
    · exact one t r q
    · have := (x8 t r ht).1; rw [this] at q; exact absurd q (by decide)
  have noLK : ∀ l, l < 4 → ¬ LKl s l := fun l hl q => by
    have := ((x2 l hl q).2.2.2.1 v (by omega)).1 h1
    rw [← this] at q; exact q.1 h11
  have noAB : ∀ b, b < 4 → ¬ AB s b := fun b hb q => by
    rcases x3 b hb q with ⟨l, hl, r⟩ | r
    · exact noLK l hl r.lk
    · exact (r.2 v (by omega)).1 h1
  have e11 : m_prot s j v pg 11 = s 11 := e 11 (by decide) (by decide) (by decide) (by decide) (by decide)
  have e12 : m_prot s j v pg 12 = s 12 := e 12 (by decide) (by decide) (by decide) (by decide) (by decide)
  have e9 : m_prot s j v pg 9 = s 9 := e 9 (by decide) (by decide) (by decide) (by decide) (by decide)
  have e14 : m_prot s j v pg 14 = s 14 := e 14 (by decide) (by decide) (by decide) (by decide) (by decide)
  have nLK : ∀ l, l < 4 → ¬ LKl (m_prot s j v pg) l := fun l hl q => by unfold LKl at q; rw [e11, e12] at q; exact noLK l hl q
  have nAB : ∀ b, b < 4 → ¬ AB (m_prot s j v pg) b := fun b hb q => by
    have q2 := q.2
    rw [e14, e9] at q2
    exact noAB b hb ⟨(u b 2 (by decide) q.1).1, q2⟩
  refine ⟨by rw [e 13 (by decide) (by decide) (by decide) (by decide) (by decide), e14, e9]; exact ⟨nb_up x0.1 (by omega), x0.2⟩, fun h hh q1 q2 => ?_, fun l hl q => absurd q (nLK l hl), fun b hb q => absurd q (nAB b hb), fun b b' hb hb' q => absurd q (nAB b hb), fun h h' hh hh' q q' => ?_, fun h hh q => ?_, fun _ h hh q1 => ?_, fun h a1 a2 => ?_, fun q => ?_⟩
  · rw [e12] at q2; rw [e11, e9, e14]; exact x1 h hh (u h 1 (by decide) q1).1 q2
  · have k : ∀ h, HD (m_prot s j v pg) h → HD s h := fun h q => by
      rcases q with q | q
      · exact Or.inl ⟨(u h 1 (by decide) q.1).1, by have := q.2; rw [e12] at this; exact this⟩
      · exact Or.inr (u h 3 (by decide) q).1
    exact x5 h h' hh hh' (k h q) (k h' q')
  · rw [e60]
    rw [e7] at q
    by_cases x : h = j
    · rw [x]
    · rw [if_neg x] at q
      have := x6 h hh q
      rw [h60] at this; exact absurd this.symm (nI_m1 hh)
  · rw [e61, lt h hh (u h 1 (by decide) q1).1]
  · obtain ⟨y1, y2, y3⟩ := x8 h a1 a2
    rw [e7, if_neg (by omega), e11, e12]; exact ⟨y1, y2, y3⟩
  · rw [e 5 (by decide) (by decide) (by decide) (by decide) (by decide)] at q; exact absurd q h5
theorem EX_cr {n c j : Nat} {s s' : (Nat → Nat → Int32)} (H : EX n c s) (hj : j < n) (hn : n ≤ 4) (e7 : ∀ h, h < 4 → s' 7 h = if h = j then 6 else if s 7 h = 4 ∧ s' 60 0 = -1 then 0 else s 7 h) (e60 : (s' 60 0 = s 60 0 ∧ s' 61 0 = s 61 0) ∨ s' 60 0 = -1) (e : ∀ f, f = 5 ∨ f = 8 ∨ f = 9 ∨ f = 11 ∨ f = 12 ∨ f = 13 ∨ f = 14 → s' f = s f) : EX n (c + 1) s' := by
  obtain ⟨x0, x1, x2, x3, x4, x5, x6, x7, x8, x9⟩ := id H
  have u : ∀ h w, h < 4 → ¬ w = 6 → ¬ w = 0 → s' 7 h = w → s 7 h = w ∧ h ≠ j := fun h w hh hw hw0 q => by
    rw [e7 h hh] at q
    by_cases x : h = j
    · rw [if_pos x] at q; exact absurd q.symm hw
    · rw [if_neg x] at q
      by_cases y : s 7 h = 4 ∧ s' 60 0 = -1
      · rw [if_pos y] at q; exact absurd q.symm hw0
      · rw [if_neg y] at q; exact ⟨q, x⟩
  have eLK : ∀ l, LKl s' l ↔ LKl s l := fun l => by unfold LKl; rw [e 11 (by omega), e 12 (by omega)]
  have eLO : ∀ b l, isLO s' b l ↔ isLO s b l := fun b l => by unfold isLO; rw [e 8 (by omega), e 9 (by omega), e 11 (by omega), e 12 (by omega)]
  have eAB : ∀ b, b < 4 → AB s' b → AB s b := fun b hb q => ⟨(u b 2 hb (by decide) (by decide) q.1).1, by have := q.2; rw [e 14 (by omega), e 9 (by omega)] at this; exact this⟩
  have eHD : ∀ h, h < 4 → HD s' h → HD s h := fun h hh q => by
    rcases q with q | q
    · exact Or.inl ⟨(u h 1 hh (by decide) (by decide) q.1).1, by have := q.2; rw [e 12 (by omega)] at this; exact this⟩
    · exact Or.inr (u h 3 hh (by decide) (by decide) q).1
  refine ⟨by rw [e 13 (by omega), e 14 (by omega), e 9 (by omega)]; exact ⟨nb_up x0.1 (by omega), x0.2⟩, fun h hh q1 q2 => ?_, fun l hl q => ?_, fun b hb q => ?_, fun b b' hb hb' q q' => x4 b b' hb hb' (eAB b hb q) (eAB b' hb' q'), fun h h' hh hh' q q' => x5 h h' hh hh' (eHD h hh q) (eHD h' hh' q'), fun h hh q => ?_, fun q h hh q1 => ?_, fun h h1 h2 => ?_, fun q h hh => ?_⟩
  · rw [e 12 (by omega)] at q2
    rw [e 11 (by omega), e 9 (by omega), e 14 (by omega)]
    exact x1 h hh (u h 1 hh (by decide) (by decide) q1).1 q2
  · have q := (eLK l).mp q
    obtain ⟨a1, a2, ⟨b, b1, b2, b3, b4⟩, a4, a5⟩ := x2 l hl q
    unfold LKp
    rw [e 14 (by omega), e 9 (by omega), e 8 (by omega)]
    refine ⟨a1, ?_, ⟨b, b1, b2, b3, fun r => b4 (u b 2 (by omega) (by decide) (by decide) r).1⟩, fun h hh => ⟨fun r => (a4 h hh).1 (u h 1 hh (by decide) (by decide) r).1, fun r => (a4 h hh).2.1 (u h 3 hh (by decide) (by decide) r).1, fun r => (a4 h hh).2.2 (u h 4 hh (by decide) (by decide) r).1⟩, fun l' hl' r => a5 l' hl' ((eLK l').mp r)⟩
    rw [e7 l hl]
    by_cases x : l = j
    · rw [if_pos x]; exact Or.inr rfl
    · rw [if_neg x, if_neg (fun y => (a4 l hl).2.2 y.1)]; exact a2
  · rcases x3 b hb (eAB b hb q) with ⟨l, hl, r⟩ | ⟨r1, r2⟩
    · exact Or.inl ⟨l, hl, (eLO b l).mpr r⟩
    · exact Or.inr ⟨fun l hl r => r1 l hl ((eLK l).mp r), fun h hh => ⟨fun r => (r2 h hh).1 (u h 1 hh (by decide) (by decide) r).1, fun r => (r2 h hh).2.1 (u h 3 hh (by decide) (by decide) r).1, fun r => (r2 h hh).2.2 (u h 4 hh (by decide) (by decide) r).1⟩⟩
  · obtain ⟨r1, r2⟩ := u h 4 hh (by decide) (by decide) q
    rcases e60 with ⟨a, -⟩ | a
    · rw [a]; exact x6 h hh r1
    · rw [e7 h hh, if_neg r2, if_pos ⟨r1, a⟩] at q; exact absurd q (by decide)
  · rcases e60 with ⟨a, b⟩ | a
    · rw [a] at q; rw [b]; exact x7 q h hh (u h 1 hh (by decide) (by decide) q1).1
    · exact absurd a q
  · obtain ⟨y1, y2, y3⟩ := x8 h h1 h2
    rw [e7 h h2, if_neg (by omega), if_neg (fun y => by rw [y1] at y; exact absurd y.1 (by decide)), e 11 (by omega), e 12 (by omega)]; exact ⟨y1, y2, y3⟩
  · rw [e 5 (by omega)] at q; rw [e 12 (by omega)]; exact x9 q h hh
theorem cr1_e {s : (Nat → Nat → Int32)} {j : Nat} : (∀ f, f ≠ 7 → f ≠ 10 → m_cr1 s j f = s f) ∧ ∀ h, m_cr1 s j 7 h = if h = j then 6 else s 7 h := ⟨fun f h1 h2 => by unfold m_cr1; rw [u2_ne h2, u2_ne h1], fun h => by unfold m_cr1; rw [u2_ne (by decide), u2_i]⟩
theorem EX_crash1 {n pg rm c j : Nat} {s : (Nat → Nat → Int32)} {τ : (Nat → Nat → Int64)} (H : EX n c s) (V : CV n pg rm c s τ) (hj : j < n) (hr : s 60 0 = -1 ∨ ∀ r l, TrAt s n r l → j ≠ r ∧ j ≠ l) : EX n (c + 1) (m_cr1 s j) := by
  obtain ⟨g1, g2, g3, g4, g5, g6, g7⟩ := V.g
  have hn4 := g1.2.2.2.2.2.2.1
  refine EX_cr H hj hn4 (fun h hh => ?_) (Or.inl ⟨by rw [cr1_e.1 60 (by decide) (by decide)], by rw [cr1_e.1 61 (by decide) (by decide)]⟩) (fun f hf => cr1_e.1 f (by omega) (by omega))
  rw [cr1_e.2, cr1_e.1 60 (by decide) (by decide)]
  by_cases x : h = j
  · rw [if_pos x, if_pos x]
  · rw [if_neg x, if_neg x, if_neg (fun y => ?_)]
    have q60 := H.2.2.2.2.2.2.1 h hh y.1
    rw [y.2] at q60; exact absurd q60.symm (nI_m1 hh)
theorem EX_crash2 {n pg rm c j t : Nat} {s : (Nat → Nat → Int32)} {τ : (Nat → Nat → Int64)} (H : EX n c s) (V : CV n pg rm c s τ) (hj : j < n) (ht : TrAt s n t j) : EX n (c + 1) (m_cr1 (m_crS s t) j) := by
  obtain ⟨g1, g2, g3, g4, g5, g6, g7⟩ := V.g
  have hn4 := g1.2.2.2.2.2.2.1
  have e : ∀ f, f ≠ 7 → f ≠ 60 → f ≠ 61 → m_crS s t f = s f := fun f h1 h2 h3 => by unfold m_crS; rw [u2_ne h3, u2_ne h2, u2_ne h1]
  have v60 : m_crS s t 60 0 = -1 := by unfold m_crS; rw [u2_ne (by decide), u2_ss]
  have v7 : ∀ h, m_crS s t 7 h = if h = t then 0 else s 7 h := fun h => by unfold m_crS; rw [u2_ne (by decide), u2_ne (by decide), u2_i]
  refine EX_cr H hj hn4 (fun h hh => ?_) (Or.inr (by rw [cr1_e.1 60 (by decide) (by decide)]; exact v60)) (fun f hf => by rw [cr1_e.1 f (by omega) (by omega), e f (by omega) (by omega) (by omega)])
  rw [cr1_e.2, cr1_e.1 60 (by decide) (by decide), v60, v7]
  by_cases x : h = j
  · rw [if_pos x, if_pos x]
  · rw [if_neg x, if_neg x]
    by_cases y : h = t
    · obtain ⟨l, inv⟩ := V
      rw [if_pos y, if_pos ⟨by rw [y]; exact (TrAt_R inv ht).1, rfl⟩]
    · rw [if_neg y, if_neg (fun z => ?_)]
      have q60 := H.2.2.2.2.2.2.1 h hh z.1
      exact y (nIv_inj (q60.symm.trans ht.1) (by omega) (by have := ht.2.2.1; omega))
theorem EX_crash3 {n pg rm c j l : Nat} {s : (Nat → Nat → Int32)} {τ : (Nat → Nat → Int64)} (H : EX n c s) (V : CV n pg rm c s τ) (hj : j < n) (ht : TrAt s n j l) : EX n (c + 1) (m_cr1 (m_crR s) j) := by
  obtain ⟨g1, g2, g3, g4, g5, g6, g7⟩ := V.g
  have hn4 := g1.2.2.2.2.2.2.1
  have e : ∀ f, f ≠ 60 → f ≠ 61 → m_crR s f = s f := fun f h2 h3 => by unfold m_crR; rw [u2_ne h3, u2_ne h2]
  have v60 : m_crR s 60 0 = -1 := by unfold m_crR; rw [u2_ne (by decide), u2_ss]
  refine EX_cr H hj hn4 (fun h hh => ?_) (Or.inr (by rw [cr1_e.1 60 (by decide) (by decide)]; exact v60)) (fun f hf => by rw [cr1_e.1 f (by omega) (by omega), e f (by omega) (by omega)])
  rw [cr1_e.2, cr1_e.1 60 (by decide) (by decide), v60, e 7 (by decide) (by decide)]
  by_cases x : h = j
  · rw [if_pos x, if_pos x]
  · rw [if_neg x, if_neg x, if_neg (fun z => ?_)]
    have q60 := H.2.2.2.2.2.2.1 h hh z.1
    exact x (nIv_inj (q60.symm.trans ht.1) (by omega) (by omega))
theorem EX_rep {n c j : Nat} {s : (Nat → Nat → Int32)} (H : EX n c s) (hj : j < n) (hn : n ≤ 4) (h7 : s 7 j = 6 ∨ s 7 j = 5) : EX n (c + 1) (m_rep s j) := by
  obtain ⟨x0, x1, x2, x3, x4, x5, x6, x7, x8, x9⟩ := id H
  have e0 : ∀ f, f ≠ 53 → f ≠ 55 → f ≠ 56 → m_rep s j f = u2 (u2 (u2 (u2 s 7 j 0) 11 j 0) 12 j 0) 8 j (-1) f := fun f h1 h2 h3 => by unfold m_rep; rw [noCh_ne h1 h2 h3]
  have e : ∀ f, f = 5 ∨ f = 9 ∨ f = 13 ∨ f = 14 ∨ f = 60 ∨ f = 61 → m_rep s j f = s f := fun f hf => by rw [e0 f (by omega) (by omega) (by omega), u2_ne (by omega), u2_ne (by omega), u2_ne (by omega), u2_ne (by omega)]
  have v7 : ∀ h, m_rep s j 7 h = if h = j then 0 else s 7 h := fun h => by rw [e0 7 (by decide) (by decide) (by decide), u2_ne (by decide), u2_ne (by decide), u2_ne (by decide), u2_i]
  have v11 : ∀ h, m_rep s j 11 h = if h = j then 0 else s 11 h := fun h => by rw [e0 11 (by decide) (by decide) (by decide), u2_ne (by decide), u2_ne (by decide), u2_i, u2_ne (by decide)]
  have v12 : ∀ h, m_rep s j 12 h = if h = j then 0 else s 12 h := fun h => by rw [e0 12 (by decide) (by decide) (by decide), u2_ne (by decide), u2_i, u2_ne (by decide), u2_ne (by decide)]
  have v8 : ∀ h, m_rep s j 8 h = if h = j then -1 else s 8 h := fun h => by rw [e0 8 (by decide) (by decide) (by decide), u2_i, u2_ne (by decide), u2_ne (by decide), u2_ne (by decide)]
  have u : ∀ h w, ¬ w = 0 → m_rep s j 7 h = w → s 7 h = w ∧ h ≠ j := fun h w hw q => by
    rw [v7] at q
    by_cases x : h = j
    · rw [if_pos x] at q; exact absurd q.symm hw
    · rw [if_neg x] at q; exact ⟨q, x⟩
  have eLK : ∀ l, LKl (m_rep s j) l ↔ LKl s l ∧ l ≠ j := fun l => by
    unfold LKl
    rw [v11, v12]
    by_cases x : l = j
    · rw [if_pos x, if_pos x]; exact ⟨fun q => absurd rfl q.1, fun q => absurd x q.2⟩
    · rw [if_neg x, if_neg x]; exact ⟨fun q => ⟨q, x⟩, fun q => q.1⟩
  have eAB : ∀ b, AB (m_rep s j) b → AB s b ∧ b ≠ j := fun b q => ⟨⟨(u b 2 (by decide) q.1).1, by have := q.2; rw [e 14 (by omega), e 9 (by omega)] at this; exact this⟩, (u b 2 (by decide) q.1).2⟩
  have eHD : ∀ h, HD (m_rep s j) h → HD s h := fun h q => by
    rcases q with q | q
    · obtain ⟨r1, r2⟩ := u h 1 (by decide) q.1
      exact Or.inl ⟨r1, by have := q.2; rw [v12, if_neg r2] at this; exact this⟩
    · exact Or.inr (u h 3 (by decide) q).1
  have nj : ∀ v, v = 1 ∨ v = 3 ∨ v = 4 → ¬ s 7 j = v := fun v hv q => by
    rcases h7 with r | r <;> rcases hv with w | w | w <;> rw [r, w] at q <;> exact absurd q (by decide)
  refine ⟨by rw [e 13 (by omega), e 14 (by omega), e 9 (by omega)]; exact ⟨nb_up x0.1 (by omega), x0.2⟩, fun h hh q1 q2 => ?_, fun l hl q => ?_, fun b hb q => ?_, fun b b' hb hb' q q' => x4 b b' hb hb' (eAB b q).1 (eAB b' q').1, fun h h' hh hh' q q' => x5 h h' hh hh' (eHD h q) (eHD h' q'), fun h hh q => ?_, fun q h hh q1 => ?_, fun h h1 h2 => ?_, fun q h hh => ?_⟩
  · obtain ⟨r1, r2⟩ := u h 1 (by decide) q1
    rw [v12, if_neg r2] at q2
    rw [v11, if_neg r2, e 9 (by omega), e 14 (by omega)]
    exact x1 h hh r1 q2
  · obtain ⟨q, hlj⟩ := (eLK l).mp q
    obtain ⟨a1, a2, ⟨b, b1, b2, b3, b4⟩, a4, a5⟩ := x2 l hl q
    unfold LKp
    rw [e 14 (by omega), e 9 (by omega), v7, if_neg hlj, v8, if_neg hlj]
    refine ⟨a1, a2, ⟨b, b1, b2, b3, fun r => ?_⟩, fun h hh => ⟨fun r => (a4 h hh).1 (u h 1 (by decide) r).1, fun r => (a4 h hh).2.1 (u h 3 (by decide) r).1, fun r => (a4 h hh).2.2 (u h 4 (by decide) r).1⟩, fun l' hl' r => a5 l' hl' ((eLK l').mp r).1⟩
    obtain ⟨r1, r2⟩ := u b 2 (by decide) r
    rw [v8, if_neg r2]; exact b4 r1
  · obtain ⟨q1, hbj⟩ := eAB b q
    rcases x3 b hb q1 with ⟨l, hl, r⟩ | ⟨r1, r2⟩
    · by_cases x : l = j
      · right
        obtain ⟨a1, a2, a3, a4, a5⟩ := x2 l hl r.lk
        refine ⟨fun l' hl' r' => ?_, fun h hh => ⟨fun w => ?_, fun w => (a4 h hh).2.1 (u h 3 (by decide) w).1, fun w => (a4 h hh).2.2 (u h 4 (by decide) w).1⟩⟩
        · obtain ⟨w1, w2⟩ := (eLK l').mp r'
          exact w2 ((a5 l' hl' w1).trans x)
        · obtain ⟨w1, w2⟩ := u h 1 (by decide) w
          exact w2 (((a4 h hh).1 w1).trans x)
      · left
        refine ⟨l, hl, ?_⟩
        unfold isLO at r ⊢
        rw [v8, v8, v11, v12, if_neg x, if_neg x, if_neg x, if_neg hbj, e 9 (by omega)]
        exact r
    · exact Or.inr ⟨fun l hl r => r1 l hl ((eLK l).mp r).1, fun h hh => ⟨fun r => (r2 h hh).1 (u h 1 (by decide) r).1, fun r => (r2 h hh).2.1 (u h 3 (by decide) r).1, fun r => (r2 h hh).2.2 (u h 4 (by decide) r).1⟩⟩
  · rw [e 60 (by omega)]; exact x6 h hh (u h 4 (by decide) q).1
  · rw [e 60 (by omega)] at q; rw [e 61 (by omega)]; exact x7 q h hh (u h 1 (by decide) q1).1
  · obtain ⟨y1, y2, y3⟩ := x8 h h1 h2
    rw [v7, v11, v12, if_neg (by omega), if_neg (by omega), if_neg (by omega)]; exact ⟨y1, y2, y3⟩
  · rw [e 5 (by omega)] at q
    rw [v12]
    by_cases x : h = j
    · rw [if_pos x]
    · rw [if_neg x]; exact x9 q h hh
