theorem prv {σ : (Nat → Nat → Int32)} {r l : Nat} {v : Int32} (hlr : l ≠ r) : (∀ f, f = 5 ∨ f = 14 → m_pr2 (m_noCh (m_pr1 σ r l v) l) r f = σ f) ∧ m_pr2 (m_noCh (m_pr1 σ r l v) l) r 13 0 = v ∧ m_pr2 (m_noCh (m_pr1 σ r l v) l) r 60 0 = -1 ∧ m_pr2 (m_noCh (m_pr1 σ r l v) l) r 61 0 = -1 ∧ (∀ h, m_pr2 (m_noCh (m_pr1 σ r l v) l) r 7 h = if h = r then 2 else σ 7 h) ∧ (∀ h, m_pr2 (m_noCh (m_pr1 σ r l v) l) r 9 h = if h = l ∨ h = r then v else σ 9 h) ∧ (∀ h, m_pr2 (m_noCh (m_pr1 σ r l v) l) r 8 h = if h = l then nI r else if h = r then nI l else σ 8 h) ∧ (∀ h, m_pr2 (m_noCh (m_pr1 σ r l v) l) r 11 h = if h = r then 0 else if h = l then 1 else σ 11 h) ∧ (∀ h, m_pr2 (m_noCh (m_pr1 σ r l v) l) r 12 h = if h = r then 0 else if h = l then 0 else σ 12 h) := by
  have n : ∀ f, f ≠ 53 → f ≠ 55 → f ≠ 56 → m_noCh (m_pr1 σ r l v) l f = m_pr1 σ r l v f := fun f h1 h2 h3 => noCh_ne h1 h2 h3
  have p2 : ∀ (ς : (Nat → Nat → Int32)) f, f ≠ 7 → f ≠ 11 → f ≠ 12 → f ≠ 58 → f ≠ 59 → f ≠ 60 → f ≠ 61 → m_pr2 ς r f = ς f := fun ς f h1 h2 h3 h4 h5 h6 h7 => by unfold m_pr2; rw [u2_ne h7, u2_ne h6, u2_ne h5, u2_ne h4, u2_ne h3, u2_ne h2, u2_ne h1]
  have p1 : ∀ f, f ≠ 13 → f ≠ 9 → f ≠ 8 → f ≠ 11 → f ≠ 12 → m_pr1 σ r l v f = σ f := fun f h1 h2 h3 h4 h5 => by unfold m_pr1; rw [u2_ne h5, u2_ne h4, u2_ne h3, u2_ne h3, u2_ne h2, u2_ne h2, u2_ne h1]
  refine ⟨fun f hf => ?_, ?_, ?_, ?_, fun h => ?_, fun h => ?_, fun h => ?_, fun h => ?_, fun h => ?_⟩
  · rw [p2 _ f (by omega) (by omega) (by omega) (by omega) (by omega) (by omega) (by omega), n f (by omega) (by omega) (by omega), p1 f (by omega) (by omega) (by omega) (by omega) (by omega)]
  · rw [p2 _ 13 (by decide) (by decide) (by decide) (by decide) (by decide) (by decide) (by decide), n 13 (by decide) (by decide) (by decide)]
    unfold m_pr1
    rw [u2_ne (by decide), u2_ne (by decide), u2_ne (by decide), u2_ne (by decide), u2_ne (by decide), u2_ne (by decide), u2_ss]
  · unfold m_pr2; rw [u2_ne (by decide), u2_ss]
  · unfold m_pr2; rw [u2_ss]
  · unfold m_pr2
    rw [u2_ne (by decide), u2_ne (by decide), u2_ne (by decide), u2_ne (by decide), u2_ne (by decide), u2_ne (by decide), u2_i, n 7 (by decide) (by decide) (by decide), p1 7 (by decide) (by decide) (by decide) (by decide) (by decide)]
  · rw [p2 _ 9 (by decide) (by decide) (by decide) (by decide) (by decide) (by decide) (by decide), n 9 (by decide) (by decide) (by decide)]
    unfold m_pr1
    rw [u2_ne (by decide), u2_ne (by decide), u2_ne (by decide), u2_ne (by decide), u2_i, u2_i, u2_ne (by decide)]
    by_cases x : h = l
    · rw [if_pos x, if_pos (Or.inl x)]
    · rw [if_neg x]
      by_cases y : h = r
      · rw [if_pos y, if_pos (Or.inr y)]
      · rw [if_neg y, if_neg (fun z => z.elim x y)]
  · rw [p2 _ 8 (by decide) (by decide) (by decide) (by decide) (by decide) (by decide) (by decide), n 8 (by decide) (by decide) (by decide)]
    unfold m_pr1
    rw [u2_ne (by decide), u2_ne (by decide), u2_i, u2_i, u2_ne (by decide), u2_ne (by decide), u2_ne (by decide)]
  · unfold m_pr2
    rw [u2_ne (by decide), u2_ne (by decide), u2_ne (by decide), u2_ne (by decide), u2_ne (by decide), u2_i, u2_ne (by decide), n 11 (by decide) (by decide) (by decide)]
    unfold m_pr1
    rw [u2_ne (by decide), u2_i, u2_ne (by decide), u2_ne (by decide), u2_ne (by decide), u2_ne (by decide), u2_ne (by decide)]
  · unfold m_pr2
    rw [u2_ne (by decide), u2_ne (by decide), u2_ne (by decide), u2_ne (by decide), u2_i, u2_ne (by decide), u2_ne (by decide), n 12 (by decide) (by decide) (by decide)]
    unfold m_pr1
    rw [u2_i, u2_ne (by decide), u2_ne (by decide), u2_ne (by decide), u2_ne (by decide), u2_ne (by decide), u2_ne (by decide)]
theorem mx_v {n c : Nat} {s : (Nat → Nat → Int32)} (H : EX n c s) (hc : c ≤ 4000) : m_mx s = nI (cl (s 13 0) + 1) := by
  obtain ⟨b13, b14, -⟩ := H.1
  unfold m_mx
  have : s 14 0 ≤ s 13 0 := by rw [b13.1, b14.1]; exact (nIv_le (by have := b14.2; have := b13.2; omega) (by have := b13.2; omega)).mpr b14.2
  rw [if_pos this]
  exact (cl_inc b13 (by omega)).1
theorem EX_pair {n pg rm c r l : Nat} {s : (Nat → Nat → Int32)} {τ : (Nat → Nat → Int64)} (H : EX n c s) (V : CV n pg rm c s τ) (ht : TrAt s n r l) (hc : c ≤ 4000) : EX n (c + 1) (m_pair s r l) ∧ (∀ h, h < 4 → ¬ LKl s h) ∧ (∀ h, h < 4 → s 7 h = 1 → h = l) := by
  obtain ⟨x0, x1, x2, x3, x4, x5, x6, x7, x8, x9⟩ := id H
  obtain ⟨g1, g2, g3, g4, g5, g6, g7⟩ := V.g
  have hn4 := g1.2.2.2.2.2.2.1
  obtain ⟨t60, t61, hr, hl, hlr⟩ := id ht
  have R4 : s 7 r = 4 ∧ s 7 l = 1 ∧ s 11 l = 0 := by obtain ⟨_, inv⟩ := V; obtain ⟨a, b, c, -⟩ := TrAt_R inv ht; exact ⟨a, b, c⟩
  have n60 : ¬ s 60 0 = -1 := by rw [t60]; exact nI_m1 (by omega)
  have one : ∀ h, h < 4 → s 7 h = 1 → h = l := fun h hh q => nIv_inj ((x7 n60 h hh q).symm.trans t61) (by omega) (by omega)
  have noLK : ∀ h, h < 4 → ¬ LKl s h := fun h hh q => absurd R4.1 ((x2 h hh q).2.2.2.1 r (by omega)).2.2
  have noAB : ∀ b, b < 4 → ¬ AB s b := fun b hb q => by
    rcases x3 b hb q with ⟨t, ht, w⟩ | w
    · exact noLK t ht w.lk
    · exact (w.2 l (by omega)).1 R4.2.1
  have l12 : s 12 l = 0 := by
    by_cases y : s 12 l = 0
    · exact y
    · exact absurd R4.2.2 (x1 l (by omega) R4.2.1 y).1
  have hdl : HD s l := Or.inl ⟨R4.2.1, l12⟩
  have no3 : ∀ h, h < 4 → ¬ s 7 h = 3 := fun h hh q => by
    have := x5 h l hh (by omega) (Or.inr q) hdl
    rw [this, R4.2.1] at q; exact absurd q (by decide)
  have no4 : ∀ h, h < 4 → s 7 h = 4 → h = r := fun h hh q => nIv_inj ((x6 h hh q).symm.trans t60) (by omega) (by omega)
  refine ⟨?_, noLK, one⟩
  have cp : ∀ f, f < 16 ∨ 38 < f → m_copy s l r f = s f := fun f hf => m_copy_ne hf
  obtain ⟨w0, w13, w60, w61, w7, w9, w8, w11, w12⟩ := prv (σ := m_copy s l r) (v := m_mx s) hlr
  rw [cp 7 (by omega)] at w7
  rw [cp 9 (by omega)] at w9
  rw [cp 8 (by omega)] at w8
  rw [cp 11 (by omega)] at w11
  rw [cp 12 (by omega)] at w12
  have w14 := w0 14 (by omega)
  rw [cp 14 (by omega)] at w14
  have w5 := w0 5 (by omega)
  rw [cp 5 (by omega)] at w5
  have mv := mx_v H hc
  rw [mv] at w13 w9 w60 w61 w7 w8 w11 w12 w14 w5
  have hb13 := x0.1.2
  have hb14 := x0.2.1.2
  unfold m_pair
  rw [mv]
  generalize m_pr2 (m_noCh (m_pr1 (m_copy s l r) r l (nI (cl (s 13 0) + 1))) l) r = S at *
  have c13 : cl (S 13 0) = cl (s 13 0) + 1 := by rw [w13, cl_nI (by omega)]
  have u : ∀ h v, ¬ v = 2 → S 7 h = v → s 7 h = v ∧ h ≠ r := fun h v hv q => by
    rw [w7] at q
    by_cases x : h = r
    · rw [if_pos x] at q; exact absurd q.symm hv
    · rw [if_neg x] at q; exact ⟨q, x⟩
  have lk : ∀ h, h < 4 → LKl S h → h = l := fun h hh q => by
    unfold LKl at q
    rw [w11, w12] at q
    by_cases x : h = r
    · rw [if_pos x] at q; exact absurd rfl q.1
    · rw [if_neg x, if_neg x] at q
      by_cases y : h = l
      · exact y
      · rw [if_neg y, if_neg y] at q; exact absurd q (noLK h hh)
  have ab : ∀ b, b < 4 → AB S b → b = r := fun b hb q => by
    by_cases x : b = r
    · exact x
    · have q1 := q.1
      rw [w7, if_neg x] at q1
      have q2 := q.2
      rw [w14, w9] at q2
      by_cases y : b = l
      · rw [y, R4.2.1] at q1; exact absurd q1 (by decide)
      · rw [if_neg (fun z => z.elim y x)] at q2; exact absurd ⟨q1, q2⟩ (noAB b hb)
  have lo : isLO S r l := by
    unfold isLO
    rw [w8, w11, w12, w8, w9, w9, if_neg (Ne.symm hlr), if_pos rfl, if_neg hlr, if_pos rfl, if_neg hlr, if_pos rfl, if_pos rfl, if_pos (Or.inl rfl), if_pos (Or.inr rfl)]
    exact ⟨rfl, by decide, rfl, rfl, rfl⟩
  refine ⟨⟨by rw [w13]; exact nb_n (by omega) (by omega), by rw [w14, c13]; exact nb_up x0.2.1 (by omega), fun h hh => ?_⟩, fun h hh q1 q2 => ?_, fun t ht q => ?_, fun b hb q => Or.inl ⟨l, by omega, by rw [ab b hb q]; exact lo⟩, fun b b' hb hb' q q' => by rw [ab b hb q, ab b' hb' q'], fun h h' hh hh' q q' => ?_, fun h hh q => ?_, fun q => absurd w60 q, fun h h1 h2 => ?_, fun q => ?_⟩
  · rw [w9, c13]
    by_cases x : h = l ∨ h = r
    · rw [if_pos x]; exact nb_n (by omega) (by omega)
    · rw [if_neg x]; exact nb_up (x0.2.2 h hh) (by omega)
  · have := one h hh (u h 1 (by decide) q1).1
    rw [this, w12, if_neg hlr, if_pos rfl] at q2
    exact absurd rfl q2
  · have e := lk t ht q
    subst e
    refine ⟨by rw [w14, w9, if_pos (Or.inl rfl), cl_nI (by omega)]; omega, by rw [w7, if_neg hlr]; exact Or.inl R4.2.1, ⟨r, hr, Ne.symm hlr, by rw [w8, if_pos rfl], fun _ => ⟨lo.1, lo.2.2.2.2⟩⟩, fun h hh => ⟨fun w => one h hh (u h 1 (by decide) w).1, fun w => no3 h hh (u h 3 (by decide) w).1, fun w => ?_⟩, lk⟩
    obtain ⟨w1, w2⟩ := u h 4 (by decide) w
    exact w2 (no4 h hh w1)
  · have k : ∀ h, h < 4 → HD S h → h = l := fun h hh q => by
      rcases q with q | q
      · exact one h hh (u h 1 (by decide) q.1).1
      · exact absurd (u h 3 (by decide) q).1 (no3 h hh)
    rw [k h hh q, k h' hh' q']
  · obtain ⟨w1, w2⟩ := u h 4 (by decide) q
    exact absurd (no4 h hh w1) w2
  · obtain ⟨y1, y2, y3⟩ := x8 h h1 h2
    rw [w7, w11, w12, if_neg (by omega), if_neg (by omega), if_neg (by omega), if_neg (by omega), if_neg (by omega)]; exact ⟨y1, y2, y3⟩
  · rw [w5] at q
    obtain ⟨_, g, -⟩ := V
    have := ((g.2.2.2.2.2.2 q).2 l (by omega)).1
    rw [R4.2.1] at this; exact absurd this (by decide)
