def LKl (s : (Nat → Nat → Int32)) (l : Nat) : Prop := ¬ s 11 l = 0 ∧ s 12 l = 0
def HD (s : (Nat → Nat → Int32)) (h : Nat) : Prop := (s 7 h = 1 ∧ s 12 h = 0) ∨ s 7 h = 3
def AB (s : (Nat → Nat → Int32)) (b : Nat) : Prop := s 7 b = 2 ∧ cl (s 14 0) < cl (s 9 b)
def LKp (n : Nat) (s : (Nat → Nat → Int32)) (l : Nat) : Prop := cl (s 14 0) < cl (s 9 l) ∧ (s 7 l = 1 ∨ s 7 l = 6) ∧ (∃ b, b < n ∧ b ≠ l ∧ s 8 l = nI b ∧ (s 7 b = 2 → s 8 b = nI l ∧ s 9 l = s 9 b)) ∧ (∀ h, h < 4 → (s 7 h = 1 → h = l) ∧ ¬ s 7 h = 3 ∧ ¬ s 7 h = 4) ∧ ∀ l', l' < 4 → LKl s l' → l' = l
def NoL (s : (Nat → Nat → Int32)) : Prop := (∀ l, l < 4 → ¬ LKl s l) ∧ ∀ h, h < 4 → ¬ s 7 h = 1 ∧ ¬ s 7 h = 3 ∧ ¬ s 7 h = 4
def EX (n c : Nat) (s : (Nat → Nat → Int32)) : Prop :=
  (nb (s 13 0) c ∧ nb (s 14 0) (cl (s 13 0)) ∧ ∀ h, h < 4 → nb (s 9 h) (cl (s 13 0))) ∧
  (∀ h, h < 4 → s 7 h = 1 → ¬ s 12 h = 0 → ¬ s 11 h = 0 ∧ cl (s 9 h) ≤ cl (s 14 0)) ∧
  (∀ l, l < 4 → LKl s l → LKp n s l) ∧
  (∀ b, b < 4 → AB s b → (∃ l, l < 4 ∧ isLO s b l) ∨ NoL s) ∧
  (∀ b b', b < 4 → b' < 4 → AB s b → AB s b' → b = b') ∧
  (∀ h h', h < 4 → h' < 4 → HD s h → HD s h' → h = h') ∧
  (∀ h, h < 4 → s 7 h = 4 → s 60 0 = nI h) ∧
  (¬ s 60 0 = -1 → ∀ h, h < 4 → s 7 h = 1 → s 61 0 = nI h) ∧
  (∀ h, n ≤ h → h < 4 → s 7 h = 0 ∧ s 11 h = 0 ∧ s 12 h = 0) ∧
  (s 5 0 = 0 → ∀ h, h < 4 → s 12 h = 0)
theorem isLO.lk {s : (Nat → Nat → Int32)} {b l : Nat} (h : isLO s b l) : LKl s l := ⟨h.2.1, h.2.2.1⟩
theorem EX_nf {n c d : Nat} {s s' : (Nat → Nat → Int32)} (H : EX n c s) (hc : c ≤ d) (e : ∀ f, f = 5 ∨ f = 7 ∨ f = 8 ∨ f = 9 ∨ f = 11 ∨ f = 12 ∨ f = 13 ∨ f = 14 ∨ f = 60 ∨ f = 61 → s' f = s f) : EX n d s' := by
  unfold EX LKp NoL AB HD LKl isLO
  rw [e 5 (by omega), e 7 (by omega), e 8 (by omega), e 9 (by omega), e 11 (by omega), e 12 (by omega), e 13 (by omega), e 14 (by omega), e 60 (by omega), e 61 (by omega)]
  exact ⟨⟨nb_up H.1.1 hc, H.1.2⟩, H.2⟩
theorem EX_up {n c d : Nat} {s : (Nat → Nat → Int32)} (H : EX n c s) (hc : c ≤ d) : EX n d s := EX_nf H hc (fun _ _ => rfl)
theorem EX_I {n pg rm : Nat} : EX n 0 (r_s0 (nI n) (nI pg) (nI rm)) := by
  refine ⟨⟨nb_0, nb_0, fun h hh => nb_0⟩, fun h hh q => absurd (show (0 : Int32) = 1 from q) (by decide), fun l hl q => absurd rfl q.1, fun b hb q => absurd (show (0 : Int32) = 2 from q.1) (by decide), fun b b' hb hb' q => absurd (show (0 : Int32) = 2 from q.1) (by decide), fun h h' hh hh' q => ?_, fun h hh q => absurd (show (0 : Int32) = 4 from q) (by decide), fun q => absurd rfl q, fun h h1 h2 => ⟨rfl, rfl, rfl⟩, fun _ h hh => rfl⟩
  rcases q with q | q
  · exact absurd (show (0 : Int32) = 1 from q.1) (by decide)
  · exact absurd (show (0 : Int32) = 3 from q) (by decide)
theorem u2_i {s : (Nat → Nat → Int32)} {f j h : Nat} {v : Int32} : u2 s f j v f h = if h = j then v else s f h := by
  by_cases q : h = j
  · rw [if_pos q, q, u2_ss]
  · rw [if_neg q, u2_sn q]
theorem EX_boot {n pg rm c : Nat} {s : (Nat → Nat → Int32)} {τ : (Nat → Nat → Int64)} (hn2 : 2 ≤ n) (H : EX n c s) (V : CV n pg rm c s τ) (h5 : s 5 0 = 0) : EX n (c + 1) (m_boot s) := by
  obtain ⟨l0, g, -⟩ := V
  obtain ⟨g60, gh⟩ := g.2.2.2.2.2.2 h5
  have e : ∀ f, f ≠ 5 → f ≠ 7 → f ≠ 15 → m_boot s f = s f := fun f h1 h2 h3 => by unfold m_boot; rw [u2_ne h2, m_bootl_ne h3, u2_ne h1]
  have e7 : ∀ h, m_boot s 7 h = if h = 0 then 1 else s 7 h := fun h => by
    unfold m_boot
    rw [u2_i]
    by_cases q : h = 0
    · rw [if_pos q, if_pos q]
    · rw [if_neg q, if_neg q, m_bootl_ne (by decide), u2_ne (by decide)]
  have e5 : ¬ m_boot s 5 0 = 0 := by unfold m_boot; rw [u2_ne (by decide), m_bootl_ne (by decide), u2_ss]; decide
  have n7 : ∀ h, h < 4 → m_boot s 7 h = 1 → h = 0 := fun h hh q => by
    by_cases x : h = 0
    · exact x
    · rw [e7, if_neg x] at q
      rcases (gh h hh).1 with r | r <;> rw [r] at q <;> exact absurd q (by decide)
  have n2 : ∀ h v, h < 4 → (v = 2 ∨ v = 3 ∨ v = 4) → ¬ m_boot s 7 h = v := fun h v hh hv q => by
    rw [e7] at q
    by_cases x : h = 0
    · rw [if_pos x] at q; rcases hv with r | r | r <;> rw [r] at q <;> exact absurd q (by decide)
    · rw [if_neg x] at q
      rcases (gh h hh).1 with r' | r' <;> rcases hv with r | r | r <;> rw [r', r] at q <;> exact absurd q (by decide)
  obtain ⟨x0, x1, x2, x3, x4, x5, x6, x7, x8, x9⟩ := H
  refine ⟨?_, ?_, ?_, fun b hb q => absurd q.1 (n2 b 2 hb (by decide)), fun b b' hb hb' q => absurd q.1 (n2 b 2 hb (by decide)), ?_, fun h hh q => absurd q (n2 h 4 hh (by decide)), ?_, ?_, fun q => absurd q e5⟩
  · rw [e 13 (by decide) (by decide) (by decide), e 14 (by decide) (by decide) (by decide), e 9 (by decide) (by decide) (by decide)]
    exact ⟨nb_up x0.1 (by omega), x0.2⟩
  · intro h hh _ q2
    rw [e 12 (by decide) (by decide) (by decide)] at q2
    exact absurd (x9 h5 h hh) q2
  · intro l hl q
    unfold LKl at q
    rw [e 11 (by decide) (by decide) (by decide)] at q
    exact absurd (gh l hl).2.1 q.1
  · intro h h' hh hh' q q'
    have k : ∀ h, h < 4 → HD (m_boot s) h → h = 0 := fun h hh q => by
      rcases q with q | q
      · exact n7 h hh q.1
      · exact absurd q (n2 h 3 hh (by decide))
    rw [k h hh q, k h' hh' q']
  · rw [e 60 (by decide) (by decide) (by decide)]; exact fun q => absurd g60 q
  · intro h h1 h2
    rw [e7, if_neg (by omega), e 11 (by decide) (by decide) (by decide), e 12 (by decide) (by decide) (by decide)]
    exact x8 h h1 h2
theorem EX_go {n c j : Nat} {s s' : (Nat → Nat → Int32)} (H : EX n c s) (hR : ¬ s 60 0 = -1 → ∃ t, t < 4 ∧ s 7 t = 1 ∧ s 11 t = 0) (hj : j < 4) (h7 : s 7 j = 3) (e7 : ∀ h, s' 7 h = if h = j then 1 else s 7 h) (e11 : ∀ h, s' 11 h = if h = j then 0 else s 11 h) (e12 : ∀ h, s' 12 h = if h = j then 0 else s 12 h) (e8 : ∀ h, s' 8 h = if h = j then -1 else s 8 h) (e : ∀ f, f = 5 ∨ f = 9 ∨ f = 13 ∨ f = 14 ∨ f = 60 ∨ f = 61 → s' f = s f) : EX n c s' := by
  obtain ⟨x0, x1, x2, x3, x4, x5, x6, x7, x8, x9⟩ := H
  have noLK : ∀ l, l < 4 → ¬ LKl s l := fun l hl q => absurd h7 ((x2 l hl q).2.2.2.1 j hj).2.1
  have noAB : ∀ b, b < 4 → ¬ AB s b := fun b hb q => by
    rcases x3 b hb q with ⟨l, hl, r⟩ | r
    · exact noLK l hl r.lk
    · exact (r.2 j hj).2.1 h7
  have noLK' : ∀ l, l < 4 → ¬ LKl s' l := fun l hl q => by
    unfold LKl at q
    rw [e11, e12] at q
    by_cases x : l = j
    · rw [if_pos x] at q; exact q.1 rfl
    · rw [if_neg x, if_neg x] at q; exact noLK l hl q
  have noAB' : ∀ b, b < 4 → ¬ AB s' b := fun b hb q => by
    unfold AB at q
    rw [e7, e 14 (by omega), e 9 (by omega)] at q
    by_cases x : b = j
    · rw [if_pos x] at q; exact absurd q.1 (by decide)
    · rw [if_neg x] at q; exact noAB b hb q
  have hd : HD s j := Or.inr h7
  refine ⟨by rw [e 13 (by omega), e 14 (by omega), e 9 (by omega)]; exact x0, fun h hh q1 q2 => ?_, fun l hl q => absurd q (noLK' l hl), fun b hb q => absurd q (noAB' b hb), fun b b' hb hb' q => absurd q (noAB' b hb), fun h h' hh hh' q q' => ?_, fun h hh q => ?_, fun q h hh q1 => ?_, fun h h1 h2 => ?_, fun q h hh => ?_⟩
  · rw [e12] at q2
    by_cases x : h = j
    · rw [if_pos x] at q2; exact absurd rfl q2
    · rw [if_neg x] at q2
      rw [e7, if_neg x] at q1
      rw [e11, if_neg x, e 9 (by omega), e 14 (by omega)]
      exact x1 h hh q1 q2
  · have k : ∀ h, h < 4 → HD s' h → h = j := fun h hh q => by
      by_cases x : h = j
      · exact x
      · unfold HD at q
        rw [e7, e12, if_neg x, if_neg x] at q
        exact x5 h j hh hj q hd
    rw [k h hh q, k h' hh' q']
  · rw [e7] at q
    by_cases x : h = j
    · rw [if_pos x] at q; exact absurd q (by decide)
    · rw [if_neg x] at q; rw [e 60 (by omega)]; exact x6 h hh q
  · rw [e 60 (by omega)] at q
    rw [e 61 (by omega)]
    exfalso
    obtain ⟨t, ht4, h1, ht11⟩ := hR q
    have ht12 : s 12 t = 0 := by
      by_cases y : s 12 t = 0
      · exact y
      · exact absurd ht11 (x1 t ht4 h1 y).1
    have := x5 t j ht4 hj (Or.inl ⟨h1, ht12⟩) hd
    rw [this] at h1; rw [h1] at h7; exact absurd h7 (by decide)
  · obtain ⟨y1, y2, y3⟩ := x8 h h1 h2
    have x : ¬ h = j := fun q => by rw [q] at y1; rw [y1] at h7; exact absurd h7 (by decide)
    rw [e7, e11, e12, if_neg x, if_neg x, if_neg x]; exact ⟨y1, y2, y3⟩
  · rw [e 5 (by omega)] at q
    rw [e12]
    by_cases x : h = j
    · rw [if_pos x]
    · rw [if_neg x]; exact x9 q h hh
