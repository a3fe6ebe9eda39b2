theorem nIv_inj {a b : Nat} (h : nI a = nI b) (ha : a < 2147483648) (hb : b < 2147483648) : a = b := by
  have := congrArg cl h
  rwa [cl_nI (by omega), cl_nI (by omega)] at this
theorem INV_host {n pg rm c d M N E E' q q' j : Nat} {l k : Nat → Nat} {σ ς : (Nat → Nat → Int32)} {τ υ : (Nat → Nat → Int64)} (H : INV n pg rm c M E q l σ τ) (hj : j < 4) (s : ∀ h, h < 4 → h ≠ j → Sm h σ ς τ υ) (ag : AgE σ ς τ υ) (h4 : ς 4 0 = σ 4 0) (hb : BYa ς) (hl : ∀ h, h ≠ j → k h = l h) (hM : M ≤ N) (hN : N < 2147483000) (hc : c ≤ d) (hd : d ≤ 4200)
    (own : HH (256 * pg) rm N d k ς υ j) (hlo : ∀ b, b < 4 → b ≠ j → σ 7 b = 2 ∨ σ 7 b = 3 → isLO ς b j → isLO σ b j ∧ ∀ kb, Ch (256 * pg) ς υ N (cmL σ b ++ chL σ j) kb (hv (256 * pg) l σ τ b) (hv (256 * pg) l σ τ j) → Ch (256 * pg) ς υ N (cmL σ b ++ chL ς j) kb (hv (256 * pg) l σ τ b) (hv (256 * pg) k ς υ j))
    (g : GI n pg rm E' d ς) (o : OI q' k ς) (r : RcI n (256 * pg) ς) : INV n pg rm d N E' q' k ς υ := by
  refine ⟨g, ?_, o, r⟩
  have hr : rm ≤ 32 := H.1.1.2.2.2.2.2.2.2.2.2.2
  intro h hh
  by_cases e : h = j
  · subst e; exact own
  have sh := s h hh e
  refine HH_sm (H.2.1 h hh) sh ag h4 hb (hl h e) hM hN hc hd hr ?_
  intro h7 X W kb x1 x2
  by_cases lo : isLO ς h j
  · obtain ⟨y1, y2⟩ := hlo h hh e h7 lo
    obtain ⟨z1, z2⟩ := x2 j hj y1
    subst z1; subst z2
    refine ⟨chL ς j, hv (256 * pg) k ς υ j, y2 kb x1, ?_⟩
    intro i hi li
    have : i = j := nIv_inj (li.1.symm.trans lo.1) (by omega) (by omega)
    subst this; exact ⟨rfl, rfl⟩
  · refine ⟨X, W, x1, ?_⟩
    intro i hi li
    have ij : i ≠ j := by intro e; subst e; exact lo li
    have si := s i hi ij
    have li' : isLO σ h i := isLO_sm (by intro f hf; rcases hf with e | e <;> (subst e; exact sh.f1 _ rfl)) (by
      intro f h1 h2
      have : f = 8 ∨ f = 9 ∨ f = 10 ∨ f = 11 ∨ f = 12 := by omega
      rcases this with e | e | e | e | e <;> (subst e; exact si.f1 _ rfl)) li
    obtain ⟨z1, z2⟩ := x2 i hi li'
    have ci := (H.2.1 i hi).2.1 li'.2.1
    rw [chL_sm si (by have := ci.1.2; have := ci.2.1.2; omega), hv_sm si (hl i ij)]
    exact ⟨z1, z2⟩
theorem GI_st {n pg rm E E' c d j : Nat} {σ ς : (Nat → Nat → Int32)} (H : GI n pg rm E c σ) (hj : j < 4) (h7 : σ 7 j = 1 ∨ σ 7 j = 2 ∨ σ 7 j = 3) (e : ∀ f i, f ≤ 5 ∨ f = 8 → ς f i = σ f i) (h44 : nb (ς 44 0) E') (h50 : nb (ς 50 0) (64 * d)) (h72 : nb (ς 72 0) 4096) (h74 : ς 74 0 = 0) : GI n pg rm E' d ς := by
  obtain ⟨g1, g2, g3, g4, g5, g6, g7⟩ := H
  refine ⟨?_, h44, h50, h72, h74, ?_, ?_⟩
  · unfold RB; rw [e 0 0 (by omega), e 1 0 (by omega), e 2 0 (by omega), e 3 0 (by omega), e 4 0 (by omega)]; exact g1
  · intro b hb; rw [e 8 b (by omega)]; exact g6 b hb
  · intro h
    rw [e 5 0 (by omega)] at h
    have := ((g7 h).2 j hj).1
    rcases h7 with a | a | a <;> rw [a] at this <;> exact absurd this (by decide)
theorem OI_st {c d : Nat} {l k : Nat → Nat} {σ ς : (Nat → Nat → Int32)} (H : OI c l σ) (hd : c ≤ d) (e : ∀ f, 65 ≤ f → f ≤ 70 → ς f = σ f) (e10 : ∀ h, h < 4 → ς 10 h = σ 10 h) (hh : ∀ h, h < 4 → σ 7 h = 1 → σ 27 h = 1 → ς 7 h = 1 ∧ ς 27 h = 1 ∧ ς 28 h = σ 28 h ∧ (l h ≤ cl (σ 37 h) - cl (σ 38 h) → k h ≤ cl (ς 37 h) - cl (ς 38 h))) : OI d k ς := by
  obtain ⟨h1, h2, h3⟩ := H
  unfold OI
  rw [e 65 (by decide) (by decide), e 66 (by decide) (by decide)]
  refine ⟨h1, nb_mono h2 hd, ?_⟩
  intro o q1 q2
  obtain ⟨h, a, a1, a2, a3, a4, a5, a6⟩ := h3 o q1 q2
  refine ⟨h, a, a1, ?_, ?_, ?_, ?_, ?_⟩
  · rw [e 67 (by decide) (by decide)]; exact a2
  · rw [e 70 (by decide) (by decide)]; exact a3
  · rw [e 68 (by decide) (by decide)]; exact a4
  · rw [e10 h a1]; exact a5
  · rw [e10 h a1]
    intro ea
    obtain ⟨w1, w2, w3, w4, w5⟩ := a6 ea
    obtain ⟨x1, x2, x3, x4⟩ := hh h a1 w1 w2
    refine ⟨x1, x2, ?_, x4 w4, ?_⟩
    · rw [e 69 (by decide) (by decide), x3]; exact w3
    · rw [e 67 (by decide) (by decide), e 68 (by decide) (by decide)]; exact w5
theorem RI_st {n S j : Nat} {σ σ1 ς : (Nat → Nat → Int32)} (H : RcI n S σ) (hn : n ≤ 4) (hj : j < 4) (hS : S ≤ 4096) (h7 : ¬ σ 7 j = 4) (hR : v_R S j σ σ1) (e1 : ς 15 = σ1 15) (e2 : ς 63 = σ1 63) (e3 : ∀ f, f = 60 ∨ f = 61 → ς f = σ f) (e4 : ∀ h, h < 4 → σ 7 h = 4 ∨ (σ 7 h = 1 ∧ σ 11 h = 0) → ς 7 h = σ 7 h ∧ ς 11 h = σ 11 h) : RcI n S ς := by
  rcases H with h | ⟨r, s, ⟨t1, t2, t3, t4, t5⟩, h2, h3, h4, h5⟩
  · left; rw [e3 60 (.inl rfl), e3 61 (.inr rfl)]; exact h
  right
  have er := e4 r (by omega) (.inl h2)
  have es := e4 s (by omega) (.inr ⟨h3, h4⟩)
  refine ⟨r, s, ⟨by rw [e3 60 (.inl rfl)]; exact t1, by rw [e3 61 (.inr rfl)]; exact t2, t3, t4, t5⟩, er.1.trans h2, es.1.trans h3, es.2.trans h4, ?_⟩
  have rj : r ≠ j := by intro e; subst e; exact h7 h2
  intro a ha
  rw [e1, e2]
  have mr : σ1 15 (4096 * r + a) = σ 15 (4096 * r + a) := F_h (f := 15) hR.1 rj (by decide) (by decide) (by show a < 4096; omega)
  by_cases sj : s = j
  · subst sj
    intro h0
    have h63 : σ 63 (a / 256) = 0 := by
      rcases hR.1 63 (a / 256) with e | e | e | e
      · rw [← e]; exact h0
      · omega
      · have := e.2.1; omega
      · rw [e.2.2] at h0; exact absurd h0 (by decide)
    rcases hR.2.1 t2.symm a (by omega) with e | e
    · rw [mr, e]; exact h5 a ha h63
    · rw [e] at h0; exact absurd h0 (by decide)
  · have ms : σ1 15 (4096 * s + a) = σ 15 (4096 * s + a) := F_h (f := 15) hR.1 sj (by decide) (by decide) (by show a < 4096; omega)
    rw [mr, ms, F_63 hR.1 (by rw [t2]; intro e; exact sj (nIv_inj e (by omega) (by omega)).symm)]
    exact h5 a ha
theorem cmL_cons {σ : (Nat → Nat → Int32)} {b : Nat} (h : cl (σ 58 b) < cl (σ 59 b)) : cmL σ b = m_tkE σ b :: (List.range (cl (σ 59 b) - (cl (σ 58 b) + 1))).map (fun i => cl (σ 57 (4200 * b + (cl (σ 58 b) + 1 + i)))) := by
  unfold cmL
  have : cl (σ 59 b) - cl (σ 58 b) = (cl (σ 59 b) - (cl (σ 58 b) + 1)) + 1 := by omega
  rw [this, List.range_succ_eq_map, List.map_cons, List.map_map]
  congr 1
  apply List.map_congr_left
  intro i _
  show cl (σ 57 (4200 * b + (cl (σ 58 b) + (i + 1)))) = _
  congr 2; omega
