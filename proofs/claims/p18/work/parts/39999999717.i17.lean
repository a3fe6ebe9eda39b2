theorem GI_st2 {n pg rm E E' c d j : Nat} {σ ς : (Nat → Nat → Int32)} (H : GI n pg rm E c σ) (hj : j < 4) (h7 : σ 7 j = 1 ∨ σ 7 j = 2 ∨ σ 7 j = 3) (e : ∀ f i, f ≤ 5 → ς f i = σ f i) (hp : PartOK ς) (h44 : nb (ς 44 0) E') (h50 : nb (ς 50 0) (64 * d)) (h72 : nb (ς 72 0) 4096) (h74 : ς 74 0 = 0) : GI n pg rm E' d ς := by
  obtain ⟨g1, g2, g3, g4, g5, g6, g7⟩ := H
  refine ⟨?_, h44, h50, h72, h74, hp, ?_⟩
  · unfold RB; rw [e 0 0 (by omega), e 1 0 (by omega), e 2 0 (by omega), e 3 0 (by omega), e 4 0 (by omega)]; exact g1
  · intro h
    rw [e 5 0 (by omega)] at h
    have := ((g7 h).2 j hj).1
    rcases h7 with a | a | a <;> rw [a] at this <;> exact absurd this (by decide)
theorem tk_INV {n pg rm c M E j : Nat} {l : Nat → Nat} {σ : (Nat → Nat → Int32)} {τ : (Nat → Nat → Int64)} (H : INV n pg rm c M E (c + 1) l σ τ) (oj : OJ c j σ) (hj : j < 4) (h7 : σ 7 j = 2 ∨ σ 7 j = 3) (hr : cl (σ 58 j) < cl (σ 59 j)) (ht : τ 49 (m_tkE σ j) = τ 19 j) (hM : M < 2147480000) (hc : c ≤ 4000) : INV n pg rm c M E (c + 1) l (m_take1 σ j) τ ∧ OJ c j (m_take1 σ j) ∧ EvOK σ j (m_tkE σ j) := by
  obtain ⟨g, hs, ho, hri⟩ := H
  have hrm : rm ≤ 32 := g.1.2.2.2.2.2.2.2.2.2.2
  obtain ⟨a1, a2, a3, a4, a5, a6, a0⟩ := hs j hj
  obtain ⟨e11, b1, b2, b3, b4, b5, X, W, kb, b6, b7, b8, b9⟩ := a4 h7
  have h7n : ¬ σ 7 j = 1 := by rcases h7 with e | e <;> (rw [e]; decide)
  rw [cmL_cons hr] at b8
  obtain ⟨k1, k2⟩ := ch_take b8 a1.2.2.1 (by omega) (by rw [ht]; exact a1.2.1)
  obtain ⟨t1, t2, t3, t4, t5⟩ := tk_HI a1 hM (by omega) k1
  have ne3 : ∀ f, f < 15 ∨ (43 < f ∧ f ≠ 58 ∧ f ≠ 63) → m_tk3 σ j f = σ f := fun f hf => m_tk3_ne (by omega) (by omega) (by omega) (by omega) (by omega) (by omega) (by omega) (by omega) (by omega) (by omega) (by omega) (by omega) (by omega) (by omega) (by omega) (by omega)
  have e15 : m_tk3 σ j 15 = m_tk2 σ j 15 := m_drs_ne (by decide) (by decide) (by decide) (by decide) (by decide) (by decide) _ _
  have e63 : m_tk3 σ j 63 = m_tk2 σ j 63 := m_drs_ne (by decide) (by decide) (by decide) (by decide) (by decide) (by decide) _ _
  have c58 : cl (m_tk3 σ j 58 j) = cl (σ 58 j) + 1 := by rw [m_tk3_58, nIv_inc, cl_nI (by have := b2.2; omega)]
  have ag : AgE σ (m_tk3 σ j) τ τ := AgE_ne (fun f x y => ne3 f (by omega)) rfl
  have oi3 : OI (c + 1) l (m_tk3 σ j) := by
    refine OI_st ho (Nat.le_refl _) (fun f x y => ne3 f (by omega)) (fun h _ => by rw [ne3 10 (by omega)]) ?_
    intro h hh x1 x2
    have e : h ≠ j := by intro e; subst e; exact h7n x1
    have sh := t5 h e
    rw [sh.f1 7 rfl, sh.f1 27 rfl, sh.f1 28 rfl, sh.f1 37 rfl, sh.f1 38 rfl]
    exact ⟨x1, x2, rfl, id⟩
  have oj3 : OJ c j (m_tk3 σ j) := OJ_st oj (fun f x y => ne3 f (by omega)) (by rw [ne3 10 (by omega)])
  have ri5 : RcI n (256 * pg) (u2 σ 58 j (nI (cl (σ 58 j)) + 1)) := by
    unfold RcI TrAt at *
    rw [u2_ne (by decide), u2_ne (by decide), u2_ne (by decide), u2_ne (by decide), u2_ne (by decide), u2_ne (by decide)]; exact hri
  have ri3 : RcI n (256 * pg) (m_tk3 σ j) := by
    refine RI_st ri5 g.1.2.2.2.2.2.2.1 hj a1.1.2.2.1 (by rw [u2_ne (by decide)]; rcases h7 with e | e <;> (rw [e]; decide)) t4 e15 e63 (fun f hf => by rw [u2_ne (by omega)]; exact ne3 f (by omega)) (fun h _ _ => by rw [u2_ne (by decide), u2_ne (by decide), ne3 7 (by omega), ne3 11 (by omega)]; exact ⟨rfl, rfl⟩)
  have cb3 : CB c (m_tk3 σ j) j := by
    unfold CB
    rw [c58, ne3 59 (by omega), ne3 57 (by omega), m_tk3_58, nIv_inc]
    exact ⟨nb_n (by have := b2.2; omega) (by omega), b2, by omega, fun i x y => b4 i (by omega) y⟩
  refine ⟨?_, ?_, mxEv k1.2.2.1⟩
  all_goals unfold m_take1
  all_goals by_cases e3 : σ 7 j = 3 ∧ cl (σ 58 j) + 1 = cl (σ 59 j)
  · -- goes live
    rw [if_pos e3]
    obtain ⟨r1, r2, r3, r4, r5, r6, r7, r8, r9, r10, r11⟩ := go_sp hM hj hc t1 (by rw [ne3 7 (by omega)]; exact h7n) (by rw [ne3 10 (by omega)]; exact a5) oi3 oj3 (by rw [ne3 72 (by omega)]; exact g.2.2.2.1)
    generalize hX : m_goLive (m_tk3 σ j) j (cl (m_tk3 σ j 38 j)) = Y at *
    have s : ∀ h, h < 4 → h ≠ j → Sm h σ Y τ τ := fun h _ e => (t5 h e).tr (r6 h e)
    have agY : AgE σ Y τ τ := AgE_ne (fun f x y => (r7 f (by omega)).trans (ne3 f (by omega))) rfl
    refine INV_host ⟨g, hs, ho, hri⟩ hj s agY (by rw [r7 4 (by omega), ne3 4 (by omega)]) r1.1.2.2.2.2.2.2.2.2 (fun _ _ => rfl) (Nat.le_refl _) (by omega) (Nat.le_refl _) (by omega) ?_ ?_ ?_ r3 ?_
    · refine ⟨r1, fun h => absurd r9 h, fun _ _ => r2, ?_, ?_, CB_nf cb3 (fun f x y => r7 f (by omega)), fun _ => r9⟩
      · rw [r8]; intro h; exact absurd h (by decide)
      · rw [r7 10 (by omega), ne3 10 (by omega)]; exact a5
    · intro b _ _ _ li; exact absurd r9 li.2.1
    · refine GI_st2 g hj (.inr h7) (fun f i hf => by rw [r7 f (by omega), ne3 f (by omega)]) ?_ ?_ ?_ r5 ?_
      · intro b hb
        by_cases e : b = j
        · subst e; exact .inl r11
        · rw [(s b hb e).f1 8 rfl]; exact g.2.2.2.2.2.1 b hb
      · rw [r7 44 (by omega), ne3 44 (by omega)]; exact g.2.1
      · rw [r7 50 (by omega), ne3 50 (by omega)]; exact g.2.2.1
      · rw [r7 74 (by omega), ne3 74 (by omega)]; exact g.2.2.2.2.1
    · rcases ri3 with h | ⟨r, s', ⟨y1, y2, y3, y4, y5⟩, h2, h3, h4, h5⟩
      · left; rw [r7 60 (by omega), r7 61 (by omega)]; exact h
      · right
        have hn := g.1.2.2.2.2.2.2.1
        have rj : r ≠ j := by intro e; subst e; rw [ne3 7 (by omega), e3.1] at h2; exact absurd h2 (by decide)
        have sj : s' ≠ j := by intro e; subst e; rw [ne3 7 (by omega), e3.1] at h3; exact absurd h3 (by decide)
        refine ⟨r, s', ⟨by rw [r7 60 (by omega)]; exact y1, by rw [r7 61 (by omega)]; exact y2, y3, y4, y5⟩, by rw [(r6 r rj).f1 7 rfl]; exact h2, by rw [(r6 s' sj).f1 7 rfl]; exact h3, by rw [(r6 s' sj).f1 11 rfl]; exact h4, ?_⟩
        rw [r7 15 (by omega), r7 63 (by omega)]; exact h5
  · rw [if_neg e3]
    refine INV_host ⟨g, hs, ho, hri⟩ hj (fun h _ e => t5 h e) ag (by rw [ne3 4 (by omega)]) t1.1.2.2.2.2.2.2.2.2 (fun _ _ => rfl) (Nat.le_refl _) (by omega) (Nat.le_refl _) (by omega) ?_ ?_ ?_ oi3 ri3
    · refine ⟨t1, ?_, ?_, ?_, ?_, cb3, fun _ => by rw [ne3 11 (by omega)]; exact e11⟩
      · rw [ne3 11 (by omega)]; exact fun h => absurd e11 h
      · rw [ne3 7 (by omega)]; exact fun h => absurd h h7n
      · rw [ne3 7 (by omega), ne3 11 (by omega)]
        intro _
        refine ⟨e11, ?_⟩
        have ecm : cmL (m_tk3 σ j) j = (List.range (cl (σ 59 j) - (cl (σ 58 j) + 1))).map (fun i => cl (σ 57 (4200 * j + (cl (σ 58 j) + 1 + i)))) := by
          unfold cmL
          rw [c58, ne3 59 (by omega), ne3 57 (by omega)]
        unfold BI
        rw [c58, ne3 59 (by omega), ne3 7 (by omega), ne3 57 (by omega), ecm, t2]
        refine ⟨?_, b2, by omega, fun i x y => b4 i (by omega) y, ?_, X, W, 1, Nat.le_refl _, by omega, ?_, ?_⟩
        · rw [m_tk3_58, nIv_inc]; exact nb_n (by have := b2.2; omega) (by omega)
        · intro h; have : ¬ cl (σ 58 j) + 1 = cl (σ 59 j) := fun h' => e3 ⟨h, h'⟩
          omega
        · refine ch_ag ag (by omega) ?_ k2
          exact (ge_ok (HI_vok a1) k1.2.2.1).1
        · intro i hi li
          have ij : i ≠ j := by
            intro e; subst e
            have := li.2.1; rw [ne3 11 (by omega)] at this; exact this e11
          have li' : isLO σ j i := isLO_sm (fun f hf => by rw [ne3 f (by omega)]) (fun f x y => by rw [ne3 f (by omega)]) li
          obtain ⟨z1, z2⟩ := b9 i hi li'
          have si := t5 i ij
          have ci := (hs i hi).2.1 li'.2.1
          rw [chL_sm si (by have := ci.1.2; have := ci.2.1.2; omega), hv_sm si rfl]
          exact ⟨z1, z2⟩
      · rw [ne3 10 (by omega)]; exact a5
    · intro b _ _ _ li
      have := li.2.1
      rw [ne3 11 (by omega)] at this
      exact absurd e11 this
    · refine GI_st g hj (.inr h7) (fun f i hf => by rw [ne3 f (by omega)]) ?_ ?_ ?_ ?_
      · rw [ne3 44 (by omega)]; exact g.2.1
      · rw [ne3 50 (by omega)]; exact g.2.2.1
      · rw [ne3 72 (by omega)]; exact g.2.2.2.1
      · rw [ne3 74 (by omega)]; exact g.2.2.2.2.1
  · rw [if_pos e3]
    exact (go_sp hM hj hc t1 (by rw [ne3 7 (by omega)]; exact h7n) (by rw [ne3 10 (by omega)]; exact a5) oi3 oj3 (by rw [ne3 72 (by omega)]; exact g.2.2.2.1)).2.2.2.1
  · rw [if_neg e3]; exact oj3
