theorem m_prl_in {σ : (Nat → Nat → Int32)} : ∀ n i, i < n → m_prl σ n 63 i = 1
  | 0, i, h => absurd h (by omega)
  | n + 1, i, h => by
    unfold m_prl
    by_cases e : i = n
    · subst e; rw [u2_ss]
    · rw [u2_sn e]; exact m_prl_in n i (by omega)
theorem CV_prot {n pg rm c j v : Nat} {σ : (Nat → Nat → Int32)} {τ : (Nat → Nat → Int64)} (hc : c ≤ 511) (H : CV n pg rm c σ τ) (hjn : j < n) (hn : n ≤ 4) (hA : PrAt σ n j v) : CV n pg rm (c + 1) (m_prot σ j v pg) τ := by
  obtain ⟨l, H⟩ := H
  have H0 := H
  have hj : j < 4 := by omega
  obtain ⟨g, hs, ho, hri⟩ := H
  obtain ⟨a1, a2, a3, a4, a5, a6, a0⟩ := hs j hj
  obtain ⟨h7, h60, _, hvn, h7v, _, h11v⟩ := hA
  have vj : v ≠ j := by intro e; subst e; rw [h7] at h7v; exact absurd h7v (by decide)
  have hb := booted g (by omega) (.inl h7v)
  unfold m_prot
  generalize hZ : m_prl (u2 (u2 (u2 (u2 σ 7 j 4) 60 0 (nI j)) 61 0 (nI v)) 62 0 0) pg = Z
  have e : ∀ f, f ≠ 7 → f ≠ 60 → f ≠ 61 → f ≠ 62 → f ≠ 63 → Z f = σ f := fun f q1 q2 q3 q4 q5 => by rw [← hZ, m_prl_ne q5, u2_ne q4, u2_ne q3, u2_ne q2, u2_ne q1]
  have e' : ∀ f, f < 7 ∨ (7 < f ∧ f < 60) ∨ 63 < f → Z f = σ f := fun f hf => e f (by omega) (by omega) (by omega) (by omega) (by omega)
  have z7 : Z 7 j = 4 := by rw [← hZ, m_prl_ne (by decide), u2_ne (by decide), u2_ne (by decide), u2_ne (by decide), u2_ss]
  have z60 : Z 60 0 = nI j := by rw [← hZ, m_prl_ne (by decide), u2_ne (by decide), u2_ne (by decide), u2_ss]
  have z61 : Z 61 0 = nI v := by rw [← hZ, m_prl_ne (by decide), u2_ne (by decide), u2_ss]
  have sZ : ∀ h, h ≠ j → Sm h σ Z τ τ := by
    intro h hh
    refine ⟨?_, rfl⟩
    intro f i hf hi
    unfold h_f at hf
    have hf := of_decide_eq_true hf
    by_cases q : f = 7
    · subst q
      have hi : i < 1 := hi
      rw [show h_s 7 = 1 from rfl, ← hZ, m_prl_ne (by decide), u2_ne (by decide), u2_ne (by decide), u2_ne (by decide), u2_sn (by omega)]
    · rw [e' f (by omega)]
  refine ⟨l, INV_host H0 hj (fun h _ hh => sZ h hh) (AgE_ne (fun f x y => e' f (by omega)) rfl) (by rw [e' 4 (by omega)]) ?_ (fun _ _ => rfl) (by omega) (by omega) (by omega) (by omega) ?_ ?_ ?_ ?_ ?_⟩
  · intro f i hf; rw [e' f (by omega)]; exact INV_by H0 f i hf
  · have nh : HI (256 * pg) (2000 * c) l Z τ j := HI_nf a1 (fun f hf => e' f (by omega)) rfl
    have e11 : σ 11 j = 0 := a0 (.inl h7)
    refine ⟨⟨nh.1, nh.2.1, by have := nh.2.2.1; omega, nh.2.2.2⟩, ?_, ?_, ?_, ?_, ?_, ?_⟩
    · rw [e' 11 (by omega)]; exact fun h => absurd e11 h
    · rw [z7]; intro h; exact absurd h (by decide)
    · rw [z7]; intro h; exact absurd h (by decide)
    · rw [e' 10 (by omega)]; exact nb_mono a5 (by omega)
    · have : CB c Z j := CB_nf a6 (fun f x y => e' f (by omega))
      exact ⟨nb_mono this.1 (by omega), nb_mono this.2.1 (by omega), this.2.2⟩
    · rw [e' 11 (by omega)]; exact fun _ => e11
  · intro b _ _ _ li
    have := li.2.1
    rw [e' 11 (by omega)] at this
    exact absurd (a0 (.inl h7)) this
  · refine GI_st2 g (by omega : v < 4) (.inl h7v) (fun f i hf => by rw [e' f (by omega)]) ?_ ?_ ?_ ?_ ?_
    · unfold PartOK; rw [e' 8 (by omega)]; exact g.2.2.2.2.2.1
    · rw [e' 44 (by omega)]; exact nb_mono g.2.1 (by omega)
    · rw [e' 50 (by omega)]; exact nb_mono g.2.2.1 (by omega)
    · rw [e' 72 (by omega)]; exact g.2.2.2.1
    · rw [e' 74 (by omega)]; exact g.2.2.2.2.1
  · refine OI_st ho (by omega) (fun f x y => e' f (by omega)) (fun h _ => by rw [e' 10 (by omega)]) ?_
    intro h _ x1 x2
    have hh : h ≠ j := by intro e; subst e; rw [h7] at x1; exact absurd x1 (by decide)
    rw [(sZ h hh).f1 7 rfl, e' 27 (by omega), e' 28 (by omega), e' 37 (by omega), e' 38 (by omega)]
    exact ⟨x1, x2, rfl, id⟩
  · right
    refine ⟨j, v, ⟨z60, z61, hjn, hvn, vj⟩, z7, by rw [(sZ v vj).f1 7 rfl]; exact h7v, by rw [e' 11 (by omega)]; exact h11v, ?_⟩
    intro a ha h0
    rw [← hZ, m_prl_in pg (a / 256) (by omega)] at h0
    exact absurd h0 (by decide)
theorem INV_cr {n pg rm c M E q r : Nat} {l : Nat → Nat} {σ ς : (Nat → Nat → Int32)} {τ : (Nat → Nat → Int64)} (H : INV n pg rm c M E q l σ τ) (hr4 : r < 4) (h7 : σ 7 r = 4 ∨ ς 7 r = σ 7 r) (z7 : ς 7 r = σ 7 r ∨ ς 7 r = 0) (e : ∀ f, f ≠ 7 → f ≠ 60 → f ≠ 61 → ς f = σ f) (en : ∀ h, h ≠ r → ς 7 h = σ 7 h) (e60 : ς 60 0 = -1 ∧ ς 61 0 = -1) (hM : M < 2147470000) (hc : c ≤ 600) : INV n pg rm c M E q l ς τ := by
  have H0 := H
  obtain ⟨g, hs, ho, _⟩ := H
  obtain ⟨a1, a2, a3, a4, a5, a6, a0⟩ := hs r hr4
  have e' : ∀ f, f < 7 ∨ (7 < f ∧ f < 60) ∨ 61 < f → ς f = σ f := fun f hf => e f (by omega) (by omega) (by omega)
  have sZ : ∀ h, h ≠ r → Sm h σ ς τ τ := by
    intro h hh
    refine ⟨?_, rfl⟩
    intro f i hf hi
    unfold h_f at hf
    have hf := of_decide_eq_true hf
    by_cases q : f = 7
    · subst q
      have hi : i < 1 := hi
      rw [show h_s 7 = 1 from rfl, en _ (by omega)]
    · rw [e' f (by omega)]
  rcases z7 with z7 | z7
  · -- the state is the same one
    have sA : ∀ h, h < 4 → Sm h σ ς τ τ := by
      intro h _
      by_cases hh : h = r
      · subst hh
        refine ⟨?_, rfl⟩
        intro f i hf hi
        unfold h_f at hf
        have hf := of_decide_eq_true hf
        by_cases q : f = 7
        · subst q
          have hi : i < 1 := hi
          have : i = 0 := by omega
          subst this
          rw [show h_s 7 = 1 from rfl, Nat.one_mul, Nat.add_zero]; exact z7
        · rw [e' f (by omega)]
      · exact sZ h hh
    have e7 : ς 7 = σ 7 := by
      funext h
      by_cases hh : h = r
      · subst hh; exact z7
      · exact en h hh
    refine INV_all H0 sA (AgE_ne (fun f x y => e' f (by omega)) rfl) (by rw [e' 4 (by omega)]) ?_ (Nat.le_refl _) (by omega) (Nat.le_refl _) (by omega) ?_ ?_ (.inl e60)
    · intro f i hf; rw [e' f (by omega)]; exact INV_by H0 f i hf
    · obtain ⟨g1, g2, g3, g4, g5, g6, g7⟩ := g
      refine ⟨?_, by rw [e' 44 (by omega)]; exact g2, by rw [e' 50 (by omega)]; exact g3, by rw [e' 72 (by omega)]; exact g4, by rw [e' 74 (by omega)]; exact g5, by unfold PartOK; rw [e' 8 (by omega)]; exact g6, ?_⟩
      · unfold RB; rw [e' 0 (by omega), e' 1 (by omega), e' 2 (by omega), e' 3 (by omega), e' 4 (by omega)]; exact g1
      · rw [e' 5 (by omega), e7, e' 11 (by omega), e' 38 (by omega)]; exact fun h => ⟨e60.1, (g7 h).2⟩
    · refine OI_st ho (Nat.le_refl _) (fun f x y => e' f (by omega)) (fun h _ => by rw [e' 10 (by omega)]) (fun h _ x y => by rw [e7, e' 27 (by omega), e' 28 (by omega), e' 37 (by omega), e' 38 (by omega)]; exact ⟨x, y, rfl, id⟩)
  · refine INV_host H0 hr4 (fun h _ hh => sZ h hh) (AgE_ne (fun f x y => e' f (by omega)) rfl) (by rw [e' 4 (by omega)]) ?_ (fun _ _ => rfl) (Nat.le_refl _) (by omega) (Nat.le_refl _) (by omega) ?_ ?_ ?_ ?_ (.inl e60)
    · intro f i hf; rw [e' f (by omega)]; exact INV_by H0 f i hf
    · refine ⟨HI_nf a1 (fun f hf => e' f (by omega)) rfl, ?_, ?_, ?_, ?_, CB_nf a6 (fun f x y => e' f (by omega)), ?_⟩
      · rw [e' 11 (by omega)]
        intro h
        have : σ 11 r = 0 := by
          rcases h7 with q | q
          · exact a0 (.inr q)
          · rw [q] at z7; exact a0 (.inl z7)
        exact absurd this h
      · rw [z7]; intro h; exact absurd h (by decide)
      · rw [z7]; intro h; exact absurd h (by decide)
      · rw [e' 10 (by omega)]; exact a5
      · rw [e' 11 (by omega)]
        intro _
        rcases h7 with q | q
        · exact a0 (.inr q)
        · rw [q] at z7; exact a0 (.inl z7)
    · intro b _ _ _ li
      have := li.2.1
      rw [e' 11 (by omega)] at this
      rcases h7 with q | q
      · exact absurd (a0 (.inr q)) this
      · rw [q] at z7; exact absurd (a0 (.inl z7)) this
    · obtain ⟨g1, g2, g3, g4, g5, g6, g7⟩ := g
      refine ⟨?_, by rw [e' 44 (by omega)]; exact g2, by rw [e' 50 (by omega)]; exact g3, by rw [e' 72 (by omega)]; exact g4, by rw [e' 74 (by omega)]; exact g5, by unfold PartOK; rw [e' 8 (by omega)]; exact g6, ?_⟩
      · unfold RB; rw [e' 0 (by omega), e' 1 (by omega), e' 2 (by omega), e' 3 (by omega), e' 4 (by omega)]; exact g1
      · rw [e' 5 (by omega), e' 11 (by omega), e' 38 (by omega)]
        intro h
        refine ⟨e60.1, fun h' hh' => ?_⟩
        by_cases q : h' = r
        · subst q; rw [z7]; exact ⟨.inl rfl, ((g7 h).2 h' hh').2⟩
        · rw [en h' q]; exact (g7 h).2 h' hh'
    · refine OI_st ho (Nat.le_refl _) (fun f x y => e' f (by omega)) (fun h _ => by rw [e' 10 (by omega)]) ?_
      intro h _ x y
      have hh : h ≠ r := by
        intro q; subst q
        rcases h7 with q | q
        · rw [q] at x; exact absurd x (by decide)
        · rw [q] at z7; rw [z7] at x; exact absurd x (by decide)
      rw [en h hh, e' 27 (by omega), e' 28 (by omega), e' 37 (by omega), e' 38 (by omega)]; exact ⟨x, y, rfl, id⟩
theorem CV_cr {n pg rm c j : Nat} {l : Nat → Nat} {σ : (Nat → Nat → Int32)} {τ : (Nat → Nat → Int64)} (hc : c ≤ 511) (H : INV n pg rm c (2000 * c) (33 * c) c l σ τ) (hj : j < 4) (hr : σ 60 0 = -1 ∨ ∀ r s, TrAt σ n r s → j ≠ r ∧ j ≠ s) : CV n pg rm (c + 1) (m_cr1 σ j) τ := by
  refine ⟨l, INV_mono (INV_stop H hj (.inr rfl) (fun _ => rfl) (by omega) (by omega) ?_) (by omega) (by omega) (Nat.le_refl _) (by omega) (by omega) (by omega)⟩
  rcases H.2.2.2 with h | ⟨r, s, t, x1, x2, x3, x4⟩
  · left; rw [u2_ne (by decide), u2_ne (by decide), u2_ne (by decide), u2_ne (by decide)]; exact h
  · right
    have hn := H.1.1.2.2.2.2.2.2.1
    have : j ≠ r ∧ j ≠ s := by
      rcases hr with q | q
      · exfalso; rw [t.1] at q; exact nI_nm1 (n := r) (by have := t.2.2.1; omega) q
      · exact q r s t
    refine ⟨r, s, ⟨by rw [u2_ne (by decide), u2_ne (by decide)]; exact t.1, by rw [u2_ne (by decide), u2_ne (by decide)]; exact t.2.1, t.2.2⟩, ?_, ?_, ?_, ?_⟩
    · rw [u2_ne (by decide), u2_sn (Ne.symm this.1)]; exact x1
    · rw [u2_ne (by decide), u2_sn (Ne.symm this.2)]; exact x2
    · rw [u2_ne (by decide), u2_ne (by decide)]; exact x3
    · rw [u2_ne (by decide), u2_ne (by decide), u2_ne (by decide), u2_ne (by decide)]; exact x4
theorem CV_crash1 {n pg rm c j : Nat} {σ : (Nat → Nat → Int32)} {τ : (Nat → Nat → Int64)} (hc : c ≤ 511) (H : CV n pg rm c σ τ) (hj : j < 4) (hr : σ 60 0 = -1 ∨ ∀ r s, TrAt σ n r s → j ≠ r ∧ j ≠ s) : CV n pg rm (c + 1) (m_cr1 σ j) τ := by
  obtain ⟨l, H⟩ := H
  exact CV_cr hc H hj hr
theorem TrAt_R {n pg rm c M E q r s : Nat} {l : Nat → Nat} {σ : (Nat → Nat → Int32)} {τ : (Nat → Nat → Int64)} (H : INV n pg rm c M E q l σ τ) (t : TrAt σ n r s) : σ 7 r = 4 ∧ σ 7 s = 1 ∧ σ 11 s = 0 ∧ ∀ a, a < 256 * pg → σ 63 (a / 256) = 0 → σ 15 (4096 * r + a) = σ 15 (4096 * s + a) := by
  have hn := H.1.1.2.2.2.2.2.2.1
  rcases H.2.2.2 with h | ⟨r', s', t', x⟩
  · exfalso
    have := h.1
    rw [t.1] at this
    exact nI_nm1 (n := r) (by have := t.2.2.1; omega) this
  · have e1 : r = r' := nIv_inj (t.1.symm.trans t'.1) (by have := t.2.2.1; omega) (by have := t'.2.2.1; omega)
    have e2 : s = s' := nIv_inj (t.2.1.symm.trans t'.2.1) (by have := t.2.2.2.1; omega) (by have := t'.2.2.2.1; omega)
    subst e1; subst e2; exact x
theorem CV_crash2 {n pg rm c j r : Nat} {σ : (Nat → Nat → Int32)} {τ : (Nat → Nat → Int64)} (hc : c ≤ 511) (H : CV n pg rm c σ τ) (hj : j < 4) (t : TrAt σ n r j) : CV n pg rm (c + 1) (m_cr1 (m_crS σ r) j) τ := by
  obtain ⟨l, H⟩ := H
  have hn := H.1.1.2.2.2.2.2.2.1
  have x := TrAt_R H t
  have H1 : INV n pg rm c (2000 * c) (33 * c) c l (m_crS σ r) τ := by
    refine INV_cr H (r := r) (by have := t.2.2.1; omega) (.inl x.1) (.inr ?_) ?_ ?_ ?_ (by omega) (by omega)
    · unfold m_crS; rw [u2_ne (by decide), u2_ne (by decide), u2_ss]
    · intro f q1 q2 q3; unfold m_crS; rw [u2_ne q3, u2_ne q2, u2_ne q1]
    · intro h hh; unfold m_crS; rw [u2_ne (by decide), u2_ne (by decide), u2_sn hh]
    · unfold m_crS; rw [u2_ss, u2_ne (by decide), u2_ss]; exact ⟨rfl, rfl⟩
  exact CV_cr hc H1 hj (.inl (by unfold m_crS; rw [u2_ne (by decide), u2_ss]))
theorem CV_crash3 {n pg rm c j s : Nat} {σ : (Nat → Nat → Int32)} {τ : (Nat → Nat → Int64)} (hc : c ≤ 511) (H : CV n pg rm c σ τ) (hj : j < 4) (t : TrAt σ n j s) : CV n pg rm (c + 1) (m_cr1 (m_crR σ) j) τ := by
  obtain ⟨l, H⟩ := H
  have H1 : INV n pg rm c (2000 * c) (33 * c) c l (m_crR σ) τ := by
    refine INV_cr H (r := j) hj (.inr ?_) (.inl ?_) ?_ ?_ ?_ (by omega) (by omega)
    · unfold m_crR; rw [u2_ne (by decide), u2_ne (by decide)]
    · unfold m_crR; rw [u2_ne (by decide), u2_ne (by decide)]
    · intro f q1 q2 q3; unfold m_crR; rw [u2_ne q3, u2_ne q2]
    · intro h hh; unfold m_crR; rw [u2_ne (by decide), u2_ne (by decide)]
    · unfold m_crR; rw [u2_ss, u2_ne (by decide), u2_ss]; exact ⟨rfl, rfl⟩
  exact CV_cr hc H1 hj (.inl (by unfold m_crR; rw [u2_ne (by decide), u2_ss]))
theorem CV_rep {n pg rm c j : Nat} {σ : (Nat → Nat → Int32)} {τ : (Nat → Nat → Int64)} (hc : c ≤ 511) (H : CV n pg rm c σ τ) (hj : j < 4) (h7 : σ 7 j = 6 ∨ σ 7 j = 5) : CV n pg rm (c + 1) (m_rep σ j) τ := by
  obtain ⟨l, H⟩ := H
  have H0 := H
  obtain ⟨g, hs, ho, hri⟩ := H
  obtain ⟨a1, a2, a3, a4, a5, a6, a0⟩ := hs j hj
  unfold m_rep
  generalize hZ : m_noCh (u2 (u2 (u2 (u2 σ 7 j 0) 11 j 0) 12 j 0) 8 j (-1)) j = Z
  have e : ∀ f, f ≠ 7 → f ≠ 8 → f ≠ 11 → f ≠ 12 → f ≠ 53 → f ≠ 55 → f ≠ 56 → Z f = σ f := fun f q1 q2 q3 q4 q5 q6 q7 => by rw [← hZ, noCh_ne q5 q6 q7, u2_ne q2, u2_ne q4, u2_ne q3, u2_ne q1]
  have e' : ∀ f, f < 7 ∨ f = 9 ∨ f = 10 ∨ (12 < f ∧ f < 53) ∨ 56 < f → Z f = σ f := fun f hf => e f (by omega) (by omega) (by omega) (by omega) (by omega) (by omega) (by omega)
  have z7 : Z 7 j = 0 := by rw [← hZ, noCh_ne (by decide) (by decide) (by decide), u2_ne (by decide), u2_ne (by decide), u2_ne (by decide), u2_ss]
  have z11 : Z 11 j = 0 := by rw [← hZ, noCh_ne (by decide) (by decide) (by decide), u2_ne (by decide), u2_ne (by decide), u2_ss]
  have z8 : Z 8 j = -1 := by rw [← hZ, noCh_ne (by decide) (by decide) (by decide), u2_ss]
  have sZ : ∀ h, h ≠ j → Sm h σ Z τ τ := fun h hh => by
    rw [← hZ]; exact ((((sm_u1 hh rfl).tr (sm_u1 hh rfl)).tr (sm_u1 hh rfl)).tr (sm_u1 hh rfl)).tr (noCh_sm hh)
  refine ⟨l, INV_host H0 hj (fun h _ hh => sZ h hh) (AgE_ne (fun f x y => e' f (by omega)) rfl) (by rw [e' 4 (by omega)]) ?_ (fun _ _ => rfl) (by omega) (by omega) (by omega) (by omega) ?_ ?_ ?_ ?_ ?_⟩
  · intro f i hf; rw [e' f (by omega)]; exact INV_by H0 f i hf
  · have nh : HI (256 * pg) (2000 * c) l Z τ j := HI_nf a1 (fun f hf => e' f (by omega)) rfl
    refine ⟨⟨nh.1, nh.2.1, by have := nh.2.2.1; omega, nh.2.2.2⟩, fun h => absurd z11 h, ?_, ?_, ?_, ?_, fun _ => z11⟩
    · rw [z7]; intro h; exact absurd h (by decide)
    · rw [z7]; intro h; exact absurd h (by decide)
    · rw [e' 10 (by omega)]; exact nb_mono a5 (by omega)
    · have : CB c Z j := CB_nf a6 (fun f x y => e' f (by omega))
      exact ⟨nb_mono this.1 (by omega), nb_mono this.2.1 (by omega), this.2.2⟩
  · intro b _ _ _ li; exact absurd z11 li.2.1
  · obtain ⟨g1, g2, g3, g4, g5, g6, g7⟩ := g
    refine ⟨?_, by rw [e' 44 (by omega)]; exact nb_mono g2 (by omega), by rw [e' 50 (by omega)]; exact nb_mono g3 (by omega), by rw [e' 72 (by omega)]; exact g4, by rw [e' 74 (by omega)]; exact g5, ?_, ?_⟩
    · unfold RB; rw [e' 0 (by omega), e' 1 (by omega), e' 2 (by omega), e' 3 (by omega), e' 4 (by omega)]; exact g1
    · intro b hb
      by_cases q : b = j
      · subst q; exact .inl z8
      · rw [(sZ b q).f1 8 rfl]; exact g6 b hb
    · rw [e' 5 (by omega), e' 60 (by omega), e' 38 (by omega)]
      intro h
      refine ⟨(g7 h).1, fun h' hh' => ?_⟩
      by_cases q : h' = j
      · subst q; rw [z7, z11]; exact ⟨.inl rfl, rfl, ((g7 h).2 h' hh').2.2⟩
      · rw [(sZ h' q).f1 7 rfl, (sZ h' q).f1 11 rfl]; exact (g7 h).2 h' hh'
  · refine OI_st ho (by omega) (fun f x y => e' f (by omega)) (fun h _ => by rw [e' 10 (by omega)]) ?_
    intro h _ x y
    have hh : h ≠ j := by intro q; subst q; rcases h7 with q | q <;> (rw [q] at x; exact absurd x (by decide))
    rw [(sZ h hh).f1 7 rfl, e' 27 (by omega), e' 28 (by omega), e' 37 (by omega), e' 38 (by omega)]; exact ⟨x, y, rfl, id⟩
  · refine RI_sep hri (j := j) (by rcases h7 with q | q <;> (rw [q]; decide)) (fun h => by rcases h7 with q | q <;> (rw [q] at h; exact absurd h.1 (by decide))) (fun f hf => e' f (by omega)) (fun h hh => by rw [(sZ h hh).f1 7 rfl, (sZ h hh).f1 11 rfl]; exact ⟨rfl, rfl⟩)
