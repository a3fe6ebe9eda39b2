theorem INV_sp1 {n pg rm c M E q j v : Nat} {l : Nat → Nat} {σ : (Nat → Nat → Int32)} {τ : (Nat → Nat → Int64)} (H : INV n pg rm c M E q l σ τ) (hv4 : v < 4) (lo : isLO σ j v) (hM : M < 2147470000) (hc : c ≤ 600) : INV n pg rm c M E q l (m_sp1 σ j v) τ := by
  have H0 := H
  obtain ⟨g, hs, ho, hri⟩ := H
  have hrm : rm ≤ 32 := g.1.2.2.2.2.2.2.2.2.2.2
  obtain ⟨a1, a2, a3, a4, a5, a6, a0⟩ := hs v hv4
  obtain ⟨l1', h11, h12, l4, l5⟩ := lo
  obtain ⟨c1, c2, c3, c4, c5, c6, c7⟩ := a2 h11
  have hk : cl (σ 38 v) ≤ 32 := by rw [← (c6 h12).2]; have := cnt_le (σ := σ) (h := v) (cl (σ 55 v)); have := c2.2; omega
  unfold m_sp1
  generalize hZ : u2 (m_noCh (u2 σ 14 0 (σ 9 j)) v) 12 v 1 = Z
  have e : ∀ f, f ≠ 12 → f ≠ 14 → f ≠ 53 → f ≠ 55 → f ≠ 56 → Z f = σ f := fun f q1 q2 q3 q4 q5 => by rw [← hZ, u2_ne q1, noCh_ne q3 q4 q5, u2_ne q2]
  have e' : ∀ f, f < 12 ∨ (14 < f ∧ f < 53) ∨ 56 < f → Z f = σ f := fun f hf => e f (by omega) (by omega) (by omega) (by omega) (by omega)
  have z12 : Z 12 v = 1 := by rw [← hZ, u2_ss]
  have zc : ∀ f, f = 53 ∨ f = 55 ∨ f = 56 → Z f v = 0 := fun f hf => by rw [← hZ, u2_ne (by omega), noCh_s hf]
  have s14 : ∀ h, Sm h σ (u2 σ 14 0 (σ 9 j)) τ τ := fun h => sm_ne (fun f hf => u2_ne (by intro e; subst e; cases hf)) rfl
  have sZ : ∀ h, h ≠ v → Sm h σ Z τ τ := fun h hh => by
    rw [← hZ]; exact ((s14 h).tr (noCh_sm hh)).tr (sm_u1 hh rfl)
  have nl : ¬ Z 12 v = 0 := by rw [z12]; decide
  refine INV_host H0 hv4 (fun h _ hh => sZ h hh) (AgE_ne (fun f x y => e' f (by omega)) rfl) (by rw [e' 4 (by omega)]) ?_ (fun _ _ => rfl) (Nat.le_refl _) (by omega) (Nat.le_refl _) (by omega) ?_ ?_ ?_ (OI_nf ho (fun f hf => e' f (by omega))) (RI_nf hri (fun f hf => e' f (by omega)))
  · intro f i hf; rw [e' f (by omega)]; exact INV_by H0 f i hf
  · refine ⟨HI_nf a1 (fun f hf => e' f (by omega)) rfl, ?_, ?_, ?_, ?_, CB_nf a6 (fun f x y => e' f (by omega)), ?_⟩
    · intro _
      unfold CI
      rw [zc 53 (by omega), zc 55 (by omega), zc 56 (by omega), e' 38 (by omega)]
      refine ⟨nb_0, nb_0, nb_0, fun i hi => absurd hi (by show ¬ i < 0; omega), fun i hi => absurd hi (by show ¬ i < 0; omega), fun h => absurd h nl, fun _ => ⟨rfl, by omega⟩⟩
    · rw [e' 11 (by omega)]; exact fun _ h => absurd h h11
    · rw [e' 7 (by omega)]; exact fun h => absurd (a4 h).1 h11
    · rw [e' 10 (by omega)]; exact a5
    · rw [e' 7 (by omega), e' 11 (by omega)]; exact a0
  · intro b _ _ _ li; exact absurd li.2.2.1 nl
  · obtain ⟨g1, g2, g3, g4, g5, g6, g7⟩ := g
    refine ⟨?_, by rw [e' 44 (by omega)]; exact g2, by rw [e' 50 (by omega)]; exact g3, by rw [e' 72 (by omega)]; exact g4, by rw [e' 74 (by omega)]; exact g5, by unfold PartOK; rw [e' 8 (by omega)]; exact g6, by rw [e' 5 (by omega), e' 60 (by omega), e' 7 (by omega), e' 11 (by omega), e' 38 (by omega)]; exact g7⟩
    unfold RB; rw [e' 0 (by omega), e' 1 (by omega), e' 2 (by omega), e' 3 (by omega), e' 4 (by omega)]; exact g1
theorem INV_14 {n pg rm c M E q : Nat} {l : Nat → Nat} {σ : (Nat → Nat → Int32)} {τ : (Nat → Nat → Int64)} {v : Int32} (H : INV n pg rm c M E q l σ τ) (hM : M < 2147470000) (hc : c ≤ 600) : INV n pg rm c M E q l (u2 σ 14 0 v) τ := by
  have e : ∀ f, f ≠ 14 → u2 σ 14 0 v f = σ f := fun f hf => u2_ne hf
  refine INV_all H (fun h _ => sm_ne (fun f hf => e f (by intro e; subst e; cases hf)) rfl) (AgE_ne (fun f x y => e f (by omega)) rfl) (by rw [e 4 (by decide)]) ?_ (Nat.le_refl _) (by omega) (Nat.le_refl _) (by omega) ?_ (OI_nf H.2.2.1 (fun f hf => e f (by omega))) (RI_nf H.2.2.2 (fun f hf => e f (by omega)))
  · intro f i hf; rw [e f (by omega)]; exact INV_by H f i hf
  · obtain ⟨g1, g2, g3, g4, g5, g6, g7⟩ := H.1
    refine ⟨?_, by rw [e 44 (by omega)]; exact g2, by rw [e 50 (by omega)]; exact g3, by rw [e 72 (by omega)]; exact g4, by rw [e 74 (by omega)]; exact g5, by unfold PartOK; rw [e 8 (by omega)]; exact g6, by rw [e 5 (by omega), e 60 (by omega), e 7 (by omega), e 11 (by omega), e 38 (by omega)]; exact g7⟩
    unfold RB; rw [e 0 (by omega), e 1 (by omega), e 2 (by omega), e 3 (by omega), e 4 (by omega)]; exact g1
theorem spB_CV {n pg rm c j : Nat} {l : Nat → Nat} {σ σ1 : (Nat → Nat → Int32)} {τ : (Nat → Nat → Int64)} (hc : c ≤ 511) (H : INV n pg rm c (2000 * c) (33 * c) c l σ1 τ) (hj : j < 4) (h7 : σ1 7 j = 2) (e58 : σ 58 j = σ1 58 j) (e59 : σ 59 j = σ1 59 j) (e38 : σ 38 j = σ1 38 j) : CV n pg rm (c + 1) (m_spB σ σ1 j) τ := by
  have H0 := H
  obtain ⟨g, hs, ho, hri⟩ := H
  have hrm : rm ≤ 32 := g.1.2.2.2.2.2.2.2.2.2.2
  obtain ⟨a1, a2, a3, a4, a5, a6, a0⟩ := hs j hj
  obtain ⟨e11, b1, b2, b3, b4, b5, X, W, kb, b6, b7, b8, b9⟩ := a4 (.inl h7)
  unfold m_spB
  rw [e58, e59, e38]
  generalize hY : u2 σ1 7 j 3 = Y
  have eY : ∀ f, f ≠ 7 → Y f = σ1 f := fun f hf => by rw [← hY, u2_ne hf]
  have y7 : Y 7 j = 3 := by rw [← hY, u2_ss]
  have sY : ∀ h, h ≠ j → Sm h σ1 Y τ τ := fun h hh => by rw [← hY]; exact sm_u1 hh rfl
  have oY : OI (c + 1) l Y := by
    refine OI_st ho (by omega) (fun f x y => eY f (by omega)) (fun h _ => by rw [eY 10 (by decide)]) ?_
    intro h _ x1 x2
    have hh : h ≠ j := by intro e; subst e; rw [h7] at x1; exact absurd x1 (by decide)
    rw [(sY h hh).f1 7 rfl, eY 27 (by decide), eY 28 (by decide), eY 37 (by decide), eY 38 (by decide)]
    exact ⟨x1, x2, rfl, id⟩
  have riY : RcI n (256 * pg) Y := RI_sep hri (j := j) (by rw [h7]; decide) (fun h => by rw [h7] at h; exact absurd h.1 (by decide)) (fun f hf => eY f (by omega)) (fun h hh => by rw [(sY h hh).f1 7 rfl, (sY h hh).f1 11 rfl]; exact ⟨rfl, rfl⟩)
  have hiY : HI (256 * pg) (2000 * c) l Y τ j := HI_nf a1 (fun f hf => eY f (by omega)) rfl
  by_cases e : σ1 58 j = σ1 59 j
  · rw [if_pos e]
    obtain ⟨r1, r2, r3, r4, r5, r6, r7, r8, r9, r10, r11⟩ := go_sp (c := c) (by omega) hj (by omega) hiY (by rw [y7]; decide) (by rw [eY 10 (by decide)]; exact a5) oY (.inl (by rw [eY 66 (by decide)]; exact ho.2.1.2)) (by rw [eY 72 (by decide)]; exact g.2.2.2.1)
    rw [show cl (σ1 38 j) = cl (Y 38 j) by rw [eY 38 (by decide)]]
    generalize hZ : m_goLive Y j (cl (Y 38 j)) = Z at *
    have eZ : ∀ f, (f < 38 ∧ f ≠ 7 ∧ f ≠ 8 ∧ f ≠ 11 ∧ f ≠ 12) ∨ (43 < f ∧ f < 66) ∨ 73 < f → Z f = σ1 f := fun f hf => by rw [r7 f hf, eY f (by omega)]
    have sZ : ∀ h, h ≠ j → Sm h σ1 Z τ τ := fun h hh => (sY h hh).tr (r6 h hh)
    refine ⟨l, INV_host H0 hj (fun h _ hh => sZ h hh) (AgE_ne (fun f x y => eZ f (by omega)) rfl) (by rw [eZ 4 (by omega)]) r1.1.2.2.2.2.2.2.2.2 (fun _ _ => rfl) (by omega) (by omega) (by omega) (by omega) ?_ ?_ ?_ r3 ?_⟩
    · refine ⟨⟨r1.1, r1.2.1, by have := r1.2.2.1; omega, r1.2.2.2⟩, fun h => absurd r9 h, fun _ _ => r2, ?_, ?_, ?_, fun _ => r9⟩
      · rw [r8]; intro h; exact absurd h (by decide)
      · rw [eZ 10 (by omega)]; exact nb_mono a5 (by omega)
      · have : CB c Z j := CB_nf a6 (fun f x y => eZ f (by omega))
        exact ⟨nb_mono this.1 (by omega), nb_mono this.2.1 (by omega), this.2.2⟩
    · intro b _ _ _ li; exact absurd r9 li.2.1
    · refine GI_st2 g hj (.inr (.inl h7)) (fun f i hf => by rw [eZ f (by omega)]) ?_ ?_ ?_ r5 ?_
      · intro b hb
        by_cases e : b = j
        · subst e; exact .inl r11
        · rw [(sZ b e).f1 8 rfl]; exact g.2.2.2.2.2.1 b hb
      · rw [eZ 44 (by omega)]; exact nb_mono g.2.1 (by omega)
      · rw [eZ 50 (by omega)]; exact nb_mono g.2.2.1 (by omega)
      · rw [eZ 74 (by omega)]; exact g.2.2.2.2.1
    · refine RI_sep riY (j := j) (by rw [y7]; decide) (fun h => by rw [y7] at h; exact absurd h.1 (by decide)) (fun f hf => r7 f (by omega)) (fun h hh => by rw [(r6 h hh).f1 7 rfl, (r6 h hh).f1 11 rfl]; exact ⟨rfl, rfl⟩)
  · rw [if_neg e]
    have hlt : cl (σ1 58 j) < cl (σ1 59 j) := by
      have : cl (σ1 58 j) ≠ cl (σ1 59 j) := by intro h; apply e; rw [b1.1, b2.1, h]
      omega
    refine ⟨l, INV_host H0 hj (fun h _ hh => sY h hh) (AgE_ne (fun f x y => eY f (by omega)) rfl) (by rw [eY 4 (by omega)]) hiY.1.2.2.2.2.2.2.2.2 (fun _ _ => rfl) (by omega) (by omega) (by omega) (by omega) ?_ ?_ ?_ oY riY⟩
    · refine ⟨⟨hiY.1, hiY.2.1, by have := hiY.2.2.1; omega, hiY.2.2.2⟩, ?_, ?_, ?_, ?_, ?_, ?_⟩
      · rw [eY 11 (by omega)]; exact fun h => absurd e11 h
      · rw [y7]; intro h; exact absurd h (by decide)
      · intro _
        rw [eY 11 (by omega)]
        refine ⟨e11, ?_⟩
        have ecm : cmL Y j = cmL σ1 j := by unfold cmL; rw [eY 57 (by omega), eY 58 (by omega), eY 59 (by omega)]
        unfold BI
        rw [eY 57 (by omega), eY 58 (by omega), eY 59 (by omega), eY 38 (by omega), ecm, hv_nf (σ := σ1) (τ := τ) (fun f x y => eY f (by omega)) rfl]
        refine ⟨nb_mono b1 (by omega), nb_mono b2 (by omega), b3, b4, fun _ => hlt, X, W, kb, b6, b7, ch_ag (AgE_ne (fun f x y => eY f (by omega)) rfl) (by omega) (HI_vok a1) (ch_mono (by omega) b8), ?_⟩
        intro i hi li
        have li' : isLO σ1 j i := isLO_s2 (fun f hf => by rw [eY f (by omega)]; exact ⟨rfl, rfl⟩) li
        have ech : chL Y i = chL σ1 i := by unfold chL; rw [eY 53 (by omega), eY 52 (by omega)]
        rw [ech, hv_nf (σ := σ1) (τ := τ) (fun f x y => eY f (by omega)) rfl]
        exact b9 i hi li'
      · rw [eY 10 (by omega)]; exact nb_mono a5 (by omega)
      · have : CB c Y j := CB_nf a6 (fun f x y => eY f (by omega))
        exact ⟨nb_mono this.1 (by omega), nb_mono this.2.1 (by omega), this.2.2⟩
      · rw [y7]; intro h; exact absurd h (by decide)
    · intro b _ _ _ li
      have := li.2.1
      rw [eY 11 (by omega)] at this
      exact absurd e11 this
    · refine GI_st g hj (.inr (.inl h7)) (fun f i hf => by rw [eY f (by omega)]) ?_ ?_ ?_ ?_
      · rw [eY 44 (by omega)]; exact nb_mono g.2.1 (by omega)
      · rw [eY 50 (by omega)]; exact nb_mono g.2.2.1 (by omega)
      · rw [eY 72 (by omega)]; exact g.2.2.2.1
      · rw [eY 74 (by omega)]; exact g.2.2.2.2.1
theorem CV_spB0 {n pg rm c j : Nat} {σ : (Nat → Nat → Int32)} {τ : (Nat → Nat → Int64)} (hc : c ≤ 511) (H : CV n pg rm c σ τ) (hj : j < 4) (h7 : σ 7 j = 2) : CV n pg rm (c + 1) (m_spB σ (u2 σ 14 0 (σ 9 j)) j) τ := by
  obtain ⟨l, H⟩ := H
  exact spB_CV hc (INV_14 H (by omega) (by omega)) hj (by rw [u2_ne (by decide)]; exact h7) (by rw [u2_ne (by decide)]) (by rw [u2_ne (by decide)]) (by rw [u2_ne (by decide)])
theorem CV_spB1 {n pg rm c j v : Nat} {σ : (Nat → Nat → Int32)} {τ : (Nat → Nat → Int64)} (hc : c ≤ 511) (H : CV n pg rm c σ τ) (hj : j < 4) (h7 : σ 7 j = 2) (hv : v < 4) (lo : isLO σ j v) : CV n pg rm (c + 1) (m_spB σ (m_sp1 σ j v) j) τ := by
  obtain ⟨l, H⟩ := H
  have e : ∀ f, f ≠ 12 → f ≠ 14 → f ≠ 53 → f ≠ 55 → f ≠ 56 → m_sp1 σ j v f = σ f := fun f q1 q2 q3 q4 q5 => by unfold m_sp1; rw [u2_ne q1, noCh_ne q3 q4 q5, u2_ne q2]
  exact spB_CV hc (INV_sp1 H hv lo (by omega) (by omega)) hj (by rw [e 7 (by decide) (by decide) (by decide) (by decide) (by decide)]; exact h7) (by rw [e 58 (by decide) (by decide) (by decide) (by decide) (by decide)]) (by rw [e 59 (by decide) (by decide) (by decide) (by decide) (by decide)]) (by rw [e 38 (by decide) (by decide) (by decide) (by decide) (by decide)])
