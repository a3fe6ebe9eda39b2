theorem isLO_s2 {b j : Nat} {σ ς : (Nat → Nat → Int32)} (e : ∀ f, f = 8 ∨ f = 9 ∨ f = 11 ∨ f = 12 → ς f b = σ f b ∧ ς f j = σ f j) (H : isLO ς b j) : isLO σ b j := by
  unfold isLO at *
  rw [(e 8 (by omega)).1, (e 9 (by omega)).1, (e 11 (by omega)).2, (e 12 (by omega)).2, (e 8 (by omega)).2, (e 9 (by omega)).2] at H
  exact H
theorem sm_u1 {h j f : Nat} {σ : (Nat → Nat → Int32)} {v : Int32} {τ : (Nat → Nat → Int64)} (hh : h ≠ j) (h1 : h_s f = 1) : Sm h σ (u2 σ f j v) τ τ := by
  refine ⟨?_, rfl⟩
  intro g i _ hi
  by_cases e : g = f
  · subst e; rw [h1] at hi ⊢; rw [u2_sn (by omega)]
  · rw [u2_ne e]
theorem noCh_ne {σ : (Nat → Nat → Int32)} {j f : Nat} (h1 : f ≠ 53) (h2 : f ≠ 55) (h3 : f ≠ 56) : m_noCh σ j f = σ f := by unfold m_noCh; rw [u2_ne h3, u2_ne h2, u2_ne h1]
theorem noCh_s {σ : (Nat → Nat → Int32)} {j f : Nat} (h : f = 53 ∨ f = 55 ∨ f = 56) : m_noCh σ j f j = 0 := by
  unfold m_noCh
  rcases h with e | e | e <;> subst e
  · rw [u2_ne (by decide), u2_ne (by decide), u2_ss]
  · rw [u2_ne (by decide), u2_ss]
  · rw [u2_ss]
theorem noCh_sm {σ : (Nat → Nat → Int32)} {h j : Nat} {τ : (Nat → Nat → Int64)} (hh : h ≠ j) : Sm h σ (m_noCh σ j) τ τ := ((sm_u1 hh rfl).tr (sm_u1 hh rfl)).tr (sm_u1 hh rfl)
theorem INV_stop {n pg rm c M E q j : Nat} {l : Nat → Nat} {σ : (Nat → Nat → Int32)} {τ : (Nat → Nat → Int64)} {v : Int32} (H : INV n pg rm c M E q l σ τ) (hj : j < 4) (hv5 : v = 5 ∨ v = 6) (hub : σ 5 0 = 0 → v = 6) (hM : M < 2147470000) (hc : c ≤ 600) (hri : RcI n (256 * pg) (u2 (u2 σ 7 j v) 10 j (σ 10 j + 1))) : INV n pg rm (c + 1) M E q l (u2 (u2 σ 7 j v) 10 j (σ 10 j + 1)) τ := by
  have H0 := H
  obtain ⟨g, hs, ho, _⟩ := H
  obtain ⟨a1, a2, a3, a4, a5, a6, a0⟩ := hs j hj
  generalize hZ : u2 (u2 σ 7 j v) 10 j (σ 10 j + 1) = Z at *
  have e : ∀ f, f ≠ 7 → f ≠ 10 → Z f = σ f := fun f x y => by rw [← hZ, u2_ne y, u2_ne x]
  have e7 : Z 7 j = v := by rw [← hZ, u2_ne (by decide), u2_ss]
  have e10 : Z 10 j = σ 10 j + 1 := by rw [← hZ, u2_ss]
  have i10 := cl_inc a5 (by omega)
  have sZ : ∀ h, h ≠ j → Sm h σ Z τ τ := fun h hh => by
    rw [← hZ]; exact (sm_u1 hh rfl).tr (sm_u1 hh rfl)
  have v7 : ¬ v = 1 ∧ ¬ (v = 2 ∨ v = 3) ∧ ¬ (v = 0 ∨ v = 4) := by rcases hv5 with e | e <;> (subst e; decide)
  refine INV_host H0 hj (fun h _ hh => sZ h hh) (AgE_ne (fun f x y => e f (by omega) (by omega)) rfl) (by rw [e 4 (by decide) (by decide)]) ?_ (fun _ _ => rfl) (Nat.le_refl _) (by omega) (by omega) (by omega) ?_ ?_ ?_ ?_ hri
  · intro f i hf; rw [e f (by omega) (by omega)]; exact INV_by H0 f i hf
  · refine ⟨HI_nf a1 (fun f hf => e f (by omega) (by omega)) rfl, ?_, ?_, ?_, ?_, ?_, ?_⟩
    · rw [e 11 (by decide) (by decide)]
      intro h
      obtain ⟨z1, z2, z3, z4, z5, z6, z7⟩ := a2 h
      unfold CI
      rw [e 53 (by decide) (by decide), e 55 (by decide) (by decide), e 56 (by decide) (by decide), e 52 (by decide) (by decide), e 54 (by decide) (by decide), e 44 (by decide) (by decide), e 12 (by decide) (by decide), e 38 (by decide) (by decide)]
      refine ⟨z1, z2, z3, z4, z5, fun h => ⟨(z6 h).1, ?_⟩, z7⟩
      rw [← (z6 h).2]
      exact cnt_eq _ (fun x hx => by rw [e 45 (by decide) (by decide), e 54 (by decide) (by decide)])
    · rw [e7]; exact fun h => absurd h v7.1
    · rw [e7]; exact fun h => absurd h v7.2.1
    · rw [e10, i10.1]; exact nb_n (by have := a5.2; omega) (by omega)
    · have : CB c Z j := CB_nf a6 (fun f x y => e f (by omega) (by omega))
      exact ⟨nb_mono this.1 (by omega), nb_mono this.2.1 (by omega), this.2.2⟩
    · rw [e7]; exact fun h => absurd h v7.2.2
  · intro b _ _ _ li
    have li' : isLO σ b j := isLO_s2 (fun f hf => by rw [e f (by omega) (by omega)]; exact ⟨rfl, rfl⟩) li
    refine ⟨li', ?_⟩
    intro kb hch
    have ech : chL Z j = chL σ j := by unfold chL; rw [e 53 (by decide) (by decide), e 52 (by decide) (by decide)]
    rw [ech, hv_nf (σ := σ) (τ := τ) (fun f x y => e f (by omega) (by omega)) rfl]; exact hch
  · obtain ⟨g1, g2, g3, g4, g5, g6, g7⟩ := g
    refine ⟨?_, by rw [e 44 (by decide) (by decide)]; exact g2, by rw [e 50 (by decide) (by decide)]; exact nb_mono g3 (by omega), by rw [e 72 (by decide) (by decide)]; exact g4, by rw [e 74 (by decide) (by decide)]; exact g5, by unfold PartOK; rw [e 8 (by decide) (by decide)]; exact g6, ?_⟩
    · unfold RB; rw [e 0 (by decide) (by decide), e 1 (by decide) (by decide), e 2 (by decide) (by decide), e 3 (by decide) (by decide), e 4 (by decide) (by decide)]; exact g1
    · rw [e 5 (by decide) (by decide), e 60 (by decide) (by decide), e 11 (by decide) (by decide), e 38 (by decide) (by decide)]
      intro h
      refine ⟨(g7 h).1, ?_⟩
      intro h' hh'
      by_cases ej : h' = j
      · subst ej; rw [e7]; exact ⟨.inr (hub h), ((g7 h).2 h' hh').2⟩
      · rw [(sZ h' ej).f1 7 rfl]; exact (g7 h).2 h' hh'
  · obtain ⟨o1, o2, o3⟩ := ho
    unfold OI OW
    rw [e 65 (by decide) (by decide), e 66 (by decide) (by decide), e 67 (by decide) (by decide), e 68 (by decide) (by decide), e 69 (by decide) (by decide), e 70 (by decide) (by decide), e 27 (by decide) (by decide), e 28 (by decide) (by decide), e 37 (by decide) (by decide), e 38 (by decide) (by decide)]
    refine ⟨o1, o2, ?_⟩
    intro o h1 h2
    obtain ⟨h, a, b1, b2, b3, b4, b5, b6⟩ := o3 o h1 h2
    by_cases ej : h = j
    · subst ej
      refine ⟨h, a, b1, b2, b3, b4, by rw [e10, i10.2]; omega, ?_⟩
      rw [e10, i10.2]; intro ea; omega
    · refine ⟨h, a, b1, b2, b3, b4, by rw [(sZ h ej).f1 10 rfl]; exact b5, ?_⟩
      rw [(sZ h ej).f1 10 rfl, (sZ h ej).f1 7 rfl]; exact b6
theorem RI_sep {n S j : Nat} {σ ς : (Nat → Nat → Int32)} (H : RcI n S σ) (h4 : ¬ σ 7 j = 4) (h1 : ¬ (σ 7 j = 1 ∧ σ 11 j = 0)) (e : ∀ f, f = 15 ∨ f = 60 ∨ f = 61 ∨ f = 63 → ς f = σ f) (e7 : ∀ h, h ≠ j → ς 7 h = σ 7 h ∧ ς 11 h = σ 11 h) : RcI n S ς := by
  rcases H with h | ⟨r, s, ⟨t1, t2, t3, t4, t5⟩, x1, x2, x3, x4⟩
  · left; rw [e 60 (by omega), e 61 (by omega)]; exact h
  right
  have rj : r ≠ j := by intro q; subst q; exact h4 x1
  have sj : s ≠ j := by intro q; subst q; exact h1 ⟨x2, x3⟩
  refine ⟨r, s, ⟨by rw [e 60 (by omega)]; exact t1, by rw [e 61 (by omega)]; exact t2, t3, t4, t5⟩, (e7 r rj).1.trans x1, (e7 s sj).1.trans x2, (e7 s sj).2.trans x3, ?_⟩
  rw [e 15 (by omega), e 63 (by omega)]; exact x4
theorem booted {n pg rm E c j : Nat} {σ : (Nat → Nat → Int32)} (g : GI n pg rm E c σ) (hj : j < 4) (h7 : σ 7 j = 1 ∨ σ 7 j = 2 ∨ σ 7 j = 3) : ¬ σ 5 0 = 0 := by
  intro h
  have := ((g.2.2.2.2.2.2 h).2 j hj).1
  rcases h7 with a | a | a <;> rw [a] at this <;> exact absurd this (by decide)
theorem CV_halt {n pg rm c j : Nat} {σ : (Nat → Nat → Int32)} {τ : (Nat → Nat → Int64)} (hc : c ≤ 511) (H : CV n pg rm c σ τ) (hj : j < 4) (hA : SpIs σ j = true ∨ σ 7 j = 2) : CV n pg rm (c + 1) (m_halt σ j) τ := by
  obtain ⟨l, H⟩ := H
  have hA : (σ 7 j = 1 ∧ ¬ σ 11 j = 0) ∨ σ 7 j = 2 := by
    rcases hA with h | h
    · left; unfold SpIs at h; exact of_decide_eq_true h
    · exact .inr h
  have h7 : σ 7 j = 1 ∨ σ 7 j = 2 ∨ σ 7 j = 3 := by
    rcases hA with h | h
    · exact .inl h.1
    · exact .inr (.inl h)
  have hb := booted H.1 hj h7
  refine ⟨l, INV_mono (INV_stop H hj (.inl rfl) (fun h => absurd h hb) (by omega) (by omega) ?_) (by omega) (by omega) (Nat.le_refl _) (by omega) (by omega) (by omega)⟩
  refine RI_sep H.2.2.2 (j := j) ?_ ?_ (fun f hf => by rw [u2_ne (by omega), u2_ne (by omega)]) ?_
  · rcases hA with h | h
    · rw [h.1]; decide
    · rw [h]; decide
  · rintro ⟨x, y⟩
    rcases hA with h | h
    · exact h.2 y
    · rw [h] at x; exact absurd x (by decide)
  · intro h hh
    rw [u2_ne (by decide), u2_sn hh, u2_ne (by decide), u2_ne (by decide)]; exact ⟨rfl, rfl⟩
theorem CV_spL {n pg rm c j : Nat} {σ : (Nat → Nat → Int32)} {τ : (Nat → Nat → Int64)} (hc : c ≤ 511) (H : CV n pg rm c σ τ) (hj : j < 4) (hA : SpIs σ j = true) : CV n pg rm (c + 1) (m_spL σ j) τ := by
  obtain ⟨l, H⟩ := H
  have H0 := H
  obtain ⟨g, hs, ho, hri⟩ := H
  obtain ⟨a1, a2, a3, a4, a5, a6, a0⟩ := hs j hj
  unfold SpIs at hA
  obtain ⟨h7, h11⟩ := of_decide_eq_true hA
  unfold m_spL
  generalize hY : m_noCh (u2 (u2 (u2 σ 14 0 (σ 9 j)) 11 j 0) 8 j (-1)) j = Y
  have eY : ∀ f, f ≠ 8 → f ≠ 11 → f ≠ 14 → f ≠ 53 → f ≠ 55 → f ≠ 56 → Y f = σ f := fun f q1 q2 q3 q4 q5 q6 => by rw [← hY, noCh_ne q4 q5 q6, u2_ne q1, u2_ne q2, u2_ne q3]
  have y11 : Y 11 j = 0 := by rw [← hY, noCh_ne (by decide) (by decide) (by decide), u2_ne (by decide), u2_ss]
  have y8 : Y 8 j = -1 := by rw [← hY, noCh_ne (by decide) (by decide) (by decide), u2_ss]
  have s14 : ∀ h, Sm h σ (u2 σ 14 0 (σ 9 j)) τ τ := fun h => sm_ne (fun f hf => u2_ne (by intro e; subst e; cases hf)) rfl
  have sY : ∀ h, h ≠ j → Sm h σ Y τ τ := fun h hh => by
    rw [← hY]; exact (((s14 h).tr (sm_u1 hh rfl)).tr (sm_u1 hh rfl)).tr (noCh_sm hh)
  have y38 : Y 38 = σ 38 := eY 38 (by decide) (by decide) (by decide) (by decide) (by decide) (by decide)
  rw [show cl (σ 38 j) = cl (Y 38 j) by rw [y38]]
  have e6 : ∀ f, f < 8 ∨ f = 9 ∨ f = 10 ∨ f = 12 ∨ (14 < f ∧ f < 53) ∨ 56 < f → Y f = σ f := fun f hf => eY f (by omega) (by omega) (by omega) (by omega) (by omega) (by omega)
  obtain ⟨r1, r2, r3, r4, r5, r6, r7⟩ := lall_sp (S := 256 * pg) (M := 2000 * c) (c := c) (l := l) (τ := τ) (by omega) hj (by omega) (cl (Y 38 j)) Y (HI_nf a1 (fun f hf => e6 f (by omega)) rfl) rfl (by rw [e6 7 (by omega)]; exact h7) (by rw [e6 10 (by omega)]; exact a5) (OI_nf (show OI (c + 1) l σ from ⟨ho.1, nb_mono ho.2.1 (by omega), ho.2.2⟩) (fun f hf => e6 f (by omega))) (.inl (by rw [e6 66 (by omega)]; exact ho.2.1.2)) (by rw [e6 72 (by omega)]; exact g.2.2.2.1)
  generalize hZ : m_lall Y j (cl (Y 38 j)) = Z at *
  have eZ : ∀ f, f < 8 ∨ f = 9 ∨ f = 10 ∨ f = 12 ∨ (14 < f ∧ f < 38) ∨ (43 < f ∧ f < 53) ∨ (56 < f ∧ f < 66) ∨ 73 < f → Z f = σ f := fun f hf => by rw [r7 f (by omega), e6 f (by omega)]
  have z11 : Z 11 j = 0 := by rw [r7 11 (by omega)]; exact y11
  refine ⟨l, INV_host H0 hj (fun h _ e => (sY h e).tr (r6 h e)) (AgE_ne (fun f x y => eZ f (by omega)) rfl) (by rw [eZ 4 (by omega)]) r1.1.2.2.2.2.2.2.2.2 (fun _ _ => rfl) (by omega) (by omega) (by omega) (by omega) ?_ ?_ ?_ r3 ?_⟩
  · refine ⟨⟨r1.1, r1.2.1, by have := r1.2.2.1; omega, r1.2.2.2⟩, fun h => absurd z11 h, fun _ _ => r2, ?_, ?_, ?_, fun _ => z11⟩
    · rw [eZ 7 (by omega), h7]; intro h; exact absurd h (by decide)
    · rw [eZ 10 (by omega)]; exact nb_mono a5 (by omega)
    · have : CB c Z j := CB_nf a6 (fun f x y => eZ f (by omega))
      exact ⟨nb_mono this.1 (by omega), nb_mono this.2.1 (by omega), this.2.2⟩
  · intro b _ _ _ li; exact absurd z11 li.2.1
  · refine GI_st2 g hj (.inl h7) (fun f i hf => by rw [eZ f (by omega)]) ?_ ?_ ?_ r5 ?_
    · intro b hb
      by_cases e : b = j
      · subst e; left; rw [r7 8 (by omega)]; exact y8
      · rw [((sY b e).tr (r6 b e)).f1 8 rfl]; exact g.2.2.2.2.2.1 b hb
    · rw [eZ 44 (by omega)]; exact nb_mono g.2.1 (by omega)
    · rw [eZ 50 (by omega)]; exact nb_mono g.2.2.1 (by omega)
    · rw [eZ 74 (by omega)]; exact g.2.2.2.2.1
  · refine RI_sep hri (j := j) (by rw [h7]; decide) (fun h => h11 h.2) (fun f hf => eZ f (by omega)) (fun h hh => ?_)
    rw [((sY h hh).tr (r6 h hh)).f1 7 rfl, ((sY h hh).tr (r6 h hh)).f1 11 rfl]; exact ⟨rfl, rfl⟩
