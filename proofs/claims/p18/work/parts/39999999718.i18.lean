theorem HI_nf {S M j : Nat} {l : Nat → Nat} {σ ς : (Nat → Nat → Int32)} {τ υ : (Nat → Nat → Int64)} (H : HI S M l σ τ j) (e : ∀ f, f = 4 ∨ (15 ≤ f ∧ f ≤ 42) → ς f = σ f) (h : υ 19 j = τ 19 j) : HI S M l ς υ j := by
  obtain ⟨a1, a2, a3, a4, a5, a6, a7, a8⟩ := H
  have em : mc υ j = mc τ j := by unfold mc; rw [h]
  refine ⟨v_B_nf a1 (fun f hf => e f (by omega)), by rw [em, h]; exact a2, by rw [em]; exact a3, ?_⟩
  unfold KI
  rw [em, e 37 (by omega), e 38 (by omega), e 39 (by omega), e 40 (by omega), e 41 (by omega), e 42 (by omega), e 27 (by omega), e 28 (by omega), e 29 (by omega)]
  exact ⟨a4, a5, a6, a7, a8⟩
theorem OI_nf {c : Nat} {l : Nat → Nat} {σ ς : (Nat → Nat → Int32)} (H : OI c l σ) (e : ∀ f, f = 7 ∨ f = 10 ∨ f = 27 ∨ f = 28 ∨ f = 37 ∨ f = 38 ∨ (65 ≤ f ∧ f ≤ 70) → ς f = σ f) : OI c l ς :=
  OI_st H (Nat.le_refl _) (fun f x y => e f (by omega)) (fun h _ => by rw [e 10 (by omega)]) (fun h _ x y => by rw [e 7 (by omega), e 27 (by omega), e 28 (by omega), e 37 (by omega), e 38 (by omega)]; exact ⟨x, y, rfl, id⟩)
theorem RI_nf {n S : Nat} {σ ς : (Nat → Nat → Int32)} (H : RcI n S σ) (e : ∀ f, f = 7 ∨ f = 11 ∨ f = 15 ∨ f = 60 ∨ f = 61 ∨ f = 63 → ς f = σ f) : RcI n S ς := by
  unfold RcI TrAt at *
  rw [e 7 (by omega), e 11 (by omega), e 15 (by omega), e 60 (by omega), e 61 (by omega), e 63 (by omega)]; exact H
theorem lu_step {n pg rm c M E j : Nat} {l : Nat → Nat} {σ : (Nat → Nat → Int32)} {τ : (Nat → Nat → Int64)} (H : INV n pg rm c M E (c + 1) l σ τ) (oj : OJ c j σ) (hj : j < 4) (h7 : σ 7 j = 1) (h11 : σ 11 j = 0) (hM : M < 2147470000) (hc : c ≤ 4000) : INV n pg rm c (M + 1) E (c + 1) (l1 l σ τ j) (m_nx0 σ τ j) (m_stT σ τ j) ∧ OJ c j (m_nx0 σ τ j) ∧ m_nx0 σ τ j 7 j = 1 ∧ m_nx0 σ τ j 11 j = 0 ∧ PostOK (m_stx σ τ j) j := by
  obtain ⟨g, hs, ho, hri⟩ := H
  obtain ⟨a1, a2, a3, a4, a5, a6, a0⟩ := hs j hj
  have h38 := a3 h7 h11
  have h127 : nb (σ 38 j) 127 := nb_mono a1.2.2.2.2.2.2.1 (by omega)
  have hR := st_R (τ := τ) a1.1 h127
  have eo : ∀ f i, f < 15 ∨ 43 < f → f ≠ 63 → f ≠ 74 → m_stx σ τ j f i = σ f i := fun f i x y z => F_o hR.1 x y z
  obtain ⟨o, hO, _⟩ := v_O_stx (j := j) (s := σ) (τ := τ)
  have e7 : m_stx σ τ j 7 j = 1 := by rw [eo 7 j (by omega) (by omega) (by omega)]; exact h7
  have e11 : m_stx σ τ j 11 j = 0 := by rw [eo 11 j (by omega) (by omega) (by omega)]; exact h11
  have eT : m_stT σ τ j = t2 τ 19 j (τ 19 j + 1) := by
    unfold m_stT m_psT
    by_cases e : m_stx σ τ j 7 j = 1 ∧ ¬ m_stx σ τ j 74 0 = 0
    · rw [if_pos e, if_neg (by rw [e11]; simp)]
    · rw [if_neg e]
  rw [eT]
  generalize hυ : t2 τ 19 j (τ 19 j + 1) = υ
  have uj : υ 19 j = τ 19 j + 1 := by rw [← hυ, t2_19s]
  have un : ∀ h, h ≠ j → υ 19 h = τ 19 h := fun h hh => by rw [← hυ, t2_19 hh]
  have u49 : υ 49 = τ 49 := by rw [← hυ, t2_49]
  have c38 : cl (σ 38 j) = 0 := by rw [h38]; rfl
  generalize hσ2 : u2 (m_stx σ τ j) 74 0 0 = σ2
  have e2 : ∀ f, f ≠ 74 → σ2 f = m_stx σ τ j f := fun f hf => by rw [← hσ2, u2_ne hf]
  obtain ⟨nh, ngs⟩ := HI_step (ς := σ2) (υ := υ) a1 (by omega) hO (fun _ => by omega) (fun f hf => e2 f (by omega)) uj
  have hF2 : v_F j σ σ2 := by
    intro f i
    by_cases e : f = 74
    · exact .inr (.inl e)
    · rw [e2 f e]; exact hR.1 f i
  have e2o : ∀ f i, f < 15 ∨ 43 < f → f ≠ 63 → f ≠ 74 → σ2 f i = σ f i := fun f i x y z => by rw [e2 f z]; exact eo f i x y z
  have oi2 : OI (c + 1) (l1 l σ τ j) σ2 := by
    refine OI_st ho (Nat.le_refl _) (fun f x y => by funext i; exact e2o f i (by omega) (by omega) (by omega)) (fun h _ => e2o 10 h (by omega) (by omega) (by omega)) ?_
    intro h hh x1 x2
    by_cases e : h = j
    · subst e
      rw [e2 27 (by decide), e2 28 (by decide), e2 37 (by decide), e2 38 (by decide), l1_s]
      have w := hO.1 x2
      have eg : gl (σ 27 h) (m_stx σ τ h 27 h) (cl (m_stx σ τ h 37 h)) (l h) = l h := by unfold gl; rw [if_neg (fun h => h.1 x2)]
      refine ⟨by rw [e2 7 (by decide)]; exact e7, w.1, w.2.1, ?_⟩
      rw [eg]
      intro hle
      cases o with
      | false => rw [(hO.2.1 rfl).1, (hO.2.1 rfl).2.1]; exact hle
      | true =>
        have p := hO.2.2 rfl
        rw [p.1, p.2.1, (cl_inc a1.2.2.2.1 (by have := a1.2.2.1; omega)).2, (cl_inc a1.2.2.2.2.2.2.1 (by omega)).2]
        omega
    · have sh := sm_F (τ := τ) (υ := υ) hF2 e (un h e)
      rw [sh.f1 7 rfl, sh.f1 27 rfl, sh.f1 28 rfl, sh.f1 37 rfl, sh.f1 38 rfl, l1_n e]
      exact ⟨x1, x2, rfl, id⟩
  have oj2 : OJ c j σ2 := OJ_st oj (fun f x y => by funext i; exact e2o f i (by omega) (by omega) (by omega)) (e2o 10 j (by omega) (by omega) (by omega))
  have ri2 : RcI n (256 * pg) σ2 := RI_st hri g.1.2.2.2.2.2.2.1 hj a1.1.2.2.1 (by rw [h7]; decide) hR (e2 15 (by decide)) (e2 63 (by decide)) (fun f hf => by funext i; exact e2o f i (by omega) (by omega) (by omega)) (fun h _ _ => ⟨e2o 7 h (by omega) (by omega) (by omega), e2o 11 h (by omega) (by omega) (by omega)⟩)
  have ag2 : AgE σ σ2 τ υ := AgE_ne (fun f x y => by funext i; exact e2o f i (by omega) (by omega) (by omega)) u49
  have n38 : nb (m_stx σ τ j 38 j) 100 := by have := nh.2.2.2.2.2.2.1; rwa [e2 38 (by decide)] at this
  have post : PostOK (m_stx σ τ j) j := by
    intro _ _
    refine ⟨fun h => absurd e11 h, fun _ => ⟨nb_mono n38 (by omega), ?_, ?_, ?_⟩⟩
    · rw [eo 72 0 (by omega) (by omega) (by omega)]; exact g.2.2.2.1
    · rw [eo 66 0 (by omega) (by omega) (by omega)]; exact nb_mono ho.2.1 (by omega)
    · intro i hi e
      have := (nh.2.2.2.2.2.2.2 i (by rw [e2 38 (by decide)]; exact hi)).2.2.1
      rw [e2 39 (by decide), e2 40 (by decide)] at this
      exact this e
  cases o with
  | false =>
    have e74 : m_stx σ τ j 74 0 = 0 := by rw [(hO.2.1 rfl).2.2.1]; exact g.2.2.2.2.1
    have eq : m_nx0 σ τ j = σ2 := by
      have : m_stS σ τ j = σ2 := by
        unfold m_stS m_pst; rw [if_neg (fun h => h.2 e74), hσ2]
      unfold m_nx0; rw [this, if_pos (by rw [e2 7 (by decide)]; exact e7)]
    rw [eq]
    have z38 : σ2 38 j = 0 := by rw [e2 38 (by decide), (hO.2.1 rfl).2.1]; exact h38
    refine ⟨INV_host ⟨g, hs, ho, hri⟩ hj (fun h _ e => sm_F hF2 e (un h e)) ag2 (e2o 4 0 (by omega) (by omega) (by omega)) nh.1.2.2.2.2.2.2.2.2 (fun h e => l1_n e) (by omega) (by omega) (Nat.le_refl _) (by omega) ?_ ?_ ?_ oi2 ri2, oj2, by rw [e2 7 (by decide)]; exact e7, by rw [e2 11 (by decide)]; exact e11, post⟩
    · refine ⟨nh, fun h => absurd (by rw [e2 11 (by decide)]; exact e11) h, fun _ _ => z38, ?_, ?_, CB_nf a6 (fun f x y => by funext i; exact e2o f i (by omega) (by omega) (by omega)), fun _ => by rw [e2 11 (by decide)]; exact e11⟩
      · rw [e2 7 (by decide), e7]; intro h; exact absurd h (by decide)
      · rw [e2o 10 j (by omega) (by omega) (by omega)]; exact a5
    · intro b _ _ _ li; exact absurd (by rw [e2 11 (by decide)]; exact e11) li.2.1
    · refine GI_st g hj (.inl h7) (fun f i hf => e2o f i (by omega) (by omega) (by omega)) ?_ ?_ ?_ ?_
      · rw [e2o 44 0 (by omega) (by omega) (by omega)]; exact g.2.1
      · rw [e2o 50 0 (by omega) (by omega) (by omega)]; exact g.2.2.1
      · rw [e2o 72 0 (by omega) (by omega) (by omega)]; exact g.2.2.2.1
      · rw [← hσ2, u2_ss]
  | true =>
    have p := hO.2.2 rfl
    have e74 : ¬ m_stx σ τ j 74 0 = 0 := by rw [p.2.2.1]; decide
    obtain ⟨nh1, _⟩ := HI_step (ς := m_stx σ τ j) (υ := υ) a1 (by omega) hO (fun _ => by omega) (fun f hf => rfl) uj
    have oi1 : OI (c + 1) (l1 l σ τ j) (m_stx σ τ j) := OI_nf oi2 (fun f hf => (e2 f (by omega)).symm)
    have oj1 : OJ c j (m_stx σ τ j) := OJ_st oj2 (fun f x y => (e2 f (by omega)).symm) (by rw [e2 10 (by omega)])
    obtain ⟨r1, r2, r3, r4, r5, r6, r7⟩ := lall_sp (c := c) (τ := υ) (show M + 1 < 2147480000 by omega) hj hc (cl (m_stx σ τ j 38 j)) (m_stx σ τ j) nh1 rfl e7 (by rw [eo 10 j (by omega) (by omega) (by omega)]; exact a5) oi1 oj1 (by rw [eo 72 0 (by omega) (by omega) (by omega)]; exact g.2.2.2.1)
    have eq : m_nx0 σ τ j = u2 (m_lall (m_stx σ τ j) j (cl (m_stx σ τ j 38 j))) 74 0 0 := by
      have : m_stS σ τ j = u2 (m_lall (m_stx σ τ j) j (cl (m_stx σ τ j 38 j))) 74 0 0 := by
        unfold m_stS m_pst; rw [if_pos ⟨e7, e74⟩, if_neg (by rw [e11]; simp)]
      unfold m_nx0; rw [this, if_pos (by rw [u2_ne (by decide), r7 7 (by omega)]; exact e7)]
    rw [eq]
    generalize hY : m_lall (m_stx σ τ j) j (cl (m_stx σ τ j 38 j)) = Y at *
    generalize hZ : u2 Y 74 0 0 = Z
    have eZ : ∀ f, f ≠ 74 → Z f = Y f := fun f hf => by rw [← hZ, u2_ne hf]
    have eZo : ∀ f i, f < 15 ∨ (43 < f ∧ f < 66) → f ≠ 63 → Z f i = σ f i := fun f i x y => by rw [eZ f (by omega), r7 f (by omega)]; exact eo f i (by omega) y (by omega)
    have sZ : ∀ h, h ≠ j → Sm h σ Z τ υ := by
      intro h hh
      have q1 := sm_F (τ := τ) (υ := υ) hR.1 hh (un h hh)
      have q2 := r6 h hh
      have q3 : Sm h Y Z υ υ := sm_ne (fun f hf => by
        unfold h_f at hf
        have hf := of_decide_eq_true hf
        exact eZ f (by omega)) rfl
      exact (q1.tr q2).tr q3
    have ez7 : Z 7 j = 1 := by rw [eZ 7 (by omega), r7 7 (by omega)]; exact e7
    have ez11 : Z 11 j = 0 := by rw [eZ 11 (by omega), r7 11 (by omega)]; exact e11
    refine ⟨INV_host ⟨g, hs, ho, hri⟩ hj (fun h _ e => sZ h e) (AgE_ne (fun f x y => by funext i; exact eZo f i (by omega) (by omega)) u49) (eZo 4 0 (by omega) (by omega)) ?_ (fun h e => l1_n e) (by omega) (by omega) (Nat.le_refl _) (by omega) ?_ ?_ ?_ (OI_nf r3 (fun f hf => eZ f (by omega))) ?_, OJ_st r4 (fun f x y => eZ f (by omega)) (by rw [eZ 10 (by omega)]), ez7, ez11, post⟩
    · intro f i hf; rw [eZ f (by omega)]; exact r1.1.2.2.2.2.2.2.2.2 f i hf
    · refine ⟨HI_nf r1 (fun f hf => eZ f (by omega)) rfl, fun h => absurd ez11 h, fun _ _ => by rw [eZ 38 (by omega)]; exact r2, ?_, ?_, CB_nf a6 (fun f x y => by funext i; exact eZo f i (by omega) (by omega)), fun _ => ez11⟩
      · rw [ez7]; intro h; exact absurd h (by decide)
      · rw [eZo 10 j (by omega) (by omega)]; exact a5
    · intro b _ _ _ li; exact absurd ez11 li.2.1
    · refine GI_st g hj (.inl h7) (fun f i hf => eZo f i (by omega) (by omega)) ?_ ?_ ?_ ?_
      · rw [eZo 44 0 (by omega) (by omega)]; exact g.2.1
      · rw [eZo 50 0 (by omega) (by omega)]; exact g.2.2.1
      · rw [eZ 72 (by omega)]; exact r5
      · rw [← hZ, u2_ss]
    · refine RI_nf ri2 (fun f hf => ?_)
      rw [eZ f (by omega), r7 f (by omega), e2 f (by omega)]
