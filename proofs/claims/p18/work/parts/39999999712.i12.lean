theorem st_7 {S M j f i : Nat} {l : Nat → Nat} {σ : (Nat → Nat → Int32)} {τ : (Nat → Nat → Int64)} (H : HI S M l σ τ j) (h : f < 15 ∨ 43 < f) (h63 : f ≠ 63) (h74 : f ≠ 74) : m_stx σ τ j f i = σ f i := F_o (st_R H.1 (nb_mono H.2.2.2.2.2.2.1 (by omega))).1 h h63 h74
theorem bk_step {n pg rm c M E q j : Nat} {l : Nat → Nat} {σ ς : (Nat → Nat → Int32)} {τ υ : (Nat → Nat → Int64)} (H : INV n pg rm c M E q l σ τ) (hj : j < 4) (h7 : σ 7 j = 2 ∨ σ 7 j = 3) (hr : cl (σ 58 j) < cl (σ 59 j)) (hnt : ¬ τ 49 (m_tkE σ j) = τ 19 j) (hM : M < 2147480000) (hc : c ≤ 4200) (es : ∀ f, f ≠ 74 → ς f = m_stx σ τ j f) (e74 : ς 74 0 = 0) (eu : υ = t2 τ 19 j (τ 19 j + 1)) : INV n pg rm c (M + 1) E q (l1 l σ τ j) ς υ := by
  obtain ⟨g, hs, ho, hri⟩ := H
  obtain ⟨a1, a2, a3, a4, a5, a6, a0⟩ := hs j hj
  obtain ⟨e11, b1, b2, b3, b4, b5, X, W, kb, b6, b7, b8, b9⟩ := a4 h7
  have h127 : nb (σ 38 j) 127 := nb_mono a1.2.2.2.2.2.2.1 (by omega)
  have hR := st_R (τ := τ) a1.1 h127
  have eo : ∀ f i, f < 15 ∨ 43 < f → f ≠ 63 → f ≠ 74 → ς f i = σ f i := fun f i x y z => by rw [es f z]; exact F_o hR.1 x y z
  obtain ⟨o, hO, _⟩ := v_O_stx (j := j) (s := σ) (τ := τ)
  rw [cmL_cons hr] at b8
  have hnt' : ¬ τ 49 (m_tkE σ j) = Int64.ofNat (hv (256 * pg) l σ τ j).2.1 := by
    show ¬ _ = Int64.ofNat (mc τ j); rw [← a1.2.1]; exact hnt
  obtain ⟨k1, kb', k2, k3⟩ := ch_step b8 (HI_vok a1) a1.2.2.1 (by omega) hnt'
  have uj : υ 19 j = τ 19 j + 1 := by rw [eu, t2_19s]
  have un : ∀ h, h ≠ j → υ 19 h = τ 19 h := fun h hh => by rw [eu, t2_19 hh]
  have u49 : υ 49 = τ 49 := by rw [eu, t2_49]
  obtain ⟨nh, ngs⟩ := HI_step (ς := ς) (υ := υ) a1 hM hO (fun _ => by omega) (fun f hf => es f (by omega)) uj
  have hF : v_F j σ ς := by
    intro f i
    by_cases e : f = 74
    · exact .inr (.inl e)
    · rw [es f e]; exact hR.1 f i
  have ag : AgE σ ς τ υ := AgE_ne (fun f x y => by funext i; exact eo f i (by omega) (by omega) (by omega)) u49
  have hkept : cl (ς 38 j) + kb' ≤ 33 := by
    have hou : ou (gs (256 * pg) (hv (256 * pg) l σ τ j)) = cl (m_stx σ τ j 37 j) := by
      rw [← ngs, ou_hv, es 37 (by decide)]
    have hou0 : ou (hv (256 * pg) l σ τ j) = cl (σ 37 j) := ou_hv
    rw [hou, hou0] at k2
    rw [es 38 (by decide)]
    cases o with
    | false => rw [(hO.2.1 rfl).2.1]; rw [(hO.2.1 rfl).1] at k2; omega
    | true =>
      have p := hO.2.2 rfl
      have c1 := (cl_inc a1.2.2.2.1 (by have := a1.2.2.1; omega)).2
      have c2 := (cl_inc a1.2.2.2.2.2.2.1 (by omega)).2
      rw [p.2.1, c2]; rw [p.1, c1] at k2; omega
  refine INV_host ⟨g, hs, ho, hri⟩ hj (fun h _ e => sm_F hF e (un h e)) ag (eo 4 0 (by omega) (by omega) (by omega)) (nh.1.2.2.2.2.2.2.2.2) (fun h e => l1_n e) (by omega) (by omega) (Nat.le_refl _) hc ?_ ?_ ?_ ?_ ?_
  · refine ⟨nh, ?_, ?_, ?_, ?_, CB_nf a6 (fun f x y => by funext i; exact eo f i (by omega) (by omega) (by omega)), by rw [eo 7 j (by omega) (by omega) (by omega), eo 11 j (by omega) (by omega) (by omega)]; exact a0⟩
    · rw [eo 11 j (by omega) (by omega) (by omega)]; exact fun h => absurd e11 h
    · rw [eo 7 j (by omega) (by omega) (by omega)]
      intro h; rw [h] at h7; exact absurd h7 (by decide)
    · rw [eo 7 j (by omega) (by omega) (by omega), eo 11 j (by omega) (by omega) (by omega)]
      intro _
      have ecm : cmL ς j = cmL σ j := by
        unfold cmL
        rw [eo 58 j (by omega) (by omega) (by omega), eo 59 j (by omega) (by omega) (by omega)]
        exact map_eq fun i _ => by rw [eo 57 _ (by omega) (by omega) (by omega)]
      refine ⟨e11, ?_⟩
      unfold BI
      rw [eo 58 j (by omega) (by omega) (by omega), eo 59 j (by omega) (by omega) (by omega), eo 7 j (by omega) (by omega) (by omega), ecm]
      refine ⟨b1, b2, b3, fun i x y => by rw [eo 57 _ (by omega) (by omega) (by omega)]; exact b4 i x y, b5, X, W, kb', ?_, hkept, ?_, ?_⟩
      · have : ou (hv (256 * pg) l σ τ j) ≤ ou (gs (256 * pg) (hv (256 * pg) l σ τ j)) := by
          rcases (gs_ok (HI_vok a1) (by show mc τ j < _; have := a1.2.2.1; omega)).2 with e | e <;> omega
        omega
      · rw [ngs, cmL_cons hr]
        exact ch_ag ag (by omega) (ngs ▸ HI_vok nh) (ch_mono (by omega) k3)
      · intro i hi li
        have ij : i ≠ j := by
          intro e; subst e
          have := li.2.1; rw [eo 11 _ (by omega) (by omega) (by omega)] at this; exact this e11
        have li' : isLO σ j i := isLO_sm (fun f hf => eo f j (by omega) (by omega) (by omega)) (fun f x y => eo f i (by omega) (by omega) (by omega)) li
        obtain ⟨z1, z2⟩ := b9 i hi li'
        have si := sm_F (τ := τ) (υ := υ) hF ij (un i ij)
        have ci := (hs i hi).2.1 li'.2.1
        have hrm := g.1.2.2.2.2.2.2.2.2.2.2
        rw [chL_sm si (by have := ci.1.2; have := ci.2.1.2; omega), hv_sm si (l1_n ij)]
        exact ⟨z1, z2⟩
    · rw [eo 10 j (by omega) (by omega) (by omega)]; exact a5
  · intro b _ _ _ li
    have := li.2.1
    rw [eo 11 j (by omega) (by omega) (by omega)] at this
    exact absurd e11 this
  · refine GI_st g hj (.inr h7) (fun f i hf => eo f i (by omega) (by omega) (by omega)) ?_ ?_ ?_ e74
    · rw [eo 44 0 (by omega) (by omega) (by omega)]; exact g.2.1
    · rw [eo 50 0 (by omega) (by omega) (by omega)]; exact g.2.2.1
    · rw [eo 72 0 (by omega) (by omega) (by omega)]; exact g.2.2.2.1
  · refine OI_st ho (Nat.le_refl _) (fun f x y => by funext i; exact eo f i (by omega) (by omega) (by omega)) (fun h _ => eo 10 h (by omega) (by omega) (by omega)) ?_
    intro h hh x1 x2
    have e : h ≠ j := by intro e; subst e; rw [x1] at h7; exact absurd h7 (by decide)
    have sh := sm_F (τ := τ) (υ := υ) hF e (un h e)
    rw [sh.f1 7 rfl, sh.f1 27 rfl, sh.f1 28 rfl, sh.f1 37 rfl, sh.f1 38 rfl, l1_n e]
    exact ⟨x1, x2, rfl, id⟩
  · exact RI_st hri g.1.2.2.2.2.2.2.1 hj a1.1.2.2.1 (by rcases h7 with e | e <;> (rw [e]; decide)) hR (es 15 (by decide)) (es 63 (by decide)) (fun f hf => by funext i; exact eo f i (by omega) (by omega) (by omega)) (fun h _ _ => ⟨eo 7 h (by omega) (by omega) (by omega), eo 11 h (by omega) (by omega) (by omega)⟩)
