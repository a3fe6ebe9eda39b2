def RunC (j N : Nat) (J : Nat → (Nat → Nat → Int32) → (Nat → Nat → Int64) → Prop) : Prop := ∀ t σ τ, t < N → J t σ τ → (TkPre σ j ∧ (m_tkc σ τ j = true → TkOK σ j ∧ J t (m_take1 σ j) τ)) ∧ ((σ 7 j = 1 ∨ (m_tkr σ j = true ∧ m_tkc σ τ j = false)) → ExOK σ j ∧ (m_stuck σ j = false → m_stall σ j = true → J t (u2 σ 20 j 0) τ) ∧ (m_stuck σ j = false → m_stall σ j = false → PostOK (m_stx σ τ j) j ∧ J (t + 1) (m_nx0 σ τ j) (m_stT σ τ j)))
def ue (σ : (Nat → Nat → Int32)) (j : Nat) : Nat := if σ 11 j = 0 then 0 else cl (σ 55 j)
def JR (n pg rm c j t : Nat) (σ : (Nat → Nat → Int32)) (τ : (Nat → Nat → Int64)) : Prop := ∃ l, INV n pg rm c (2000 * c + t) (33 * c + ue σ j) (c + 1) l σ τ ∧ OJ c j σ ∧ (σ 7 j = 1 ∨ σ 7 j = 2 ∨ σ 7 j = 3)
theorem INV_E {n pg rm c M E F q : Nat} {l : Nat → Nat} {σ : (Nat → Nat → Int32)} {τ : (Nat → Nat → Int64)} (H : INV n pg rm c M E q l σ τ) (h : E ≤ F) : INV n pg rm c M F q l σ τ := ⟨⟨H.1.1, nb_mono H.1.2.1 h, H.1.2.2⟩, H.2⟩
theorem ue_le {n pg rm c M E q j : Nat} {l : Nat → Nat} {σ : (Nat → Nat → Int32)} {τ : (Nat → Nat → Int64)} (H : INV n pg rm c M E q l σ τ) (hj : j < 4) : ue σ j ≤ 32 := by
  unfold ue
  have hrm : rm ≤ 32 := H.1.1.2.2.2.2.2.2.2.2.2.2
  split
  · omega
  · rename_i h
    have := ((H.2.1 j hj).2.1 h).2.1.2; omega
theorem INV_20 {n pg rm c M E q j : Nat} {l : Nat → Nat} {σ : (Nat → Nat → Int32)} {τ : (Nat → Nat → Int64)} {v : Int32} (H : INV n pg rm c M E q l σ τ) (hj : j < 4) (h7 : σ 7 j = 1) (hM : M < 2147470000) (hc : c ≤ 4200) : INV n pg rm c M E q l (u2 σ 20 j v) τ := by
  obtain ⟨g, hs, ho, hri⟩ := H
  have hrm : rm ≤ 32 := g.1.2.2.2.2.2.2.2.2.2.2
  have e : ∀ f, f ≠ 20 → u2 σ 20 j v f = σ f := fun f hf => u2_ne hf
  have ecv : ∀ h, cv (256 * pg) h (u2 σ 20 j v) = cv (256 * pg) h σ := by
    intro h; apply cv_eq; intro f i h1 h2 h3 h4 h5 h6; rw [e f h4]
  have ehv : ∀ h, hv (256 * pg) l (u2 σ 20 j v) τ h = hv (256 * pg) l σ τ h := by
    intro h; unfold hv; rw [ecv]
  obtain ⟨a1, a2, a3, a4, a5, a6, a0⟩ := hs j hj
  have sm : ∀ h, h ≠ j → Sm h σ (u2 σ 20 j v) τ τ := by
    intro h hh
    refine ⟨?_, rfl⟩
    intro f i _ hi
    by_cases ef : f = 20
    · subst ef
      have hi : i < 1 := hi
      rw [show h_s 20 = 1 from rfl, u2_sn (by omega)]
    · rw [e f ef]
  have ag : AgE σ (u2 σ 20 j v) τ τ := AgE_ne (fun f x y => e f (by omega)) rfl
  have nhj : HI (256 * pg) M l (u2 σ 20 j v) τ j := by
    obtain ⟨b1, b2, b3, b4, b5, b6, b7, b8⟩ := a1
    refine ⟨?_, b2, b3, ?_⟩
    · obtain ⟨d1, d2, d3, d4, d5, d6, d7, d9, d8⟩ := b1
      refine ⟨by rw [e 4 (by omega)]; exact d1, d2, d3, by rw [e 33 (by omega)]; exact d4, by rw [e 35 (by omega)]; exact d5, by rw [e 34 (by omega)]; exact d6, by rw [e 30 (by omega)]; exact d7, by rw [e 29 (by omega)]; exact d9, ?_⟩
      intro f i hf
      rw [e f (by omega)]; exact d8 f i hf
    · unfold KI
      rw [e 37 (by omega), e 38 (by omega), e 39 (by omega), e 40 (by omega), e 41 (by omega), e 42 (by omega), e 27 (by omega), e 28 (by omega), e 29 (by omega)]
      exact ⟨b4, b5, b6, b7, b8⟩
  refine INV_host ⟨g, hs, ho, hri⟩ hj (fun h _ hh => sm h hh) ag (by rw [e 4 (by omega)]) nhj.1.2.2.2.2.2.2.2.2 (fun _ _ => rfl) (Nat.le_refl _) (by omega) (Nat.le_refl _) hc ?_ ?_ ?_ (OI_nf ho (fun f hf => e f (by omega))) (RI_nf hri (fun f hf => e f (by omega)))
  · refine ⟨nhj, ?_, ?_, ?_, ?_, CB_nf a6 (fun f x y => e f (by omega)), by rw [e 7 (by omega), e 11 (by omega)]; exact a0⟩
    · rw [e 11 (by omega)]
      intro h
      obtain ⟨z1, z2, z3, z4, z5, z6, z7⟩ := a2 h
      unfold CI
      rw [e 53 (by omega), e 55 (by omega), e 56 (by omega), e 52 (by omega), e 54 (by omega), e 44 (by omega), e 12 (by omega), e 38 (by omega)]
      refine ⟨z1, z2, z3, z4, z5, fun h => ⟨(z6 h).1, ?_⟩, z7⟩
      rw [← (z6 h).2]
      exact cnt_eq _ (fun x hx => by rw [e 45 (by omega), e 54 (by omega)])
    · rw [e 7 (by omega), e 11 (by omega), e 38 (by omega)]; exact a3
    · rw [e 7 (by omega), h7]; intro h; exact absurd h (by decide)
    · rw [e 10 (by omega)]; exact a5
  · intro b _ _ _ li
    have li' : isLO σ b j := isLO_sm (fun f hf => by rw [e f (by omega)]) (fun f x y => by rw [e f (by omega)]) li
    refine ⟨li', ?_⟩
    intro kb hch
    have ech : chL (u2 σ 20 j v) j = chL σ j := by unfold chL; rw [e 53 (by omega), e 52 (by omega)]
    rw [ech, ehv]; exact hch
  · refine GI_st g hj (.inl h7) (fun f i hf => by rw [e f (by omega)]) ?_ ?_ ?_ ?_
    · rw [e 44 (by omega)]; exact g.2.1
    · rw [e 50 (by omega)]; exact g.2.2.1
    · rw [e 72 (by omega)]; exact g.2.2.2.1
    · rw [e 74 (by omega)]; exact g.2.2.2.2.1
theorem run_C {n pg rm c j : Nat} (hc : c ≤ 511) (hj : j < 4) : RunC j 2000 (JR n pg rm c j) := by
  intro t σ τ ht ⟨l, H, oj, h7⟩
  have H' := H
  obtain ⟨g, hs, ho, hri⟩ := H
  have hu := ue_le H' hj
  have hrm : rm ≤ 32 := g.1.2.2.2.2.2.2.2.2.2.2
  obtain ⟨a1, a2, a3, a4, a5, a6, a0⟩ := hs j hj
  refine ⟨⟨⟨nb_mono a6.1 (by omega), nb_mono a6.2.1 (by omega), fun h => a6.2.2.2 _ (Nat.le_refl _) h⟩, ?_⟩, ?_⟩
  · intro hk
    unfold m_tkc at hk
    obtain ⟨k1, k2, k3⟩ := of_decide_eq_true hk
    have h7' : σ 7 j = 2 ∨ σ 7 j = 3 := by
      rcases h7 with h | h
      · exact absurd h k1
      · exact h
    obtain ⟨t1, t2, t3⟩ := tk_INV H' oj hj h7' k2 k3 (by omega) (by omega)
    have e11 : σ 11 j = 0 := (a4 h7').1
    have ek : cl (σ 38 j) ≤ 33 := by
      obtain ⟨_, _, _, _, _, _, X, W, kb, b6, b7, _⟩ := a4 h7'; omega
    refine ⟨⟨t3, nb_mono a1.2.2.2.2.2.2.1 (by omega), g.2.2.2.1, nb_mono ho.2.1 (by omega), ?_⟩, l, ?_, t2, ?_⟩
    · intro i hi e; exact (a1.2.2.2.2.2.2.2 i hi).2.2.1 e
    · refine INV_E t1 ?_
      unfold ue; rw [if_pos e11]; omega
    · -- the state afterwards
      unfold m_take1
      by_cases e3 : σ 7 j = 3 ∧ cl (σ 58 j) + 1 = cl (σ 59 j)
      · left
        have := t1.2.1 j hj
        rw [if_pos e3]
        have e7 : m_go0 (m_tk3 σ j) j 7 j = 1 := by unfold m_go0; rw [u2_ne (by decide), u2_ne (by decide), u2_ne (by decide), u2_ss]
        unfold m_goLive
        split
        · rw [m_oper_ne (by decide) (by decide) (by decide) (by decide) (by decide), m_gow_ne (by decide), m_lall_ne (by decide) (by decide) (by decide) (by decide) (by decide) (by decide) (by decide) (by decide) (by decide) (by decide) (by decide) (by decide) (by decide) (by decide)]; exact e7
        · rw [m_lall_ne (by decide) (by decide) (by decide) (by decide) (by decide) (by decide) (by decide) (by decide) (by decide) (by decide) (by decide) (by decide) (by decide) (by decide)]; exact e7
      · rw [if_neg e3, m_tk3_ne (by decide) (by decide) (by decide) (by decide) (by decide) (by decide) (by decide) (by decide) (by decide) (by decide) (by decide) (by decide) (by decide) (by decide) (by decide) (by decide)]
        exact h7
  · intro hlv
    have b := a1.1
    refine ⟨⟨b.2.2.2.1, nb_mono a1.2.2.2.2.2.2.1 (by omega), b.2.2.2.2.1, b.2.2.2.2.2.1 0 (by decide), 256 * pg, b.1, b.2.2.1, by have := b.2.1; omega⟩, ?_, ?_⟩
    · intro _ hst
      have h7l : σ 7 j = 1 := by
        unfold m_stall m_full at hst
        rw [Bool.and_eq_true, Bool.and_eq_true] at hst
        exact (of_decide_eq_true hst.1.2).1
      refine ⟨l, ?_, ?_, ?_⟩
      · have e : ue (u2 σ 20 j 0) j = ue σ j := by unfold ue; rw [u2_ne (by decide), u2_ne (by decide)]
        rw [e]; exact INV_20 H' hj h7l (by omega) (by omega)
      · exact OJ_st oj (fun f x y => u2_ne (by omega)) (by rw [u2_ne (by decide)])
      · rw [u2_ne (by decide)]; exact h7
    · intro _ hst
      by_cases hl : σ 7 j = 1
      · by_cases h11 : σ 11 j = 0
        · obtain ⟨r1, r2, r3, r4, r5⟩ := lu_step H' oj hj hl h11 (by omega) (by omega)
          refine ⟨r5, l1 l σ τ j, ?_, r2, .inl r3⟩
          refine INV_E r1 ?_
          unfold ue; rw [if_pos h11]; omega
        · obtain ⟨⟨E', e1, r1⟩, r2, r3, r4, r5⟩ := lb_step H' oj hj hl h11 hst (by omega) (by omega) (by omega)
          refine ⟨r5, l1 l σ τ j, ?_, r2, .inl r3⟩
          refine INV_E r1 ?_
          unfold ue at e1 ⊢; rw [if_neg h11] at e1; rw [if_neg r4]; omega
      · have h7' : σ 7 j = 2 ∨ σ 7 j = 3 := by
          rcases h7 with h | h
          · exact absurd h hl
          · exact h
        have hk : cl (σ 58 j) < cl (σ 59 j) ∧ ¬ τ 49 (m_tkE σ j) = τ 19 j := by
          rcases hlv with h | ⟨h1, h2⟩
          · exact absurd h hl
          · unfold m_tkr at h1
            unfold m_tkc at h2
            have h1 := of_decide_eq_true h1
            have h2 := of_decide_eq_false h2
            have h3 : cl (σ 58 j) < cl (σ 59 j) := by
              rcases h1 with h | h
              · exact absurd h hl
              · exact h
            exact ⟨h3, fun h => h2 ⟨hl, h3, h⟩⟩
        have q7 : m_stx σ τ j 7 j = σ 7 j := st_7 a1 (by omega) (by omega) (by omega)
        have q11 : m_stx σ τ j 11 j = σ 11 j := st_7 a1 (by omega) (by omega) (by omega)
        have eS : m_stS σ τ j = u2 (m_stx σ τ j) 74 0 0 := by
          unfold m_stS m_pst; rw [if_neg (fun h => hl (q7 ▸ h.1))]
        have eN : m_nx0 σ τ j = u2 (u2 (m_stx σ τ j) 74 0 0) 74 0 0 := by
          unfold m_nx0; rw [eS, if_neg (by rw [u2_ne (by decide), q7]; exact hl)]
        have eT : m_stT σ τ j = t2 τ 19 j (τ 19 j + 1) := by
          unfold m_stT m_psT; rw [if_neg (fun h => hl (q7 ▸ h.1))]
        have r1 := bk_step (ς := m_nx0 σ τ j) (υ := m_stT σ τ j) H' hj h7' hk.1 hk.2 (by omega) (by omega) (fun f hf => by rw [eN, u2_ne hf, u2_ne hf]) (by rw [eN, u2_ss]) eT
        refine ⟨fun h => absurd (q7 ▸ h) hl, l1 l σ τ j, ?_, ?_, ?_⟩
        · refine INV_E r1 ?_
          unfold ue; rw [if_pos (a4 h7').1]; omega
        · exact OJ_st oj (fun f x y => by funext i; rw [eN, u2_ne (by omega), u2_ne (by omega)]; exact st_7 a1 (by omega) (by omega) (by omega)) (by rw [eN, u2_ne (by decide), u2_ne (by decide)]; exact st_7 a1 (by omega) (by omega) (by omega))
        · rw [eN, u2_ne (by decide), u2_ne (by decide), q7]; exact h7
