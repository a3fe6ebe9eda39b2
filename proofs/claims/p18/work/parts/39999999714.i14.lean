theorem mxEv {S j e : Nat} {σ : (Nat → Nat → Int32)} (H : EvOK (mx σ (cv S j σ)) 0 e) : EvOK σ j e := by
  unfold EvOK at *
  simp only [mx_D (show 44 ≤ 45 ∧ 45 ≤ 51 by omega), mx_D (show 44 ≤ 47 ∧ 47 ≤ 51 by omega), mx_D (show 44 ≤ 48 ∧ 48 ≤ 51 by omega), mx_V (show ¬ (44 ≤ 33 ∧ 33 ≤ 51) by omega), mx_V (show ¬ (44 ≤ 35 ∧ 35 ≤ 51) by omega), mx_V (show ¬ (44 ≤ 28 ∧ 28 ≤ 51) by omega), mx_V (show ¬ (44 ≤ 30 ∧ 30 ≤ 51) by omega)] at H
  rw [cv_1 rfl, cv_1 rfl, cv_1 rfl, cv_1 rfl] at H
  exact H
theorem EvOK_58 {j e : Nat} {σ : (Nat → Nat → Int32)} {v : Int32} (H : EvOK σ j e) : EvOK (u2 σ 58 j v) j e := by
  unfold EvOK at *
  rw [u2_ne (by decide), u2_ne (by decide), u2_ne (by decide), u2_ne (by decide), u2_ne (by decide), u2_ne (by decide), u2_ne (by decide)]
  exact H
theorem v_B_58 {S j f i : Nat} {σ : (Nat → Nat → Int32)} {v : Int32} (hf : 43 < f) (H : v_B S j σ) : v_B S j (u2 σ f i v) := v_B_g H (by omega) (by omega) (by omega) (by omega) (by omega) (by omega) (by omega)
theorem ev_27 {j e : Nat} {σ : (Nat → Nat → Int32)} : (cl (σ 45 e) = 3 → m_ev σ j e 27 j = 2) ∧ (¬ cl (σ 45 e) = 3 → m_ev σ j e 27 = σ 27) := by
  unfold m_ev m_event
  refine ⟨?_, ?_⟩
  · intro h
    rw [if_neg (by omega), if_neg (by omega), if_neg (by omega), if_pos h]
    by_cases e1 : σ 28 j = 1
    · rw [if_pos e1, m_evd_ne (by decide) (by decide), u2_ss]
    · rw [if_neg e1, u2_ss]
  · intro h
    by_cases e0 : cl (σ 45 e) = 0
    · rw [if_pos e0, u2_ne (by decide), u2_ne (by decide)]
    rw [if_neg e0]
    by_cases e0 : cl (σ 45 e) = 1
    · rw [if_pos e0, u2_ne (by decide), m_evp_ne (by decide), u2_ne (by decide)]
    rw [if_neg e0]
    by_cases e0 : cl (σ 45 e) = 2
    · rw [if_pos e0, u2_ne (by decide)]
    rw [if_neg e0, if_neg h]
theorem tk_HI {S M j : Nat} {l : Nat → Nat} {σ : (Nat → Nat → Int32)} {τ : (Nat → Nat → Int64)} (H : HI S M l σ τ j) (hM : M < 2147480000) (h33 : cl (σ 38 j) ≤ 100) (en : EnAt σ τ M (m_tkE σ j) (hv S l σ τ j)) : HI S M l (m_tk3 σ j) τ j ∧ hv S l (m_tk3 σ j) τ j = ge S σ (m_tkE σ j) (hv S l σ τ j) ∧ cl (m_tk3 σ j 38 j) ≤ 32 ∧ v_R S j (u2 σ 58 j (nI (cl (σ 58 j)) + 1)) (m_tk2 σ j) ∧ ∀ h, h ≠ j → Sm h σ (m_tk3 σ j) τ τ := by
  obtain ⟨a1, a2, a3, a4, a5, a6, a7, a8⟩ := H
  obtain ⟨n1, n2, n3, n4, n5, n6, n7⟩ := en
  have h127 : nb (σ 38 j) 127 := nb_mono a7 (by omega)
  have ok := mxEv n3
  have hR : v_R S j (u2 σ 58 j (nI (cl (σ 58 j)) + 1)) (m_tk2 σ j) := ev_R (v_B_58 (by decide) a1) (by rw [u2_ne (by decide)]; exact h127) (EvOK_58 ok)
  have e38 : m_tk2 σ j 38 j = nI (cl (σ 38 j)) := by
    rw [m_tk2_ne (by decide) (by decide) (by decide) (by decide) (by decide) (by decide) (by decide) (by decide) (by decide) (by decide)]; exact a7.1
  obtain ⟨k', q1, q2, q3, q4, q5⟩ := drs_sp (L := σ 46 (m_tkE σ j)) (j := j) (cl (σ 38 j)) (m_tk2 σ j) e38 (by omega)
  change m_tk3 σ j 38 j = _ at q2
  change ∀ F i, 39 ≤ F → F ≤ 42 → i < k' → m_tk3 σ j F (128 * j + i) = _ at q3
  change 0 < k' → ¬ m_tk3 σ j 42 (128 * j) ≤ _ at q4
  change ∀ h, h ≠ j → ∀ τ : (Nat → Nat → Int64), Sm h (m_tk2 σ j) (m_tk3 σ j) τ τ at q5
  have ne : ∀ f, f < 38 ∨ 43 < f → m_tk3 σ j f = m_tk2 σ j f := fun f hf => m_drs_ne (by omega) (by omega) (by omega) (by omega) (by omega) (by omega) _ _
  have o37 : ou (hv S l σ τ j) = cl (σ 37 j) := ou_hv
  have e37 : m_tk3 σ j 37 = σ 37 := by
    rw [ne 37 (by omega), m_tk2_ne (by decide) (by decide) (by decide) (by decide) (by decide) (by decide) (by decide) (by decide) (by decide) (by decide)]
  have t39 : ∀ f, 39 ≤ f → f ≤ 42 → m_tk2 σ j f = σ f := fun f _ _ => m_tk2_ne (by omega) (by omega) (by omega) (by omega) (by omega) (by omega) (by omega) (by omega) (by omega) (by omega)
  have hk100 : cl (σ 38 j) ≤ cl (σ 37 j) := a6.2
  have h37 : cl (σ 37 j) < 2147480000 := by have := a4.2; omega
  have c38 : cl (m_tk3 σ j 38 j) = k' := by rw [q2, cl_nI (by omega)]
  have num : ∀ i, i < k' → m_tk3 σ j 42 (128 * j + i) = nI (cl (σ 37 j) - k' + 1 + i) := by
    intro i hi
    rw [q3 42 i (by decide) (by decide) hi, t39 42 (by decide) (by decide), (a8 _ (by omega)).1]
    congr 1; omega
  have big : 0 < k' → cl (σ 46 (m_tkE σ j)) < cl (σ 37 j) - k' + 1 := by
    intro h0
    have := q4 h0
    rw [show 128 * j = 128 * j + 0 from rfl, num 0 h0, n5.1, nIv_le (by omega) (by have := n5.2; omega)] at this
    omega
  have k32 : k' ≤ 32 := by
    by_cases h0 : 0 < k'
    · have := big h0; rw [o37] at n6; omega
    · omega
  have e28 : ∀ f, f = 28 ∨ f = 29 → m_tk3 σ j f = σ f := by
    intro f hf
    rw [ne f (by omega), m_tk2_ne (by omega) (by omega) (by omega) (by omega) (by omega) (by omega) (by omega) (by omega) (by omega) (by omega)]
  have e27 : (cl (σ 45 (m_tkE σ j)) = 3 → m_tk3 σ j 27 j = 2) ∧ (¬ cl (σ 45 (m_tkE σ j)) = 3 → m_tk3 σ j 27 j = σ 27 j) := by
    have := ev_27 (j := j) (e := m_tkE σ j) (σ := u2 σ 58 j (nI (cl (σ 58 j)) + 1))
    rw [u2_ne (by decide), u2_ne (by decide)] at this
    rw [ne 27 (by omega)]
    exact ⟨this.1, fun h => by rw [show m_tk2 σ j 27 = _ from this.2 h]⟩
  have eB : v_B S j (m_tk3 σ j) := by
    obtain ⟨b1, b2, b3, b4, b5, b6, b7, b9, b8⟩ := hR.2.2.1
    refine ⟨by rw [ne 4 (by omega)]; exact b1, b2, b3, by rw [ne 33 (by omega)]; exact b4, by rw [ne 35 (by omega)]; exact b5, by rw [ne 34 (by omega)]; exact b6, by rw [ne 30 (by omega)]; exact b7, by rw [ne 29 (by omega)]; exact b9, ?_⟩
    intro f i hf
    rw [ne f (by omega)]; exact b8 f i hf
  refine ⟨⟨eB, a2, a3, by rw [e37]; exact a4, by rw [e37]; exact a5, ?_, ?_, ?_⟩, ?_, by rw [c38]; exact k32, hR, ?_⟩
  · rw [e37, q2]; exact nb_n (by omega) (by omega)
  · rw [q2]; exact nb_n (by omega) (by omega)
  · intro i hi
    rw [c38] at hi ⊢
    obtain ⟨_, w2, w3, w4⟩ := a8 (i + (cl (σ 38 j) - k')) (by omega)
    rw [q3 39 i (by decide) (by decide) hi, q3 40 i (by decide) (by decide) hi, q3 41 i (by decide) (by decide) hi, t39 39 (by decide) (by decide), t39 40 (by decide) (by decide), t39 41 (by decide) (by decide), e37, e28 28 (.inl rfl), e28 29 (.inr rfl)]
    refine ⟨num i hi, w2, w3, ?_⟩
    intro e
    obtain ⟨x1, x2, x3, x4⟩ := w4 e
    have x5 : l j = cl (σ 37 j) - k' + 1 + i := by omega
    refine ⟨?_, x2, x3, x5⟩
    by_cases h3 : cl (σ 45 (m_tkE σ j)) = 3
    · exfalso
      have y1 : l j ≤ cl (σ 46 (m_tkE σ j)) := n7 h3
      have := big (by omega); omega
    · rw [e27.2 h3]; exact x1
  · have cvv : cv S j (m_tk3 σ j) = cv S j (m_tk2 σ j) := by
      apply cv_eq; intro f i h1 h2 h3 h4 h5 h6; rw [ne f (by omega)]
    have cv5 : cv S j (u2 σ 58 j (nI (cl (σ 58 j)) + 1)) = cv S j σ := by
      apply cv_eq; intro f i h1 h2 h3 h4 h5 h6; rw [u2_ne (by omega)]
    have gg := ge_ev (S := S) (j := j) (e := m_tkE σ j) (m := mc τ j) (l := l j) (D := σ) (σ := u2 σ 58 j (nI (cl (σ 58 j)) + 1)) (v_B_58 (by decide) a1) (by rw [u2_ne (by decide)]; exact h127) (fun f h1 h2 => by rw [u2_ne (by omega)]) (EvOK_58 ok) ⟨fun _ => by rw [u2_ne (by decide)], fun _ _ _ => by rw [u2_ne (by decide)], fun _ _ _ _ => by rw [u2_ne (by decide)]⟩
    rw [cv5] at gg
    show (cv S j (m_tk3 σ j), mc τ j, l j) = ge S σ (m_tkE σ j) (cv S j σ, mc τ j, l j)
    rw [gg, cvv]; rfl
  · intro h hh
    have s1 : Sm h σ (u2 σ 58 j (nI (cl (σ 58 j)) + 1)) τ τ := by
      refine ⟨?_, rfl⟩
      intro f i hf hi
      by_cases e : f = 58
      · subst e
        have : i = 0 := by have hi : i < 1 := hi; omega
        subst this
        rw [u2_sn (by show 1 * h + 0 ≠ j; omega)]
      · rw [u2_ne e]
    exact (s1.tr (sm_F hR.1 hh rfl)).tr (q5 h hh τ)
