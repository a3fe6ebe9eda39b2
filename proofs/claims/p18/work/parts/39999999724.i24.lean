def CV (n pg rm c : Nat) (σ : (Nat → Nat → Int32)) (τ : (Nat → Nat → Int64)) : Prop := ∃ l, INV n pg rm c (2000 * c) (33 * c) c l σ τ
theorem CV_up {n pg rm c : Nat} {σ : (Nat → Nat → Int32)} {τ : (Nat → Nat → Int64)} (hc : c ≤ 511) (H : CV n pg rm c σ τ) : CV n pg rm (c + 1) σ τ := by
  obtain ⟨l, H⟩ := H
  exact ⟨l, INV_mono H (by omega) (by omega) (by omega) (by omega) (by omega) (by omega)⟩
theorem JR_0 {n pg rm c j : Nat} {σ : (Nat → Nat → Int32)} {τ : (Nat → Nat → Int64)} (H : CV n pg rm c σ τ) (hc : c ≤ 511) (h7 : σ 7 j = 1 ∨ σ 7 j = 2 ∨ σ 7 j = 3) : JR n pg rm c j 0 σ τ := by
  obtain ⟨l, H⟩ := H
  exact ⟨l, INV_mono H (by omega) (by omega) (Nat.le_refl _) (by omega) (by omega) (by omega), .inl H.2.2.1.2.1.2, h7⟩
theorem JR_e {n pg rm c j t : Nat} {σ : (Nat → Nat → Int32)} {τ : (Nat → Nat → Int64)} (H : JR n pg rm c j t σ τ) (hc : c ≤ 511) (hj : j < 4) (ht : t ≤ 2000) : CV n pg rm (c + 1) σ τ := by
  obtain ⟨l, H, _, _⟩ := H
  have := ue_le H hj
  exact ⟨l, INV_mono H (by omega) (by omega) (by omega) (by omega) (by omega) (by omega)⟩
theorem CV_nf {n pg rm c : Nat} {σ ς : (Nat → Nat → Int32)} {τ : (Nat → Nat → Int64)} (hc : c ≤ 511) (H : CV n pg rm c σ τ) (e : ∀ f, f ≠ 6 → f ≠ 14 → f ≠ 62 → f ≠ 64 → ς f = σ f) : CV n pg rm (c + 1) ς τ := by
  obtain ⟨l, H⟩ := CV_up hc H
  refine ⟨l, INV_all H (fun h _ => sm_ne (fun f hf => ?_) rfl) (AgE_ne (fun f x y => e f (by omega) (by omega) (by omega) (by omega)) rfl) (by rw [e 4 (by decide) (by decide) (by decide) (by decide)]) ?_ (Nat.le_refl _) (by omega) (Nat.le_refl _) (by omega) ?_ ?_ ?_⟩
  · unfold h_f at hf
    have hf := of_decide_eq_true hf
    exact e f (by omega) (by omega) (by omega) (by omega)
  · intro f i hf; rw [e f (by omega) (by omega) (by omega) (by omega)]; exact INV_by H f i hf
  · obtain ⟨g1, g2, g3, g4, g5, g6, g7⟩ := H.1
    refine ⟨?_, by rw [e 44 (by decide) (by decide) (by decide) (by decide)]; exact g2, by rw [e 50 (by decide) (by decide) (by decide) (by decide)]; exact g3, by rw [e 72 (by decide) (by decide) (by decide) (by decide)]; exact g4, by rw [e 74 (by decide) (by decide) (by decide) (by decide)]; exact g5, by unfold PartOK; rw [e 8 (by decide) (by decide) (by decide) (by decide)]; exact g6, by rw [e 5 (by decide) (by decide) (by decide) (by decide), e 60 (by decide) (by decide) (by decide) (by decide), e 7 (by decide) (by decide) (by decide) (by decide), e 11 (by decide) (by decide) (by decide) (by decide), e 38 (by decide) (by decide) (by decide) (by decide)]; exact g7⟩
    unfold RB; rw [e 0 (by decide) (by decide) (by decide) (by decide), e 1 (by decide) (by decide) (by decide) (by decide), e 2 (by decide) (by decide) (by decide) (by decide), e 3 (by decide) (by decide) (by decide) (by decide), e 4 (by decide) (by decide) (by decide) (by decide)]; exact g1
  · exact OI_nf H.2.2.1 (fun f hf => e f (by omega) (by omega) (by omega) (by omega))
  · exact RI_nf H.2.2.2 (fun f hf => e f (by omega) (by omega) (by omega) (by omega))
theorem m_putl_ne {σ : (Nat → Nat → Int32)} {A F : Nat} {v : Int64} (h : F ≠ 6) : ∀ i, m_putl σ A v i F = σ F
  | 0 => rfl
  | i + 1 => by rw [m_putl, u2_ne h, m_putl_ne h i]
theorem CV_put {n pg rm c A : Nat} {σ : (Nat → Nat → Int32)} {τ : (Nat → Nat → Int64)} {v : Int64} (hc : c ≤ 511) (H : CV n pg rm c σ τ) : CV n pg rm (c + 1) (m_putl σ A v 8) τ := CV_nf hc H (fun f h _ _ _ => m_putl_ne h 8)
theorem CV_com {n pg rm c j kd nn : Nat} {σ ς : (Nat → Nat → Int32)} {τ : (Nat → Nat → Int64)} (hc : c ≤ 511) (H : CV n pg rm c σ τ) (hj : j < 4) (h7 : σ 7 j = 1) (hk : kd ≤ 2) (hn : nn ≤ 32) (p0 : kd = 0 → cl (σ 33 j) < 16 ∧ 1 ≤ nn) (p1 : kd = 1 → cl (σ 35 j) < 4) (e : ∀ f, f ≠ 51 → ς f = σ f) (e51 : ∀ i, i < cl (σ 50 0) → ς 51 i = σ 51 i) : CV n pg rm (c + 1) (m_comes ς j kd nn) (m_comesT ς τ j) ∧ CmOK ς j kd nn := by
  obtain ⟨l, H⟩ := H
  have H1 := INV_51 H (by omega) (by omega) e e51
  have hP : CmP l ς j kd nn := by
    refine ⟨by omega, by omega, ?_, ?_, by omega⟩
    · rw [e 33 (by decide)]; exact p0
    · rw [e 35 (by decide)]; exact fun h => ⟨p1 h, hn⟩
  obtain ⟨r1, r2⟩ := comes_INV H1 hj (by rw [e 7 (by decide)]; exact h7) hP (by omega) (by omega) (by omega) (by omega)
  exact ⟨⟨l, INV_mono r1 (by omega) (by omega) (Nat.le_refl _) (by omega) (by omega) (by omega)⟩, r2⟩
theorem CV_h {n pg rm c j : Nat} {σ : (Nat → Nat → Int32)} {τ : (Nat → Nat → Int64)} (H : CV n pg rm c σ τ) (hj : j < 4) : v_B (256 * pg) j σ ∧ nb (σ 38 j) 100 ∧ KB σ j (cl (σ 38 j)) := by
  obtain ⟨l, H⟩ := H
  have := (H.2.1 j hj).1
  exact ⟨this.1, this.2.2.2.2.2.2.1, fun i hi e => (this.2.2.2.2.2.2.2 i hi).2.2.1 e⟩
theorem nb_ne {x : Int32} {b : Nat} (H : nb x b) (hb : b < 2147483648) (h : ¬ x = nI b) : cl x < b := by
  have := H.2
  have : cl x ≠ b := by intro e; apply h; rw [← e]; exact H.1
  omega
theorem CV_tick {n pg rm c j : Nat} {σ : (Nat → Nat → Int32)} {τ : (Nat → Nat → Int64)} (hc : c ≤ 511) (H : CV n pg rm c σ τ) (hj : j < 4) (h7 : m_isLv σ j) : CV n pg rm (c + 1) (m_comes σ j 2 0) (m_comesT σ τ j) ∧ CmOK σ j 2 0 := CV_com hc H hj h7.1 (by omega) (by omega) (by omega) (by omega) (fun _ _ => rfl) (fun _ _ => rfl)
theorem CV_key {n pg rm c j : Nat} {σ : (Nat → Nat → Int32)} {τ : (Nat → Nat → Int64)} {b : Int32} (hc : c ≤ 511) (H : CV n pg rm c σ τ) (hj : j < 4) (h7 : m_isLv σ j) (h33 : ¬ σ 33 j = 16) : CV n pg rm (c + 1) (m_comes (m_data1 σ b) j 0 1) (m_comesT (m_data1 σ b) τ j) ∧ CmOK (m_data1 σ b) j 0 1 := by
  refine CV_com hc H hj h7.1 (by omega) (by omega) (fun _ => ⟨nb_ne (CV_h H hj).1.2.2.2.1 (by omega) h33, by omega⟩) (by omega) (fun f hf => u2_ne hf) (fun i hi => u2_sn (by omega))
theorem m_pkl_lo {σ : (Nat → Nat → Int32)} {D x : Nat} {a b c d : Int64} (h : x < D) : ∀ i, m_pkl σ D a b c d i 51 x = σ 51 x
  | 0 => rfl
  | i + 1 => by rw [m_pkl, u2_sn (by omega), m_pkl_lo h i]
theorem CV_packet {n pg rm c j N : Nat} {σ : (Nat → Nat → Int32)} {τ : (Nat → Nat → Int64)} {a b d e : Int64} (hc : c ≤ 511) (H : CV n pg rm c σ τ) (hj : j < 4) (h7 : m_isLv σ j) (hN : N ≤ 32) (h35 : ¬ σ 35 j = 4) : CV n pg rm (c + 1) (m_comes (m_pkl σ (cl (σ 50 0)) a b d e N) j 1 N) (m_comesT (m_pkl σ (cl (σ 50 0)) a b d e N) τ j) ∧ CmOK (m_pkl σ (cl (σ 50 0)) a b d e N) j 1 N := by
  refine CV_com hc H hj h7.1 (by omega) hN (by omega) (fun _ => nb_ne (CV_h H hj).1.2.2.2.2.1 (by omega) h35) (fun f hf => m_pkl_ne hf N) (fun i hi => m_pkl_lo hi N)
theorem m_dkd_lo {σ : (Nat → Nat → Int32)} {B D x : Nat} (h : x < D) : ∀ i, m_dkd σ B D i 51 x = σ 51 x
  | 0 => rfl
  | i + 1 => by rw [m_dkd, u2_sn (by omega), m_dkd_lo h i]
theorem dk1_65 {σ : (Nat → Nat → Int32)} {O B : Nat} : m_dk1 σ O B 65 0 = nI O + 1 := by
  unfold m_dk1
  split
  · rw [m_dkw_ne (by decide), u2_ss]
  · rw [u2_ss]
theorem dk1_INV {n pg rm c M E O B : Nat} {l : Nat → Nat} {σ : (Nat → Nat → Int32)} {τ : (Nat → Nat → Int64)} (H : INV n pg rm c M E c l σ τ) (hM : M < 2147470000) (hc : c ≤ 4000) (hO : O = cl (σ 65 0)) (hlt : O < cl (σ 66 0)) : INV n pg rm c M E c l (m_dk1 σ O B) τ := by
  have e : ∀ f, f ≠ 64 → f ≠ 65 → m_dk1 σ O B f = σ f := fun f h1 h2 => m_dk1_ne h1 h2
  have h66 := H.2.2.1.2.1.2
  have c65 : cl (m_dk1 σ O B 65 0) = O + 1 := by rw [dk1_65, nIv_inc, cl_nI (by omega)]
  refine INV_all H (fun h _ => sm_ne (fun f hf => ?_) rfl) (AgE_ne (fun f x y => e f (by omega) (by omega)) rfl) (by rw [e 4 (by decide) (by decide)]) ?_ (Nat.le_refl _) (by omega) (Nat.le_refl _) (by omega) ?_ ?_ ?_
  · unfold h_f at hf
    have hf := of_decide_eq_true hf
    exact e f (by omega) (by omega)
  · intro f i hf; rw [e f (by omega) (by omega)]; exact INV_by H f i hf
  · obtain ⟨g1, g2, g3, g4, g5, g6, g7⟩ := H.1
    refine ⟨?_, by rw [e 44 (by decide) (by decide)]; exact g2, by rw [e 50 (by decide) (by decide)]; exact g3, by rw [e 72 (by decide) (by decide)]; exact g4, by rw [e 74 (by decide) (by decide)]; exact g5, by unfold PartOK; rw [e 8 (by decide) (by decide)]; exact g6, by rw [e 5 (by decide) (by decide), e 60 (by decide) (by decide), e 7 (by decide) (by decide), e 11 (by decide) (by decide), e 38 (by decide) (by decide)]; exact g7⟩
    unfold RB; rw [e 0 (by decide) (by decide), e 1 (by decide) (by decide), e 2 (by decide) (by decide), e 3 (by decide) (by decide), e 4 (by decide) (by decide)]; exact g1
  · obtain ⟨o1, o2, o3⟩ := H.2.2.1
    unfold OI OW
    rw [c65, e 66 (by decide) (by decide), e 67 (by decide) (by decide), e 68 (by decide) (by decide), e 69 (by decide) (by decide), e 70 (by decide) (by decide), e 10 (by decide) (by decide), e 7 (by decide) (by decide), e 27 (by decide) (by decide), e 28 (by decide) (by decide), e 37 (by decide) (by decide), e 38 (by decide) (by decide)]
    refine ⟨?_, o2, ?_⟩
    · rw [dk1_65, nIv_inc]; exact nb_n (by omega) (by omega)
    · intro o h1 h2
      obtain ⟨h, a, a1, a2, a3, a4, a5, a6⟩ := o3 o (by omega) h2
      refine ⟨h, a, a1, a2, a3, a4, a5, ?_⟩
      intro ea
      obtain ⟨w1, w2, w3, w4, w5⟩ := a6 ea
      exact ⟨w1, w2, w3, w4, fun p p1 p2 p3 p4 => w5 p (by omega) p2 p3 p4⟩
  · exact RI_nf H.2.2.2 (fun f hf => e f (by omega) (by omega))
theorem CV_disk {n pg rm c O : Nat} {σ : (Nat → Nat → Int32)} {τ : (Nat → Nat → Int64)} (hc : c ≤ 511) (H : CV n pg rm c σ τ) (hO : O = cl (σ 65 0)) (hlt : O < cl (σ 66 0)) : ∃ j B, j < 4 ∧ B < 8 ∧ σ 67 O = nI j ∧ σ 70 O = nI B ∧ CV n pg rm (c + 1) (m_dk1 σ O B) τ ∧ (m_hears σ O j = true → CV n pg rm (c + 1) (m_comes (m_dk2 σ O B) j 3 (m_dkn σ O)) (m_comesT (m_dk2 σ O B) τ j) ∧ CmOK (m_dk2 σ O B) j 3 (m_dkn σ O)) := by
  obtain ⟨l, H⟩ := H
  obtain ⟨j, a, a1, a2, a3, a4, a5, a6⟩ := H.2.2.1.2.2 O (by omega) hlt
  have H1 := dk1_INV (O := O) (B := cl (σ 70 O)) H (by omega) (by omega) hO hlt
  refine ⟨j, cl (σ 70 O), a1, by have := a3.2; omega, a2, a3.1, ⟨l, INV_mono H1 (by omega) (by omega) (by omega) (by omega) (by omega) (by omega)⟩, ?_⟩
  intro hh
  unfold m_hears at hh
  obtain ⟨h7, h68, h27⟩ := of_decide_eq_true hh
  have hl10 := (H.2.1 j a1).2.2.2.2.1
  have ea : a = cl (σ 10 j) := nIv_inj (by rw [← a4, h68]; exact hl10.1) (by have := hl10.2; omega) (by have := hl10.2; omega)
  obtain ⟨w1, w2, w3, w4, w5⟩ := a6 ea
  have e : ∀ f, f ≠ 51 → m_dk2 σ O (cl (σ 70 O)) f = m_dk1 σ O (cl (σ 70 O)) f := fun f hf => m_dkd_ne hf _
  have e1 : ∀ f, f ≠ 64 → f ≠ 65 → m_dk1 σ O (cl (σ 70 O)) f = σ f := fun f h1 h2 => m_dk1_ne h1 h2
  have H2 := INV_51 H1 (by omega) (by omega) e (fun i hi => by
    rw [e1 50 (by decide) (by decide)] at hi
    exact m_dkd_lo hi _)
  have e2 : ∀ f, f ≠ 51 → f ≠ 64 → f ≠ 65 → m_dk2 σ O (cl (σ 70 O)) f = σ f := fun f h1 h2 h3 => by rw [e f h1, e1 f h2 h3]
  have n64 : m_dkn σ O ≤ 64 := by unfold m_dkn; split <;> omega
  have hP : CmP l (m_dk2 σ O (cl (σ 70 O))) j 3 (m_dkn σ O) := by
    refine ⟨by omega, n64, by omega, by omega, fun _ => ⟨?_, ?_, ?_⟩⟩
    · rw [e2 28 (by decide) (by decide) (by decide)]
      intro h
      unfold m_dkn; rw [if_pos (by rw [w3, h])]
    · rw [e2 37 (by decide) (by decide) (by decide), e2 38 (by decide) (by decide) (by decide)]; exact w4
    · unfold NW
      rw [e 65 (by decide), dk1_65, nIv_inc, cl_nI (by have := H.2.2.1.2.1.2; omega), e2 66 (by decide) (by decide) (by decide), e2 67 (by decide) (by decide) (by decide), e2 68 (by decide) (by decide) (by decide), e2 10 (by decide) (by decide) (by decide)]
      intro o h1 h2 ⟨h3, h4⟩
      have := w5 o (by omega) h2 h3 (by rw [h4, ea]; exact hl10.1)
      omega
  obtain ⟨r1, r2⟩ := comes_INV H2 a1 (by rw [e2 7 (by decide) (by decide) (by decide)]; exact h7) hP (by omega) (by omega) (by omega) (by omega)
  exact ⟨⟨l, INV_mono r1 (by omega) (by omega) (Nat.le_refl _) (by omega) (by omega) (by omega)⟩, r2⟩
