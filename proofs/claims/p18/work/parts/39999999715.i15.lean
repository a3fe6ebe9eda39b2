theorem leave_sm {j h k : Nat} {σ : (Nat → Nat → Int32)} {τ : (Nat → Nat → Int64)} (hk : k ≤ 128) (e : h ≠ j) : Sm h σ (m_leave σ j k) τ τ := by
  have s1 : Sm h σ (m_lv0 σ j) τ τ := sm_ne (fun f hf => by
    unfold h_f at hf
    have hf := of_decide_eq_true hf
    exact m_lv0_ne (by omega) (by omega) (by omega) (by omega) (by omega) (by omega) (by omega) (by omega)) rfl
  exact s1.tr (drop_sm (υ := τ) hk e rfl)
theorem leave_nf {j k f : Nat} {σ : (Nat → Nat → Int32)} (h : f < 38 ∨ (43 < f ∧ f < 66) ∨ 73 < f) : m_leave σ j k f = σ f := m_leave_ne (by omega) (by omega) (by omega) (by omega) (by omega) (by omega) (by omega) (by omega) (by omega) (by omega) (by omega) (by omega) (by omega) (by omega)
theorem v_B_nf {S j : Nat} {σ ς : (Nat → Nat → Int32)} (H : v_B S j σ) (e : ∀ f, f = 4 ∨ (15 ≤ f ∧ f ≤ 37) → ς f = σ f) : v_B S j ς := by
  obtain ⟨b1, b2, b3, b4, b5, b6, b7, b9, b8⟩ := H
  refine ⟨by rw [e 4 (by omega)]; exact b1, b2, b3, by rw [e 33 (by omega)]; exact b4, by rw [e 35 (by omega)]; exact b5, by rw [e 34 (by omega)]; exact b6, by rw [e 30 (by omega)]; exact b7, by rw [e 29 (by omega)]; exact b9, ?_⟩
  intro f i hf
  rw [e f (by omega)]; exact b8 f i hf
theorem cv_nf {S j : Nat} {σ ς : (Nat → Nat → Int32)} (e : ∀ f, 15 ≤ f → f ≤ 37 → ς f = σ f) : cv S j ς = cv S j σ := by
  apply cv_eq; intro f i h1 h2 h3 h4 h5 h6; rw [e f h1 h2]
theorem hv_nf {S j : Nat} {l : Nat → Nat} {σ ς : (Nat → Nat → Int32)} {τ υ : (Nat → Nat → Int64)} (e : ∀ f, 15 ≤ f → f ≤ 37 → ς f = σ f) (h : υ 19 j = τ 19 j) : hv S l ς υ j = hv S l σ τ j := by
  unfold hv mc; rw [cv_nf e, h]
theorem HI_leave {S M j k : Nat} {l : Nat → Nat} {σ : (Nat → Nat → Int32)} {τ : (Nat → Nat → Int64)} (H : HI S M l σ τ j) (hM : M < 2147480000) (hk : cl (σ 38 j) = k + 1) : HI S M l (m_leave σ j k) τ j := by
  obtain ⟨a1, a2, a3, a4, a5, a6, a7, a8⟩ := H
  have nf : ∀ f, f = 4 ∨ (15 ≤ f ∧ f ≤ 37) → m_leave σ j k f = σ f := fun f hf => leave_nf (by omega)
  have h100 := a7.2
  have h37 := a4.2
  have h3 := a6.2
  have c38 : cl (m_leave σ j k 38 j) = k := by rw [m_leave_38, cl_nI (by omega)]
  refine ⟨v_B_nf a1 nf, a2, a3, by rw [nf 37 (by omega)]; exact a4, by rw [nf 37 (by omega)]; exact a5, ?_, ?_, ?_⟩
  · rw [m_leave_38, nf 37 (by omega)]; exact nb_n (by omega) (by omega)
  · rw [m_leave_38]; exact nb_n (by omega) (by omega)
  · intro i hi
    rw [c38] at hi ⊢
    have := a8 (i + 1) (by omega)
    rw [hk] at this
    rw [m_leave_lo (by omega) hi, m_leave_lo (by omega) hi, m_leave_lo (by omega) hi, m_leave_lo (by omega) hi, nf 37 (by omega), nf 27 (by omega), nf 28 (by omega), nf 29 (by omega)]
    have en : cl (σ 37 j) - (k + 1) + 1 + (i + 1) = cl (σ 37 j) - k + 1 + i := by omega
    rw [en] at this
    exact this
def OJ (c j : Nat) (σ : (Nat → Nat → Int32)) : Prop := cl (σ 66 0) ≤ c ∨ (cl (σ 66 0) ≤ c + 1 ∧ ∃ o, cl (σ 65 0) ≤ o ∧ o < cl (σ 66 0) ∧ σ 67 o = nI j ∧ σ 68 o = σ 10 j)
theorem OJ_st {c j : Nat} {σ ς : (Nat → Nat → Int32)} (H : OJ c j σ) (e : ∀ f, 65 ≤ f → f ≤ 70 → ς f = σ f) (e10 : ς 10 j = σ 10 j) : OJ c j ς := by
  unfold OJ
  rw [e 65 (by decide) (by decide), e 66 (by decide) (by decide), e 67 (by decide) (by decide), e 68 (by decide) (by decide), e10]
  exact H
def NW (j : Nat) (σ : (Nat → Nat → Int32)) : Prop := ∀ o, cl (σ 65 0) ≤ o → o < cl (σ 66 0) → ¬ (σ 67 o = nI j ∧ σ 68 o = σ 10 j)
theorem oper_sp {c j P : Nat} {l : Nat → Nat} {σ ς : (Nat → Nat → Int32)} {k b : Int32} (O : OI (c + 1) l σ) (oj : OJ c j σ) (nw : NW j σ) (hj : j < 4) (hc : c ≤ 4000) (h10 : nb (σ 10 j) c) (hP : P = cl (σ 66 0)) (e : ∀ f, f ≠ 71 → ς f = m_oper σ j P k b f) (h7 : σ 7 j = 1) (h27 : σ 27 j = 1) (hk : k = σ 28 j) (hb : nb b 7) (hl : l j ≤ cl (σ 37 j) - cl (σ 38 j)) : OI (c + 1) l ς ∧ OJ c j ς := by
  subst hP
  obtain ⟨o1, o2, o3⟩ := O
  have ec : cl (σ 66 0) ≤ c := by
    rcases oj with h | ⟨_, o, h1, h2, h3⟩
    · exact h
    · exact absurd h3 (nw o h1 h2)
  have e66 : ς 66 0 = nI (cl (σ 66 0) + 1) := by
    rw [e 66 (by decide)]; unfold m_oper; rw [u2_ss]
    exact (cl_inc o2 (by omega)).1
  have c66 : cl (ς 66 0) = cl (σ 66 0) + 1 := by rw [e66, cl_nI (by omega)]
  have e65 : ς 65 = σ 65 := by rw [e 65 (by decide), m_oper_ne (by decide) (by decide) (by decide) (by decide) (by decide)]
  have nf : ∀ f, f < 66 → ς f = σ f := fun f hf => by rw [e f (by omega), m_oper_ne (by omega) (by omega) (by omega) (by omega) (by omega)]
  have lo : ∀ f o, 67 ≤ f → f ≤ 70 → o < cl (σ 66 0) → ς f o = σ f o := by
    intro f o h1 h2 ho
    have q : ∀ {x : (Nat → Nat → Int32)} {F : Nat} {v : Int32}, u2 x F (cl (σ 66 0)) v f o = x f o := by
      intro x F v
      by_cases e : f = F
      · subst e; exact u2_sn (by omega)
      · rw [u2_ne e]
    rw [e f (by omega)]; unfold m_oper
    rw [u2_ne (by omega), q, q, q, q]
  have n67 : ς 67 (cl (σ 66 0)) = nI j := by
    rw [e 67 (by decide)]; unfold m_oper
    rw [u2_ne (by decide), u2_ne (by decide), u2_ne (by decide), u2_ne (by decide), u2_ss]
  have n68 : ς 68 (cl (σ 66 0)) = σ 10 j := by
    rw [e 68 (by decide)]; unfold m_oper
    rw [u2_ne (by decide), u2_ne (by decide), u2_ne (by decide), u2_ss, ]
  have n69 : ς 69 (cl (σ 66 0)) = k := by
    rw [e 69 (by decide)]; unfold m_oper
    rw [u2_ne (by decide), u2_ne (by decide), u2_ss]
  have n70 : ς 70 (cl (σ 66 0)) = b := by
    rw [e 70 (by decide)]; unfold m_oper
    rw [u2_ne (by decide), u2_ss]
  have hF := o1.2
  refine ⟨⟨?_, ?_, ?_⟩, .inr ⟨by omega, cl (σ 66 0), by rw [e65]; exact hF, by omega, n67, by rw [n68, nf 10 (by decide)]⟩⟩
  · rw [e65, c66]; exact nb_mono o1 (by omega)
  · rw [e66]; exact nb_n (by omega) (by omega)
  · rw [e65, c66]
    intro o h1 h2
    by_cases en : o = cl (σ 66 0)
    · subst en
      refine ⟨j, cl (σ 10 j), hj, n67, by rw [n70]; exact hb, by rw [n68]; exact h10.1, by rw [nf 10 (by decide)]; exact Nat.le_refl _, ?_⟩
      intro _
      refine ⟨by rw [nf 7 (by decide)]; exact h7, by rw [nf 27 (by decide)]; exact h27, by rw [n69, nf 28 (by decide)]; exact hk, by rw [nf 37 (by decide), nf 38 (by decide)]; exact hl, ?_⟩
      intro p p1 p2 p3 p4
      by_cases ep : p = cl (σ 66 0)
      · exact ep
      · rw [lo 67 p (by decide) (by decide) (by omega)] at p3
        rw [lo 68 p (by decide) (by decide) (by omega)] at p4
        exact absurd ⟨p3, p4.trans h10.1.symm⟩ (nw p p1 (by omega))
    · obtain ⟨h, a, a1, a2, a3, a4, a5, a6⟩ := o3 o h1 (by omega)
      refine ⟨h, a, a1, by rw [lo 67 o (by decide) (by decide) (by omega)]; exact a2, by rw [lo 70 o (by decide) (by decide) (by omega)]; exact a3, by rw [lo 68 o (by decide) (by decide) (by omega)]; exact a4, by rw [nf 10 (by decide)]; exact a5, ?_⟩
      rw [nf 10 (by decide)]
      intro ea
      obtain ⟨w1, w2, w3, w4, w5⟩ := a6 ea
      have hj' : h ≠ j := by
        intro eh; subst eh
        exact nw o h1 (by omega) ⟨a2, by rw [a4, ea]; exact h10.1.symm⟩
      refine ⟨by rw [nf 7 (by decide)]; exact w1, by rw [nf 27 (by decide)]; exact w2, by rw [lo 69 o (by decide) (by decide) (by omega), nf 28 (by decide)]; exact w3, by rw [nf 37 (by decide), nf 38 (by decide)]; exact w4, ?_⟩
      intro p p1 p2 p3 p4
      by_cases ep : p = cl (σ 66 0)
      · subst ep
        rw [n67] at p3
        exact absurd (nIv_inj p3 (by omega) (by omega)).symm hj'
      · rw [lo 67 p (by decide) (by decide) (by omega)] at p3
        rw [lo 68 p (by decide) (by decide) (by omega)] at p4
        exact w5 p p1 (by omega) p3 p4
theorem drop_O {c j k : Nat} {l : Nat → Nat} {σ : (Nat → Nat → Int32)} (O : OI c l σ) (hc : k ≤ 100) (hk : cl (σ 38 j) = k + 1) : OI c l (m_drop σ j k) := by
  have ne : ∀ f, f < 38 ∨ 43 < f → m_drop σ j k f = σ f := fun f hf => m_drop_ne (by omega) (by omega) (by omega) (by omega) (by omega) (by omega)
  refine OI_st O (Nat.le_refl _) (fun f h1 h2 => ne f (by omega)) (fun h _ => by rw [ne 10 (by omega)]) ?_
  intro h hh x1 x2
  rw [ne 7 (by omega), ne 27 (by omega), ne 28 (by omega), ne 37 (by omega)]
  refine ⟨x1, x2, rfl, ?_⟩
  by_cases e : h = j
  · subst e; rw [m_drop_38, cl_nI (by omega), hk]; omega
  · have := (drop_sm (j := j) (k := k) (σ := σ) (τ := fun _ _ => 0) (υ := fun _ _ => 0) (by omega) e rfl).f1 38 rfl
    rw [this]; exact id
theorem lv_O {S M c j k : Nat} {l : Nat → Nat} {σ : (Nat → Nat → Int32)} {τ : (Nat → Nat → Int64)} (H : HI S M l σ τ j) (hk : cl (σ 38 j) = k + 1) (h7 : σ 7 j = 1) (hj : j < 4) (hc : c ≤ 4000) (h10 : nb (σ 10 j) c) (O : OI (c + 1) l σ) (oj : OJ c j σ) : OI (c + 1) l (m_leave σ j k) ∧ OJ c j (m_leave σ j k) := by
  obtain ⟨a1, a2, a3, a4, a5, a6, a7, a8⟩ := H
  obtain ⟨_, w2, _, w4⟩ := a8 0 (by omega)
  rw [Nat.add_zero] at w2 w4
  have h100 := a7.2
  have h3 := a6.2
  have dne : ∀ (x : (Nat → Nat → Int32)) f, f < 38 ∨ 43 < f → m_drop x j k f = x f := fun x f hf => m_drop_ne (by omega) (by omega) (by omega) (by omega) (by omega) (by omega)
  by_cases e2 : σ 39 (128 * j) = 2
  · obtain ⟨x1, x2, x3, x4⟩ := w4 e2
    have nw : NW j σ := by
      intro o h1 h2 ⟨h3', h4'⟩
      obtain ⟨h, a, b1, b2, b3, b4, b5, b6⟩ := O.2.2 o h1 h2
      have : h = j := nIv_inj (b2.symm.trans h3') (by omega) (by omega)
      subst this
      have ea : a = cl (σ 10 h) := by
        have : nI a = nI (cl (σ 10 h)) := by rw [← b4, h4']; exact h10.1
        have := h10.2
        exact nIv_inj (by assumption) (by omega) (by omega)
      have := (b6 ea).2.2.2.1
      rw [hk] at this x4; omega
    have eq0 : m_lv0 σ j = m_oper (m_lvw σ (128 * j) (cl (σ 66 0)) 64) j (cl (σ 66 0)) (σ 40 (128 * j)) (σ 41 (128 * j)) := by
      unfold m_lv0
      rw [if_neg (by rw [e2]; decide), if_neg (by rw [e2]; decide)]
    have O1 := drop_O (j := j) O (by omega) hk
    have oj1 : OJ c j (m_drop σ j k) := OJ_st oj (fun f h1 h2 => dne σ f (by omega)) (by rw [dne σ 10 (by omega)])
    have nw1 : NW j (m_drop σ j k) := by
      unfold NW
      rw [dne σ 65 (by omega), dne σ 66 (by omega), dne σ 67 (by omega), dne σ 68 (by omega), dne σ 10 (by omega)]
      exact nw
    have e66 : m_drop σ j k 66 = σ 66 := dne σ 66 (by omega)
    have key : ∀ f, (f < 38 ∨ 43 < f) → f ≠ 71 → m_leave σ j k f = m_oper (m_drop σ j k) j (cl (σ 66 0)) (σ 40 (128 * j)) (σ 41 (128 * j)) f := by
      intro f hf h71
      unfold m_leave
      rw [dne _ f hf, eq0]
      unfold m_oper
      have q : ∀ {x y : (Nat → Nat → Int32)} {F i : Nat} {v w : Int32}, x f = y f → v = w → u2 x F i v f = u2 y F i w f := by
        intro x y F i v w hxy hvw
        by_cases e : f = F
        · subst e; rw [u2_s, u2_s, hxy, hvw]
        · rw [u2_ne e, u2_ne e, hxy]
      have wz : ∀ g, g ≠ 71 → g < 38 ∨ 43 < g → m_lvw σ (128 * j) (cl (σ 66 0)) 64 g = m_drop σ j k g := fun g h1 h2 => by rw [m_lvw_ne h1, dne σ g h2]
      exact q (q (q (q (q (wz f h71 hf) rfl) (by rw [wz 10 (by decide) (by omega)])) rfl) rfl) (by rw [wz 66 (by decide) (by omega)])
    have key38 : m_leave σ j k 38 = m_drop σ j k 38 := by
      unfold m_leave m_drop
      rw [m_drl_ne (by decide) (by decide) (by decide) (by decide) (by decide), m_drl_ne (by decide) (by decide) (by decide) (by decide) (by decide), u2_s, u2_s, m_lv0_ne (by decide) (by decide) (by decide) (by decide) (by decide) (by decide) (by decide) (by decide)]
    let ς : (Nat → Nat → Int32) := fun f => if f < 39 ∨ 43 < f then m_leave σ j k f else m_drop σ j k f
    have res := oper_sp (ς := ς) (P := cl (m_drop σ j k 66 0)) (k := σ 40 (128 * j)) (b := σ 41 (128 * j)) O1 oj1 nw1 hj hc (by rw [dne σ 10 (by omega)]; exact h10) rfl (by
      intro f h71
      show (if f < 39 ∨ 43 < f then m_leave σ j k f else m_drop σ j k f) = _
      rw [e66]
      by_cases hf : f < 38 ∨ 43 < f
      · rw [if_pos (by omega)]; exact key f hf h71
      · rw [m_oper_ne (by omega) (by omega) (by omega) (by omega) (by omega)]
        by_cases e : f = 38
        · subst e; rw [if_pos (by omega)]; exact key38
        · rw [if_neg (by omega)]) (by rw [dne σ 7 (by omega)]; exact h7) (by rw [dne σ 27 (by omega)]; exact x1) (by rw [dne σ 28 (by omega)]; exact x2) (by rw [x3]; exact a1.2.2.2.2.2.2.2.1) (by rw [dne σ 37 (by omega), m_drop_38, cl_nI (by omega)]; rw [hk] at x4; omega)
    have tr : ∀ f, f < 39 ∨ 43 < f → ς f = m_leave σ j k f := fun f hf => if_pos hf
    refine ⟨OI_st res.1 (Nat.le_refl _) (fun f h1 h2 => (tr f (by omega)).symm) (fun h _ => by rw [tr 10 (by omega)]) ?_, OJ_st res.2 (fun f h1 h2 => (tr f (by omega)).symm) (by rw [tr 10 (by omega)])⟩
    intro h _ y1 y2
    rw [tr 7 (by omega)] at y1; rw [tr 27 (by omega)] at y2
    rw [tr 28 (by omega), tr 37 (by omega), tr 38 (by omega)]
    exact ⟨y1, y2, rfl, id⟩
  · -- a byte or a packet: the operations stay
    have ne6 : ∀ f, f ≠ 72 → f ≠ 73 → m_lv0 σ j f = σ f := by
      intro f h1 h2
      unfold m_lv0
      by_cases e0 : σ 39 (128 * j) = 0
      · rw [if_pos e0, m_outer_ne h1 h2]
      · have e1 : σ 39 (128 * j) = 1 := by
          rcases w2 with w | w | w
          · exact absurd w e0
          · exact w
          · exact absurd w e2
        rw [if_neg e0, if_pos e1, m_lvo_ne h1 h2, m_outer_ne h1 h2]
    have O0 : OI (c + 1) l (m_lv0 σ j) := OI_st O (Nat.le_refl _) (fun f h1 h2 => ne6 f (by omega) (by omega)) (fun h _ => by rw [ne6 10 (by omega) (by omega)]) (fun h _ y1 y2 => by rw [ne6 7 (by omega) (by omega), ne6 27 (by omega) (by omega), ne6 28 (by omega) (by omega), ne6 37 (by omega) (by omega), ne6 38 (by omega) (by omega)]; exact ⟨y1, y2, rfl, id⟩)
    refine ⟨drop_O O0 (by omega) (by rw [ne6 38 (by omega) (by omega)]; exact hk), OJ_st oj (fun f h1 h2 => ?_) ?_⟩
    · show m_drop (m_lv0 σ j) j k f = _
      rw [dne _ f (by omega), ne6 f (by omega) (by omega)]
    · show m_drop (m_lv0 σ j) j k 10 j = _
      rw [dne _ 10 (by omega), ne6 10 (by omega) (by omega)]
