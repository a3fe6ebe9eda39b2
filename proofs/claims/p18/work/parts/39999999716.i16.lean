theorem lall_sp {S M c j : Nat} {l : Nat → Nat} {τ : (Nat → Nat → Int64)} (hM : M < 2147480000) (hj : j < 4) (hc : c ≤ 4000) : ∀ (k : Nat) (σ : (Nat → Nat → Int32)), HI S M l σ τ j → cl (σ 38 j) = k → σ 7 j = 1 → nb (σ 10 j) c → OI (c + 1) l σ → OJ c j σ → nb (σ 72 0) 4096 → HI S M l (m_lall σ j k) τ j ∧ m_lall σ j k 38 j = 0 ∧ OI (c + 1) l (m_lall σ j k) ∧ OJ c j (m_lall σ j k) ∧ nb (m_lall σ j k 72 0) 4096 ∧ (∀ h, h ≠ j → Sm h σ (m_lall σ j k) τ τ) ∧ (∀ f, f < 38 ∨ (43 < f ∧ f < 66) ∨ 73 < f → m_lall σ j k f = σ f)
  | 0, σ, H, hk, h7, h10, O, oj, h72 => ⟨H, by have := H.2.2.2.2.2.2.1.1; rw [hk] at this; exact this, O, oj, h72, fun _ _ => Sm.rf, fun _ _ => rfl⟩
  | k + 1, σ, H, hk, h7, h10, O, oj, h72 => by
    have h100 := H.2.2.2.2.2.2.1.2
    have nf : ∀ f, f < 38 ∨ (43 < f ∧ f < 66) ∨ 73 < f → m_leave σ j k f = σ f := fun f hf => leave_nf hf
    obtain ⟨p1, p2⟩ := lv_O H hk h7 hj hc h10 O oj
    obtain ⟨O', q1, q2⟩ := m_leave_72 (j := j) (k := k) h72.1 h72.2
    obtain ⟨r1, r2, r3, r4, r5, r6, r7⟩ := lall_sp hM hj hc k (m_leave σ j k) (HI_leave H hM hk) (by rw [m_leave_38, cl_nI (by omega)]) (by rw [nf 7 (by omega)]; exact h7) (by rw [nf 10 (by omega)]; exact h10) p1 p2 (by rw [q1]; exact nb_n q2 (by omega))
    exact ⟨r1, r2, r3, r4, r5, fun h hh => (leave_sm (by omega) hh).tr (r6 h hh), fun f hf => (r7 f hf).trans (nf f hf)⟩
theorem lall_no {j : Nat} : ∀ (k : Nat) (σ : (Nat → Nat → Int32)), (∀ i, i < k → σ 39 (128 * j + i) = 0 ∨ σ 39 (128 * j + i) = 1) → ∀ f, 65 ≤ f → f ≤ 71 → m_lall σ j k f = σ f
  | 0, _, _, _, _, _ => rfl
  | k + 1, σ, H, f, h1, h2 => by
    have ne6 : ∀ f, f ≠ 72 → f ≠ 73 → m_lv0 σ j f = σ f := by
      intro f g1 g2
      unfold m_lv0
      rcases H 0 (by omega) with e | e
      · rw [Nat.add_zero] at e; rw [if_pos e, m_outer_ne g1 g2]
      · rw [Nat.add_zero] at e; rw [if_neg (by rw [e]; decide), if_pos e, m_lvo_ne g1 g2, m_outer_ne g1 g2]
    have ih := lall_no (j := j) k (m_leave σ j k) (by
      intro i hi
      rw [m_leave_lo (by omega) hi]; exact H (i + 1) (by omega)) f h1 h2
    show m_lall (m_leave σ j k) j k f = _
    rw [ih]
    show m_drop (m_lv0 σ j) j k f = _
    rw [m_drop_ne (by omega) (by omega) (by omega) (by omega) (by omega) (by omega), ne6 f (by omega) (by omega)]
theorem kop_no {σ : (Nat → Nat → Int32)} {j : Nat} : ∀ k, m_kop σ j k = false → ∀ i, i < k → ¬ σ 39 (128 * j + i) = 2
  | 0, _, i, hi => absurd hi (by omega)
  | k + 1, h, i, hi => by
    unfold m_kop at h
    rw [Bool.or_eq_false_iff] at h
    by_cases e : i = k
    · subst e; exact of_decide_eq_false h.2
    · exact kop_no k h.1 i (by omega)
theorem go_sp {S M c j : Nat} {l : Nat → Nat} {σ : (Nat → Nat → Int32)} {τ : (Nat → Nat → Int64)} (hM : M < 2147480000) (hj : j < 4) (hc : c ≤ 4000) (H : HI S M l σ τ j) (h7 : ¬ σ 7 j = 1) (h10 : nb (σ 10 j) c) (O : OI (c + 1) l σ) (oj : OJ c j σ) (h72 : nb (σ 72 0) 4096) : HI S M l (m_goLive σ j (cl (σ 38 j))) τ j ∧ m_goLive σ j (cl (σ 38 j)) 38 j = 0 ∧ OI (c + 1) l (m_goLive σ j (cl (σ 38 j))) ∧ OJ c j (m_goLive σ j (cl (σ 38 j))) ∧ nb (m_goLive σ j (cl (σ 38 j)) 72 0) 4096 ∧ (∀ h, h ≠ j → Sm h σ (m_goLive σ j (cl (σ 38 j))) τ τ) ∧ (∀ f, (f < 38 ∧ f ≠ 7 ∧ f ≠ 8 ∧ f ≠ 11 ∧ f ≠ 12) ∨ (43 < f ∧ f < 66) ∨ 73 < f → m_goLive σ j (cl (σ 38 j)) f = σ f) ∧ m_goLive σ j (cl (σ 38 j)) 7 j = 1 ∧ m_goLive σ j (cl (σ 38 j)) 11 j = 0 ∧ m_goLive σ j (cl (σ 38 j)) 12 j = 0 ∧ m_goLive σ j (cl (σ 38 j)) 8 j = -1 := by
  have n0 : ∀ f, f ≠ 7 → f ≠ 8 → f ≠ 11 → f ≠ 12 → m_go0 σ j f = σ f := fun f a b c d => m_go0_ne a c d b
  have e7 : m_go0 σ j 7 j = 1 := by unfold m_go0; rw [u2_ne (by decide), u2_ne (by decide), u2_ne (by decide), u2_ss]
  have e11 : m_go0 σ j 11 j = 0 := by unfold m_go0; rw [u2_ne (by decide), u2_ne (by decide), u2_ss]
  have e12 : m_go0 σ j 12 j = 0 := by unfold m_go0; rw [u2_ne (by decide), u2_ss]
  have e8 : m_go0 σ j 8 j = -1 := by unfold m_go0; rw [u2_ss]
  have eo : ∀ f h, h ≠ j → m_go0 σ j f h = σ f h := by
    intro f h hh
    have q : ∀ {x : (Nat → Nat → Int32)} {F : Nat} {v : Int32}, u2 x F j v f h = x f h := by
      intro x F v
      by_cases e : f = F
      · subst e; exact u2_sn hh
      · rw [u2_ne e]
    unfold m_go0; rw [q, q, q, q]
  have s0 : ∀ h, h ≠ j → Sm h σ (m_go0 σ j) τ τ := by
    intro h hh
    refine ⟨?_, rfl⟩
    intro f i hf hi
    by_cases e : f = 7 ∨ f = 8 ∨ f = 11 ∨ f = 12
    · have es : h_s f = 1 := by rcases e with e | e | e | e <;> (subst e; rfl)
      have : i = 0 := by omega
      subst this
      rw [es]; exact eo f _ (by omega)
    · rw [n0 f (by omega) (by omega) (by omega) (by omega)]
  have nw : NW j σ := by
    intro o h1 h2 ⟨h3, h4⟩
    obtain ⟨h, a, b1, b2, b3, b4, b5, b6⟩ := O.2.2 o h1 h2
    have : h = j := nIv_inj (b2.symm.trans h3) (by omega) (by omega)
    subst this
    have ea : a = cl (σ 10 h) := by
      have q : nI a = nI (cl (σ 10 h)) := by rw [← b4, h4]; exact h10.1
      have := h10.2
      exact nIv_inj q (by omega) (by omega)
    exact h7 (b6 ea).1
  have O0 : OI (c + 1) l (m_go0 σ j) := by
    refine OI_st O (Nat.le_refl _) (fun f h1 h2 => n0 f (by omega) (by omega) (by omega) (by omega)) (fun h _ => by rw [n0 10 (by omega) (by omega) (by omega) (by omega)]) ?_
    intro h _ y1 y2
    have hh : h ≠ j := by intro e; subst e; exact h7 y1
    rw [eo 7 h hh, n0 27 (by omega) (by omega) (by omega) (by omega), n0 28 (by omega) (by omega) (by omega) (by omega), n0 37 (by omega) (by omega) (by omega) (by omega), n0 38 (by omega) (by omega) (by omega) (by omega)]
    exact ⟨y1, y2, rfl, id⟩
  have oj0 : OJ c j (m_go0 σ j) := OJ_st oj (fun f h1 h2 => n0 f (by omega) (by omega) (by omega) (by omega)) (by rw [n0 10 (by omega) (by omega) (by omega) (by omega)])
  have H0 : HI S M l (m_go0 σ j) τ j := by
    obtain ⟨a1, a2, a3, a4, a5, a6, a7, a8⟩ := H
    refine ⟨v_B_nf a1 (fun f hf => n0 f (by omega) (by omega) (by omega) (by omega)), a2, a3, ?_⟩
    unfold KI
    rw [n0 37 (by omega) (by omega) (by omega) (by omega), n0 38 (by omega) (by omega) (by omega) (by omega), n0 39 (by omega) (by omega) (by omega) (by omega), n0 40 (by omega) (by omega) (by omega) (by omega), n0 41 (by omega) (by omega) (by omega) (by omega), n0 42 (by omega) (by omega) (by omega) (by omega), n0 27 (by omega) (by omega) (by omega) (by omega), n0 28 (by omega) (by omega) (by omega) (by omega), n0 29 (by omega) (by omega) (by omega) (by omega)]
    exact ⟨a4, a5, a6, a7, a8⟩
  obtain ⟨r1, r2, r3, r4, r5, r6, r7⟩ := lall_sp hM hj hc (cl (σ 38 j)) (m_go0 σ j) H0 (by rw [n0 38 (by omega) (by omega) (by omega) (by omega)]) e7 (by rw [n0 10 (by omega) (by omega) (by omega) (by omega)]; exact h10) O0 oj0 (by rw [n0 72 (by omega) (by omega) (by omega) (by omega)]; exact h72)
  have f7 : m_lall (m_go0 σ j) j (cl (σ 38 j)) 7 j = 1 := by rw [r7 7 (by omega)]; exact e7
  have f11 : m_lall (m_go0 σ j) j (cl (σ 38 j)) 11 j = 0 := by rw [r7 11 (by omega)]; exact e11
  have f12 : m_lall (m_go0 σ j) j (cl (σ 38 j)) 12 j = 0 := by rw [r7 12 (by omega)]; exact e12
  have f8 : m_lall (m_go0 σ j) j (cl (σ 38 j)) 8 j = -1 := by rw [r7 8 (by omega)]; exact e8
  have nfa : ∀ f, (f < 38 ∧ f ≠ 7 ∧ f ≠ 8 ∧ f ≠ 11 ∧ f ≠ 12) ∨ (43 < f ∧ f < 66) ∨ 73 < f → m_lall (m_go0 σ j) j (cl (σ 38 j)) f = σ f := by
    intro f hf
    rw [r7 f (by omega), n0 f (by omega) (by omega) (by omega) (by omega)]
  unfold m_goLive
  by_cases e : σ 27 j = 1 ∧ m_kop σ j (cl (σ 38 j)) = false
  · rw [if_pos e]
    generalize hσ1 : m_lall (m_go0 σ j) j (cl (σ 38 j)) = σ1 at *
    have g0 : ∀ f, 65 ≤ f → f ≤ 71 → σ1 f = σ f := by
      intro f h1 h2
      rw [← hσ1, lall_no _ _ ?_ f h1 h2, n0 f (by omega) (by omega) (by omega) (by omega)]
      intro i hi
      rw [n0 39 (by omega) (by omega) (by omega) (by omega)]
      have := kop_no _ e.2 i hi
      rcases (H.2.2.2.2.2.2.2 i hi).2.1 with w | w | w
      · exact .inl w
      · exact .inr w
      · exact absurd w this
    have gne : ∀ f, f ≠ 71 → ∀ P, m_gow σ1 j P 64 f = σ1 f := fun f hf P => m_gow_ne hf 64
    have nw1 : NW j (m_gow σ1 j (cl (σ1 66 0)) 64) := by
      unfold NW
      rw [gne 65 (by decide), gne 66 (by decide), gne 67 (by decide), gne 68 (by decide), gne 10 (by decide), g0 65 (by decide) (by decide), g0 66 (by decide) (by decide), g0 67 (by decide) (by decide), g0 68 (by decide) (by decide), nfa 10 (by omega)]
      exact nw
    have O1 : OI (c + 1) l (m_gow σ1 j (cl (σ1 66 0)) 64) := OI_st r3 (Nat.le_refl _) (fun f h1 h2 => gne f (by omega) _) (fun h _ => by rw [gne 10 (by decide)]) (fun h _ y1 y2 => by rw [gne 7 (by decide), gne 27 (by decide), gne 28 (by decide), gne 37 (by decide), gne 38 (by decide)]; exact ⟨y1, y2, rfl, id⟩)
    have oj1 : OJ c j (m_gow σ1 j (cl (σ1 66 0)) 64) := OJ_st r4 (fun f h1 h2 => gne f (by omega) _) (by rw [gne 10 (by decide)])
    have ono : ∀ f, f < 66 ∨ 71 < f → m_oper (m_gow σ1 j (cl (σ1 66 0)) 64) j (cl (σ1 66 0)) (σ 28 j) (σ 29 j) f = σ1 f := fun f hf => by
      rw [m_oper_ne (by omega) (by omega) (by omega) (by omega) (by omega), gne f (by omega)]
    have res := oper_sp (ς := m_oper (m_gow σ1 j (cl (σ1 66 0)) 64) j (cl (σ1 66 0)) (σ 28 j) (σ 29 j)) (k := σ 28 j) (b := σ 29 j) (P := cl (σ1 66 0)) O1 oj1 nw1 hj hc (by rw [gne 10 (by decide), nfa 10 (by omega)]; exact h10) (by rw [gne 66 (by decide)]) (fun f _ => rfl) (by rw [gne 7 (by decide)]; exact f7) (by rw [gne 27 (by decide), nfa 27 (by omega)]; exact e.1) (by rw [gne 28 (by decide), nfa 28 (by omega)]) H.1.2.2.2.2.2.2.2.1 (by rw [gne 37 (by decide), gne 38 (by decide), nfa 37 (by omega), r2]; have := H.2.2.2.2.1; exact this)
    change (let X := m_oper (m_gow σ1 j (cl (σ1 66 0)) 64) j (cl (σ1 66 0)) (σ 28 j) (σ 29 j); HI S M l X τ j ∧ X 38 j = 0 ∧ OI (c + 1) l X ∧ OJ c j X ∧ nb (X 72 0) 4096 ∧ (∀ h, h ≠ j → Sm h σ X τ τ) ∧ (∀ f, (f < 38 ∧ f ≠ 7 ∧ f ≠ 8 ∧ f ≠ 11 ∧ f ≠ 12) ∨ (43 < f ∧ f < 66) ∨ 73 < f → X f = σ f) ∧ X 7 j = 1 ∧ X 11 j = 0 ∧ X 12 j = 0 ∧ X 8 j = -1)
    generalize hX : m_oper (m_gow σ1 j (cl (σ1 66 0)) 64) j (cl (σ1 66 0)) (σ 28 j) (σ 29 j) = X at *
    dsimp only
    refine ⟨?_, by rw [ono 38 (by omega)]; exact r2, res.1, res.2, by rw [ono 72 (by omega)]; exact r5, ?_, ?_, by rw [ono 7 (by omega)]; exact f7, by rw [ono 11 (by omega)]; exact f11, by rw [ono 12 (by omega)]; exact f12, by rw [ono 8 (by omega)]; exact f8⟩
    · obtain ⟨a1, a2, a3, a4, a5, a6, a7, a8⟩ := r1
      refine ⟨v_B_nf a1 (fun f hf => ono f (by omega)), a2, a3, ?_⟩
      unfold KI
      rw [ono 37 (by omega), ono 38 (by omega), ono 39 (by omega), ono 40 (by omega), ono 41 (by omega), ono 42 (by omega), ono 27 (by omega), ono 28 (by omega), ono 29 (by omega)]
      exact ⟨a4, a5, a6, a7, a8⟩
    · intro h hh
      have : Sm h σ1 X τ τ := sm_ne (fun f hf => by
        unfold h_f at hf
        have hf := of_decide_eq_true hf
        exact ono f (by omega)) rfl
      exact ((s0 h hh).tr (r6 h hh)).tr this
    · intro f hf
      rw [ono f (by omega)]; exact nfa f hf
  · rw [if_neg e]
    exact ⟨r1, r2, r3, r4, r5, fun h hh => (s0 h hh).tr (r6 h hh), nfa, f7, f11, f12, f8⟩
