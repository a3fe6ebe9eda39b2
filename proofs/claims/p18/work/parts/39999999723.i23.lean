theorem cu_INV {n pg rm c M E q j kd nn : Nat} {l : Nat → Nat} {σ ς : (Nat → Nat → Int32)} {τ υ : (Nat → Nat → Int64)} (H : INV n pg rm c M E q l σ τ) (hj : j < 4) (h7 : σ 7 j = 1) (h11 : σ 11 j = 0) (hP : CmP l σ j kd nn) (hM : M < 2147470000) (hc : c ≤ 600) (hE : E ≤ 23999) (hq : q ≤ 4000) (es : ς = u2 (u2 (m_ev (m_entry σ j (cl (σ 44 0)) (nI kd) (nI nn)) j (cl (σ 44 0))) 44 0 (nI (cl (σ 44 0)))) 50 0 (nI (cl (σ 50 0)))) (eu : υ = t2 τ 49 (cl (σ 44 0)) (τ 19 j)) : INV n pg rm (c + 1) M E q l ς υ := by
  obtain ⟨g, hs, ho, hri⟩ := H
  have hrm : rm ≤ 32 := g.1.2.2.2.2.2.2.2.2.2.2
  obtain ⟨a1, a2, a3, a4, a5, a6, a0⟩ := hs j hj
  obtain ⟨p1, p2, p3, p4, p5⟩ := hP
  have u19 : υ 19 = τ 19 := by rw [eu, t2_4919]
  have n44 := g.2.1
  have n50 := g.2.2.1
  have hE2 := n44.2
  have hD2 := n50.2
  have v45 : m_entry σ j (cl (σ 44 0)) (nI kd) (nI nn) 45 (cl (σ 44 0)) = nI kd := m_entry_45
  have v47 : m_entry σ j (cl (σ 44 0)) (nI kd) (nI nn) 47 (cl (σ 44 0)) = nI nn := m_entry_47
  have v48 : m_entry σ j (cl (σ 44 0)) (nI kd) (nI nn) 48 (cl (σ 44 0)) = σ 50 0 := m_entry_48
  have eL : ∀ f, f < 44 ∨ f = 49 ∨ f = 51 ∨ 51 < f → m_entry σ j (cl (σ 44 0)) (nI kd) (nI nn) f = σ f := fun f hf => m_entry_ne (by omega) (by omega) (by omega) (by omega) (by omega) (by omega)
  have old : ∀ f e, 45 ≤ f → f ≤ 48 → e ≠ cl (σ 44 0) → m_entry σ j (cl (σ 44 0)) (nI kd) (nI nn) f e = σ f e := by
    intro f e h1 h2 he
    have := lg_old (σ := σ) (j := j) (k := nI kd) (n := nI nn) h1 h2 he
    rwa [lg_en (by omega)] at this
  generalize hL : m_entry σ j (cl (σ 44 0)) (nI kd) (nI nn) = L at *
  have k45 : cl (L 45 (cl (σ 44 0))) = kd := by rw [v45, cl_nI (by omega)]
  have ok : EvOK L j (cl (σ 44 0)) := by
    unfold EvOK
    rw [v45, v47, v48, eL 33 (by omega), eL 35 (by omega), eL 28 (by omega), eL 30 (by omega), cl_nI (by omega), cl_nI (by omega)]
    exact ⟨by omega, nb_n (by omega) (by omega), nb_mono n50 (by omega), nb_n p2 (by omega), fun h => (p4 h).2, a1.1.2.2.2.1, fun h => (p3 h).1, a1.1.2.2.2.2.1, fun h => (p4 h).1, fun _ _ => nb_mono a1.1.2.2.2.2.2.2.1 (by have := a1.1.2.2.1; omega)⟩
  have ev : ∀ f, f ≠ 44 → f ≠ 50 → ς f = m_ev L j (cl (σ 44 0)) f := fun f h1 h2 => by rw [es, u2_ne h2, u2_ne h1]
  have ne : ∀ f, f < 15 ∨ 36 < f → f ≠ 63 → f ≠ 44 → f ≠ 50 → ς f = L f := fun f h1 h2 h3 h4 => by rw [ev f h3 h4]; exact evne h1 h2
  have e44 : ς 44 0 = σ 44 0 := by rw [es, u2_ne (by decide), u2_ss]; exact n44.1.symm
  have e50 : ς 50 0 = σ 50 0 := by rw [es, u2_ss]; exact n50.1.symm
  obtain ⟨nh, hR, ecv⟩ := HI_ev (ρ := L) (ς := ς) (υ := υ) (e := cl (σ 44 0)) a1 (fun f hf => eL f (by omega)) ok (fun f hf => ev f (by omega) (by omega)) (by rw [u19]) (fun h => (p5 (by rw [← k45]; exact h)).2.1)
  have sZ : ∀ h, h ≠ j → Sm h σ ς τ υ := by
    intro h hh
    have q1 : Sm h σ L τ υ := sm_ne (fun f hf => by
      unfold h_f at hf
      have hf := of_decide_eq_true hf
      exact eL f (by omega)) (by rw [u19])
    have q2 : Sm h L (m_ev L j (cl (σ 44 0))) υ υ := sm_F hR.1 hh rfl
    have q3 : Sm h (m_ev L j (cl (σ 44 0))) ς υ υ := sm_ne (fun f hf => by
      unfold h_f at hf
      have hf := of_decide_eq_true hf
      exact ev f (by omega) (by omega)) rfl
    exact (q1.tr q2).tr q3
  have ag : AgE σ ς τ υ := by
    refine ⟨by rw [e44]; exact Nat.le_refl _, by rw [e50]; exact Nat.le_refl _, ?_, ?_⟩
    · intro e he
      refine ⟨fun f h1 h2 => ?_, ?_⟩
      · rw [ne f (by omega) (by omega) (by omega) (by omega)]; exact old f e h1 h2 (by omega)
      · rw [eu]; exact t2_49n (by omega)
    · intro i hi; rw [ne 51 (by omega) (by omega) (by omega) (by omega), eL 51 (by omega)]
  have nf : ∀ f, f < 15 ∨ (36 < f ∧ f < 44) ∨ 51 < f → f ≠ 63 → ς f = σ f := fun f h1 h2 => by rw [ne f (by omega) h2 (by omega) (by omega), eL f (by omega)]
  refine INV_host ⟨g, hs, ho, hri⟩ hj (fun h _ e => sZ h e) ag (by rw [nf 4 (by omega) (by omega)]) nh.1.2.2.2.2.2.2.2.2 (fun _ _ => rfl) (Nat.le_refl _) (by omega) (by omega) (by omega) ?_ ?_ ?_ ?_ ?_
  · refine ⟨nh, ?_, ?_, ?_, ?_, ?_, by rw [nf 7 (by omega) (by omega), nf 11 (by omega) (by omega)]; exact a0⟩
    · rw [nf 11 (by omega) (by omega)]; exact fun h => absurd h11 h
    · rw [nf 38 (by omega) (by omega)]; exact fun _ _ => a3 h7 h11
    · rw [nf 7 (by omega) (by omega), h7]; intro h; exact absurd h (by decide)
    · rw [nf 10 (by omega) (by omega)]; exact nb_mono a5 (by omega)
    · have : CB c ς j := CB_nf a6 (fun f x y => nf f (by omega) (by omega))
      exact ⟨nb_mono this.1 (by omega), nb_mono this.2.1 (by omega), this.2.2⟩
  · intro b _ _ _ li
    have := li.2.1
    rw [nf 11 (by omega) (by omega)] at this
    exact absurd h11 this
  · refine GI_st g hj (.inl h7) (fun f i hf => by rw [nf f (by omega) (by omega)]) ?_ ?_ ?_ ?_
    · rw [e44]; exact n44
    · rw [e50]; exact nb_mono n50 (by omega)
    · rw [nf 72 (by omega) (by omega)]; exact g.2.2.2.1
    · rw [nf 74 (by omega) (by omega)]; exact g.2.2.2.2.1
  · have e65 : ∀ f, 65 ≤ f → f ≤ 70 → ς f = σ f := fun f x y => nf f (by omega) (by omega)
    have oth : ∀ h, h < 4 → h ≠ j → σ 7 h = 1 → σ 27 h = 1 → ς 7 h = 1 ∧ ς 27 h = 1 ∧ ς 28 h = σ 28 h ∧ (l h ≤ cl (σ 37 h) - cl (σ 38 h) → l h ≤ cl (ς 37 h) - cl (ς 38 h)) := by
      intro h _ hh x1 x2
      have sh := sZ h hh
      rw [sh.f1 7 rfl, sh.f1 27 rfl, sh.f1 28 rfl, sh.f1 37 rfl, sh.f1 38 rfl]
      exact ⟨x1, x2, rfl, id⟩
    by_cases e3 : kd = 3
    · exact OI_st2 ho (Nat.le_refl _) (p5 e3).2.2 (nb_mono a5 (by omega)) e65 (fun h _ => by rw [nf 10 (by omega) (by omega)]) oth
    · refine OI_st ho (Nat.le_refl _) e65 (fun h _ => by rw [nf 10 (by omega) (by omega)]) ?_
      intro h hh x1 x2
      by_cases e : h = j
      · subst e
        have q27 : ς 27 = σ 27 := by rw [ev 27 (by decide) (by decide), ev_27.2 (by rw [k45]; exact e3), eL 27 (by omega)]
        have q28 : ς 28 = σ 28 := by rw [ev 28 (by decide) (by decide), m_ev_ne (by decide) (by decide) (by decide) (by decide) (by decide) (by decide) (by decide) (by decide) (by decide), eL 28 (by omega)]
        rw [nf 7 (by omega) (by omega), q27, q28, nf 37 (by omega) (by omega), nf 38 (by omega) (by omega)]
        exact ⟨x1, x2, rfl, id⟩
      · exact oth h hh e x1 x2
  · refine RI_st (σ := L) (RI_nf hri (fun f hf => eL f (by omega))) g.1.2.2.2.2.2.2.1 hj a1.1.2.2.1 (by rw [eL 7 (by omega), h7]; decide) hR (ev 15 (by decide) (by decide)) (ev 63 (by decide) (by decide)) (fun f hf => ne f (by omega) (by omega) (by omega) (by omega)) (fun h _ _ => by rw [ne 7 (by omega) (by omega) (by omega) (by omega), ne 11 (by omega) (by omega) (by omega) (by omega)]; exact ⟨rfl, rfl⟩)
theorem comes_INV {n pg rm c M E q j kd nn : Nat} {l : Nat → Nat} {σ : (Nat → Nat → Int32)} {τ : (Nat → Nat → Int64)} (H : INV n pg rm c M E q l σ τ) (hj : j < 4) (h7 : σ 7 j = 1) (hP : CmP l σ j kd nn) (hM : M < 2147470000) (hc : c ≤ 600) (hE : E ≤ 23999) (hq : q ≤ 4000) : INV n pg rm (c + 1) M (E + 1) q l (m_comes σ j kd nn) (m_comesT σ τ j) ∧ CmOK σ j kd nn := by
  have H' := H
  obtain ⟨g, hs, ho, hri⟩ := H
  have hrm : rm ≤ 32 := g.1.2.2.2.2.2.2.2.2.2.2
  obtain ⟨a1, a2, a3, a4, a5, a6, a0⟩ := hs j hj
  have hP' := hP
  obtain ⟨p1, p2, p3, p4, p5⟩ := hP
  have n44 := g.2.1
  have n50 := g.2.2.1
  have hE2 := n44.2
  have hD2 := n50.2
  have ok : CmOK σ j kd nn := by
    refine ⟨nb_mono n44 hE, nb_mono n50 (by omega), ?_, ?_, a1.1.2.2.2.1, ?_, a1.1.2.2.2.2.1, ?_, fun _ _ => nb_mono a1.1.2.2.2.2.2.2.1 (by have := a1.1.2.2.1; omega)⟩
    · intro h _
      obtain ⟨c1, c2, _⟩ := a2 h
      have := c2.2
      exact ⟨nb_mono c1 (by omega), nb_mono c2 (by omega)⟩
    · by_cases e : kd = 1
      · exact .inl (p4 e).2
      · exact .inr e
    · by_cases e : kd = 0
      · exact .inl (p3 e).1
      · exact .inr e
    · by_cases e : kd = 1
      · exact .inl (p4 e).1
      · exact .inr e
  refine ⟨?_, ok⟩
  have v45 : ∀ x : (Nat → Nat → Int32), cl (m_entry x j (cl (σ 44 0)) (nI kd) (nI nn) 45 (cl (σ 44 0))) = kd := fun x => by rw [m_entry_45, cl_nI (by omega)]
  unfold m_comes m_comesT
  by_cases h11 : ¬ σ 11 j = 0
  · rw [if_pos h11, if_pos h11]
    by_cases hf : σ 3 0 ≤ σ 55 j
    · rw [if_pos hf, if_pos hf]
      exact INV_mono H' (Nat.le_refl _) (by omega) (by omega) (by omega) (by omega) (Nat.le_refl _)
    · rw [if_neg hf, if_neg hf]
      obtain ⟨c1, c2, _⟩ := a2 h11
      have hroom : cl (σ 55 j) < rm := by
        rw [g.1.2.2.2.1, c2.1, nIv_le (by omega) (by have := c2.2; omega)] at hf; omega
      refine cb_INV H' hj h7 h11 hroom hP' hM hc hE hq ?_ rfl
      unfold m_comesB m_ev
      show m_event (lg σ j (nI kd) (nI nn)) j _ _ _ _ _ _ _ = _
      rw [lg_nf (f := 33) (by omega), lg_nf (f := 35) (by omega), lg_nf (f := 30) (by omega), lg_en (f := 48) (by omega), lg_en (f := 45) (by omega), lg_en (f := 47) (by omega), m_entry_48, m_entry_45, m_entry_47, cl_nI (by omega), cl_nI (by omega)]
  · have h11 := Classical.not_not.mp h11
    rw [if_neg (fun h => h h11), if_neg (fun h => h h11)]
    refine INV_E (cu_INV H' hj h7 h11 hP' hM hc hE hq ?_ rfl) (by omega)
    unfold m_comesU m_ev
    rw [m_entry_ne (K := 33) (by omega) (by omega) (by omega) (by omega) (by omega) (by omega), m_entry_ne (K := 35) (by omega) (by omega) (by omega) (by omega) (by omega) (by omega), m_entry_ne (K := 30) (by omega) (by omega) (by omega) (by omega) (by omega) (by omega), m_entry_48, m_entry_45, m_entry_47, cl_nI (by omega), cl_nI (by omega)]
