theorem INV_all {n pg rm c d M N E E' q q' : Nat} {l : Nat → Nat} {σ ς : (Nat → Nat → Int32)} {τ υ : (Nat → Nat → Int64)} (H : INV n pg rm c M E q l σ τ) (s : ∀ h, h < 4 → Sm h σ ς τ υ) (ag : AgE σ ς τ υ) (h4 : ς 4 0 = σ 4 0) (hb : BYa ς) (hM : M ≤ N) (hN : N < 2147483000) (hc : c ≤ d) (hd : d ≤ 4200) (g : GI n pg rm E' d ς) (o : OI q' l ς) (r : RcI n (256 * pg) ς) : INV n pg rm d N E' q' l ς υ := by
  refine ⟨g, ?_, o, r⟩
  have hr : rm ≤ 32 := H.1.1.2.2.2.2.2.2.2.2.2.2
  intro h hh
  have sh := s h hh
  refine HH_sm (H.2.1 h hh) sh ag h4 hb rfl hM hN hc hd hr ?_
  intro h7 X W kb x1 x2
  refine ⟨X, W, x1, ?_⟩
  intro i hi li
  have si := s i hi
  have li' : isLO σ h i := isLO_sm (by intro f hf; rcases hf with e | e <;> (subst e; exact sh.f1 _ rfl)) (by
    intro f h1 h2
    have : f = 8 ∨ f = 9 ∨ f = 10 ∨ f = 11 ∨ f = 12 := by omega
    rcases this with e | e | e | e | e <;> (subst e; exact si.f1 _ rfl)) li
  obtain ⟨z1, z2⟩ := x2 i hi li'
  have ci := (H.2.1 i hi).2.1 li'.2.1
  rw [chL_sm si (by have := ci.1.2; have := ci.2.1.2; omega), hv_sm si rfl]
  exact ⟨z1, z2⟩
theorem INV_by {n pg rm c M E q : Nat} {l : Nat → Nat} {σ : (Nat → Nat → Int32)} {τ : (Nat → Nat → Int64)} (H : INV n pg rm c M E q l σ τ) : BYa σ := (H.2.1 0 (by decide)).1.1.2.2.2.2.2.2.2.2
theorem INV_mono {n pg rm c d M N E F q r : Nat} {l : Nat → Nat} {σ : (Nat → Nat → Int32)} {τ : (Nat → Nat → Int64)} (H : INV n pg rm c M E q l σ τ) (hM : M ≤ N) (hN : N < 2147483000) (hc : c ≤ d) (hd : d ≤ 4200) (hE : E ≤ F) (hq : q ≤ r) : INV n pg rm d N F r l σ τ := by
  refine INV_all H (fun _ _ => Sm.rf) AgE.rf rfl (INV_by H) hM hN hc hd ?_ ?_ H.2.2.2
  · obtain ⟨g1, g2, g3, g4⟩ := H.1
    exact ⟨g1, nb_mono g2 hE, nb_mono g3 (by omega), g4⟩
  · exact ⟨H.2.2.1.1, nb_mono H.2.2.1.2.1 hq, H.2.2.1.2.2⟩
theorem INV_51 {n pg rm c M E q : Nat} {l : Nat → Nat} {σ ς : (Nat → Nat → Int32)} {τ : (Nat → Nat → Int64)} (H : INV n pg rm c M E q l σ τ) (hM : M < 2147483000) (hc : c ≤ 4200) (e : ∀ f, f ≠ 51 → ς f = σ f) (e51 : ∀ i, i < cl (σ 50 0) → ς 51 i = σ 51 i) : INV n pg rm c M E q l ς τ := by
  refine INV_all H (fun h _ => sm_ne (fun f hf => e f (by intro h; subst h; cases hf)) rfl) ?_ (by rw [e 4 (by decide)]) ?_ (Nat.le_refl _) hM (Nat.le_refl _) hc ?_ ?_ ?_
  · refine ⟨by rw [e 44 (by decide)]; exact Nat.le_refl _, by rw [e 50 (by decide)]; exact Nat.le_refl _, fun x _ => ⟨fun f h1 h2 => by rw [e f (by omega)], rfl⟩, e51⟩
  · intro f i hf; rw [e f (by omega)]; exact INV_by H f i hf
  · obtain ⟨g1, g2, g3, g4, g5, g6, g7⟩ := H.1
    refine ⟨?_, by rw [e 44 (by decide)]; exact g2, by rw [e 50 (by decide)]; exact g3, by rw [e 72 (by decide)]; exact g4, by rw [e 74 (by decide)]; exact g5, by unfold PartOK; rw [e 8 (by decide)]; exact g6, by rw [e 5 (by decide), e 60 (by decide), e 7 (by decide), e 11 (by decide), e 38 (by decide)]; exact g7⟩
    unfold RB; rw [e 0 (by decide), e 1 (by decide), e 2 (by decide), e 3 (by decide), e 4 (by decide)]; exact g1
  · exact OI_nf H.2.2.1 (fun f hf => e f (by omega))
  · exact RI_nf H.2.2.2 (fun f hf => e f (by omega))
theorem HI_ev {S M j e : Nat} {l : Nat → Nat} {σ ρ ς : (Nat → Nat → Int32)} {τ υ : (Nat → Nat → Int64)} (H : HI S M l σ τ j) (hr : ∀ f, f = 4 ∨ (15 ≤ f ∧ f ≤ 42) → ρ f = σ f) (ok : EvOK ρ j e) (hs : ∀ f, f = 4 ∨ (15 ≤ f ∧ f ≤ 42) → ς f = m_ev ρ j e f) (ht : υ 19 j = τ 19 j) (h3 : cl (ρ 45 e) = 3 → l j ≤ cl (σ 37 j) - cl (σ 38 j)) : HI S M l ς υ j ∧ v_R S j ρ (m_ev ρ j e) ∧ cv S j ς = cv S j (m_ev ρ j e) := by
  obtain ⟨a1, a2, a3, a4, a5, a6, a7, a8⟩ := H
  have hB : v_B S j ρ := v_B_nf a1 (fun f hf => hr f (by omega))
  have h127 : nb (ρ 38 j) 127 := by rw [hr 38 (by omega)]; exact nb_mono a7 (by omega)
  have hR := ev_R hB h127 ok
  have em : mc υ j = mc τ j := by unfold mc; rw [ht]
  have ne : ∀ f, f = 28 ∨ f = 29 ∨ (37 ≤ f ∧ f ≤ 42) → ς f = σ f := by
    intro f hf
    rw [hs f (by omega), m_ev_ne (by omega) (by omega) (by omega) (by omega) (by omega) (by omega) (by omega) (by omega) (by omega), hr f (by omega)]
  refine ⟨⟨v_B_nf hR.2.2.1 (fun f hf => hs f (by omega)), by rw [em, ht]; exact a2, by rw [em]; exact a3, ?_⟩, hR, cv_nf (fun f h1 h2 => hs f (by omega))⟩
  unfold KI
  rw [em, ne 37 (by omega), ne 38 (by omega), ne 39 (by omega), ne 40 (by omega), ne 41 (by omega), ne 42 (by omega), ne 28 (by omega), ne 29 (by omega)]
  refine ⟨a4, a5, a6, a7, ?_⟩
  intro i hi
  obtain ⟨w1, w2, w3, w4⟩ := a8 i hi
  refine ⟨w1, w2, w3, ?_⟩
  intro e2
  obtain ⟨x1, x2, x3, x4⟩ := w4 e2
  refine ⟨?_, x2, x3, x4⟩
  by_cases h : cl (ρ 45 e) = 3
  · have := h3 h; omega
  · rw [hs 27 (by omega), ev_27.2 h, hr 27 (by omega)]; exact x1
theorem evne {σ : (Nat → Nat → Int32)} {j e f : Nat} (h : f < 15 ∨ 36 < f) (h63 : f ≠ 63) : m_ev σ j e f = σ f := m_ev_ne (by omega) (by omega) (by omega) (by omega) (by omega) (by omega) (by omega) (by omega) (by omega)
def CmP (l : Nat → Nat) (σ : (Nat → Nat → Int32)) (j kd n : Nat) : Prop := kd ≤ 3 ∧ n ≤ 64 ∧ (kd = 0 → cl (σ 33 j) < 16 ∧ 1 ≤ n) ∧ (kd = 1 → cl (σ 35 j) < 4 ∧ n ≤ 32) ∧ (kd = 3 → (σ 28 j = 1 → n = 64) ∧ l j ≤ cl (σ 37 j) - cl (σ 38 j) ∧ NW j σ)
theorem OI_st2 {c d j : Nat} {l k : Nat → Nat} {σ ς : (Nat → Nat → Int32)} (H : OI c l σ) (hd : c ≤ d) (nw : NW j σ) (h10 : nb (σ 10 j) 4000) (e : ∀ f, 65 ≤ f → f ≤ 70 → ς f = σ f) (e10 : ∀ h, h < 4 → ς 10 h = σ 10 h) (hh : ∀ h, h < 4 → h ≠ j → σ 7 h = 1 → σ 27 h = 1 → ς 7 h = 1 ∧ ς 27 h = 1 ∧ ς 28 h = σ 28 h ∧ (l h ≤ cl (σ 37 h) - cl (σ 38 h) → k h ≤ cl (ς 37 h) - cl (ς 38 h))) : OI d k ς := by
  obtain ⟨h1, h2, h3⟩ := H
  unfold OI
  rw [e 65 (by decide) (by decide), e 66 (by decide) (by decide)]
  refine ⟨h1, nb_mono h2 hd, ?_⟩
  intro o q1 q2
  obtain ⟨h, a, a1, a2, a3, a4, a5, a6⟩ := h3 o q1 q2
  refine ⟨h, a, a1, by rw [e 67 (by decide) (by decide)]; exact a2, by rw [e 70 (by decide) (by decide)]; exact a3, by rw [e 68 (by decide) (by decide)]; exact a4, by rw [e10 h a1]; exact a5, ?_⟩
  rw [e10 h a1]
  intro ea
  obtain ⟨w1, w2, w3, w4, w5⟩ := a6 ea
  have hj : h ≠ j := by
    intro e; subst e
    exact nw o q1 q2 ⟨a2, by rw [a4, ea]; exact h10.1.symm⟩
  obtain ⟨x1, x2, x3, x4⟩ := hh h a1 hj w1 w2
  refine ⟨x1, x2, ?_, x4 w4, ?_⟩
  · rw [e 69 (by decide) (by decide), x3]; exact w3
  · rw [e 67 (by decide) (by decide), e 68 (by decide) (by decide)]; exact w5
theorem cb_INV {n pg rm c M E q j kd nn : Nat} {l : Nat → Nat} {σ ς : (Nat → Nat → Int32)} {τ υ : (Nat → Nat → Int64)} (H : INV n pg rm c M E q l σ τ) (hj : j < 4) (h7 : σ 7 j = 1) (h11 : ¬ σ 11 j = 0) (hroom : cl (σ 55 j) < rm) (hP : CmP l σ j kd nn) (hM : M < 2147470000) (hc : c ≤ 600) (hE : E ≤ 23999) (hq : q ≤ 4000) (es : ς = m_ev (lg σ j (nI kd) (nI nn)) j (cl (σ 44 0))) (eu : υ = t2 τ 49 (cl (σ 44 0)) (τ 19 j)) : INV n pg rm (c + 1) M (E + 1) q l ς υ := by
  obtain ⟨g, hs, ho, hri⟩ := H
  have hrm : rm ≤ 32 := g.1.2.2.2.2.2.2.2.2.2.2
  obtain ⟨a1, a2, a3, a4, a5, a6, a0⟩ := hs j hj
  obtain ⟨c1, c2, c3, c4, c5, c6, c7⟩ := a2 h11
  obtain ⟨p1, p2, p3, p4, p5⟩ := hP
  have hU := c2.2
  have hC := c1.2
  have u19 : υ 19 = τ 19 := by rw [eu, t2_4919]
  have n44 := g.2.1
  have n50 := g.2.2.1
  have hE2 := n44.2
  have hD2 := n50.2
  generalize hL : lg σ j (nI kd) (nI nn) = L at *
  have eL : ∀ f, f < 44 ∨ f = 49 ∨ f = 51 ∨ 55 < f → L f = σ f := fun f hf => by rw [← hL]; exact lg_nf hf
  obtain ⟨agL, l44, l50⟩ := lg_ag (j := j) (n := nn) (k := nI kd) (τ := τ) (υ := υ) (nb_mono n44 (by omega)) (nb_mono n50 (by omega)) p2 (fun e he => by rw [eu]; exact t2_49n he)
  rw [hL] at agL l44 l50
  have v45 : L 45 (cl (σ 44 0)) = nI kd := by rw [← hL, lg_en (by decide), m_entry_45]
  have k45 : cl (L 45 (cl (σ 44 0))) = kd := by rw [v45, cl_nI (by omega)]
  have v47 : L 47 (cl (σ 44 0)) = nI nn := by rw [← hL, lg_en (by decide), m_entry_47]
  have v48 : L 48 (cl (σ 44 0)) = σ 50 0 := by rw [← hL, lg_en (by decide), m_entry_48]
  have ok : EvOK L j (cl (σ 44 0)) := by
    unfold EvOK
    rw [v45, v47, v48, eL 33 (by omega), eL 35 (by omega), eL 28 (by omega), eL 30 (by omega), cl_nI (by omega), cl_nI (by omega)]
    exact ⟨by omega, nb_n (by omega) (by omega), nb_mono n50 (by omega), nb_n p2 (by omega), fun h => (p4 h).2, a1.1.2.2.2.1, fun h => (p3 h).1, a1.1.2.2.2.2.1, fun h => (p4 h).1, fun _ _ => nb_mono a1.1.2.2.2.2.2.2.1 (by have := a1.1.2.2.1; omega)⟩
  have ne : ∀ f, f < 15 ∨ 36 < f → f ≠ 63 → ς f = L f := fun f h1 h2 => by rw [es]; exact evne h1 h2
  obtain ⟨nh, hR, ecv⟩ := HI_ev (ρ := L) (ς := ς) (υ := υ) (e := cl (σ 44 0)) a1 (fun f hf => eL f (by omega)) ok (fun f _ => by rw [es]) (by rw [u19]) (fun h => (p5 (by rw [← k45]; exact h)).2.1)
  have sZ : ∀ h, h ≠ j → Sm h σ ς τ υ := by
    intro h hh
    have q1 : Sm h σ L τ υ := by rw [← hL]; exact lg_sm hh (by omega) (by omega) (by rw [u19])
    have q2 : Sm h L ς υ υ := by rw [es]; exact sm_F hR.1 hh rfl
    exact q1.tr q2
  have ag : AgE σ ς τ υ := by
    obtain ⟨y1, y2, y3, y4⟩ := agL
    refine ⟨by rw [ne 44 (by omega) (by omega)]; exact y1, by rw [ne 50 (by omega) (by omega)]; exact y2, ?_, ?_⟩
    · intro e he
      exact ⟨fun f h1 h2 => by rw [ne f (by omega) (by omega)]; exact (y3 e he).1 f h1 h2, (y3 e he).2⟩
    · intro i hi; rw [ne 51 (by omega) (by omega)]; exact y4 i hi
  have ciL : CI rm L j := by
    rw [← hL]
    refine lg_CI hrm (by omega) (nb_mono n44 hE) c1 c2 hroom c3 c4 c5 ?_ ?_
    · intro h
      rw [if_neg (by omega)]; exact c6 h
    · intro h; have := c7 h; exact ⟨this.1, by omega⟩
  have nf7 : ς 7 = σ 7 := by rw [ne 7 (by omega) (by omega), eL 7 (by omega)]
  have nf11 : ς 11 = σ 11 := by rw [ne 11 (by omega) (by omega), eL 11 (by omega)]
  have nf10 : ς 10 = σ 10 := by rw [ne 10 (by omega) (by omega), eL 10 (by omega)]
  refine INV_host ⟨g, hs, ho, hri⟩ hj (fun h _ e => sZ h e) ag (by rw [ne 4 (by omega) (by omega), eL 4 (by omega)]) nh.1.2.2.2.2.2.2.2.2 (fun _ _ => rfl) (Nat.le_refl _) (by omega) (by omega) (by omega) ?_ ?_ ?_ ?_ ?_
  · refine ⟨nh, ?_, ?_, ?_, ?_, ?_, by rw [nf7, nf11]; exact a0⟩
    · intro _
      unfold CI at ciL ⊢
      rw [ne 53 (by omega) (by omega), ne 55 (by omega) (by omega), ne 56 (by omega) (by omega), ne 52 (by omega) (by omega), ne 54 (by omega) (by omega), ne 44 (by omega) (by omega), ne 12 (by omega) (by omega), ne 38 (by omega) (by omega)]
      obtain ⟨z1, z2, z3, z4, z5, z6, z7⟩ := ciL
      refine ⟨z1, z2, z3, z4, z5, fun h => ⟨(z6 h).1, ?_⟩, z7⟩
      rw [← (z6 h).2]
      exact cnt_eq _ (fun x hx => by rw [ne 45 (by omega) (by omega), ne 54 (by omega) (by omega)])
    · rw [nf11]; intro _ h; exact absurd h h11
    · rw [nf7, h7]; intro h; exact absurd h (by decide)
    · rw [nf10]; exact nb_mono a5 (by omega)
    · have : CB c ς j := CB_nf a6 (fun f x y => by rw [ne f (by omega) (by omega), eL f (by omega)])
      exact ⟨nb_mono this.1 (by omega), nb_mono this.2.1 (by omega), this.2.2⟩
  · intro b hb hbj _ li
    have li' : isLO σ b j := isLO_sm (fun f hf => by rw [ne f (by omega) (by omega), eL f (by omega)]) (fun f x y => by rw [ne f (by omega) (by omega), eL f (by omega)]) li
    refine ⟨li', ?_⟩
    intro kb hch
    have k12 := li'.2.2.1
    have kk : cl (σ 38 j) ≤ cl (σ 55 j) := by rw [← (c6 k12).2]; exact cnt_le _
    have ech : chL ς j = chL σ j ++ [cl (σ 44 0)] := by
      have q1 : chL ς j = chL L j := by unfold chL; rw [ne 53 (by omega) (by omega), ne 52 (by omega) (by omega)]
      rw [q1, ← hL, chL_lg (nb_mono n44 (by omega)) (by omega)]
    have hat0 : EnAt L υ M (cl (σ 44 0)) (hv (256 * pg) l σ τ j) := by
      refine lg_at (kd := kd) (n := nn) (τ := τ) (by omega) p2 (nb_mono n44 hE) (nb_mono n50 (by omega)) rfl a1 (by omega) (by omega) (fun f hf => by rw [hL]) (by rw [eu, t2_49s]) (fun h => (p4 h).2) p3 (fun h => (p4 h).1) (fun h => (p5 h).1) (fun h => (p5 h).2.1)
    have agLς : AgE L ς υ υ := AgE_ne (fun f x y => ne f (by omega) (by omega)) rfl
    have hat := en_ag agLς hat0
    have hent := ch_ent hat hch
    rw [ech, ← List.append_assoc]
    have hge : ge (256 * pg) ς (cl (σ 44 0)) (hv (256 * pg) l σ τ j) = hv (256 * pg) l ς υ j := by
      have cvL : cv (256 * pg) j L = cv (256 * pg) j σ := cv_nf (fun f _ _ => eL f (by omega))
      have gg := ge_ev (S := 256 * pg) (j := j) (e := cl (σ 44 0)) (m := mc τ j) (l := l j) (D := ς) (σ := L) (v_B_nf a1.1 (fun f hf => eL f (by omega))) (by rw [eL 38 (by omega)]; exact nb_mono a1.2.2.2.2.2.2.1 (by omega)) (fun f h1 h2 => by rw [ne f (by omega) (by omega)]) ok ⟨fun _ => by rw [ne 51 (by omega) (by omega)], fun _ _ _ => by rw [ne 51 (by omega) (by omega)], fun _ _ _ _ => by rw [ne 51 (by omega) (by omega)]⟩
      rw [cvL] at gg
      show ge (256 * pg) ς (cl (σ 44 0)) (cv (256 * pg) j σ, mc τ j, l j) = (cv (256 * pg) j ς, mc υ j, l j)
      rw [gg, ecv]
      unfold mc; rw [u19]
    rw [hge] at hent
    exact hent
  · refine GI_st g hj (.inl h7) (fun f i hf => by rw [ne f (by omega) (by omega), eL f (by omega)]) ?_ ?_ ?_ ?_
    · rw [ne 44 (by omega) (by omega), ← hL, lg_44, (cl_inc n44 (by omega)).1]; exact nb_n (by omega) (by omega)
    · rw [ne 50 (by omega) (by omega), ← hL, lg_50, n50.1, nIv_add]; exact nb_n (by omega) (by omega)
    · rw [ne 72 (by omega) (by omega), eL 72 (by omega)]; exact g.2.2.2.1
    · rw [ne 74 (by omega) (by omega), eL 74 (by omega)]; exact g.2.2.2.2.1
  · have e65 : ∀ f, 65 ≤ f → f ≤ 70 → ς f = σ f := fun f x y => by rw [ne f (by omega) (by omega), eL f (by omega)]
    have oth : ∀ h, h < 4 → h ≠ j → σ 7 h = 1 → σ 27 h = 1 → ς 7 h = 1 ∧ ς 27 h = 1 ∧ ς 28 h = σ 28 h ∧ (l h ≤ cl (σ 37 h) - cl (σ 38 h) → l h ≤ cl (ς 37 h) - cl (ς 38 h)) := by
      intro h _ hh x1 x2
      have sh := sZ h hh
      rw [sh.f1 7 rfl, sh.f1 27 rfl, sh.f1 28 rfl, sh.f1 37 rfl, sh.f1 38 rfl]
      exact ⟨x1, x2, rfl, id⟩
    by_cases e3 : kd = 3
    · exact OI_st2 ho (Nat.le_refl _) (p5 e3).2.2 (nb_mono a5 (by omega)) e65 (fun h _ => by rw [nf10]) oth
    · refine OI_st ho (Nat.le_refl _) e65 (fun h _ => by rw [nf10]) ?_
      intro h hh x1 x2
      by_cases e : h = j
      · subst e
        have q27 : ς 27 = σ 27 := by rw [es, ev_27.2 (by rw [k45]; exact e3), eL 27 (by omega)]
        have q28 : ς 28 = σ 28 := by rw [es, m_ev_ne (by decide) (by decide) (by decide) (by decide) (by decide) (by decide) (by decide) (by decide) (by decide), eL 28 (by omega)]
        rw [nf7, q27, q28, ne 37 (by omega) (by omega), ne 38 (by omega) (by omega), eL 37 (by omega), eL 38 (by omega)]
        exact ⟨x1, x2, rfl, id⟩
      · exact oth h hh e x1 x2
  · refine RI_st (σ := L) (RI_nf hri (fun f hf => eL f (by omega))) g.1.2.2.2.2.2.2.1 hj a1.1.2.2.1 (by rw [eL 7 (by omega), h7]; decide) hR (by rw [es]) (by rw [es]) (fun f hf => ne f (by omega) (by omega)) (fun h _ _ => by rw [ne 7 (by omega) (by omega), ne 11 (by omega) (by omega)]; exact ⟨rfl, rfl⟩)
