theorem ge_out {S j m lk e : Nat} {D σ : (Nat → Nat → Int32)} (h : cl (D 45 e) = 4) : ge S D e (cv S j σ, m, lk) = (cv S j σ, m, lk) := by
  unfold ge
  refine Prod.ext ?_ rfl
  show cv S 0 (m_ev (mx D (cv S j σ)) 0 e) = cv S j σ
  unfold m_ev m_event
  rw [mx_D (by omega : 44 ≤ 45 ∧ 45 ≤ 51), h, if_neg (by decide), if_neg (by decide), if_neg (by decide), if_neg (by decide)]
  refine (cv_eq ?_).symm
  intro f i h1 h2 h3 h4 h5 h6
  rw [mx_V (by omega)]; exact cv_E f i h1 h2 h3 h4 h5 h6
theorem lb_step {n pg rm c M E j : Nat} {l : Nat → Nat} {σ : (Nat → Nat → Int32)} {τ : (Nat → Nat → Int64)} (H : INV n pg rm c M E (c + 1) l σ τ) (oj : OJ c j σ) (hj : j < 4) (h7 : σ 7 j = 1) (h11 : ¬ σ 11 j = 0) (hst : m_stall σ j = false) (hM : M < 2147470000) (hc : c ≤ 600) (hE : E ≤ 23999) : (∃ E', E' + cl (σ 55 j) = E + cl (m_nx0 σ τ j 55 j) ∧ INV n pg rm c (M + 1) E' (c + 1) (l1 l σ τ j) (m_nx0 σ τ j) (m_stT σ τ j)) ∧ OJ c j (m_nx0 σ τ j) ∧ m_nx0 σ τ j 7 j = 1 ∧ ¬ m_nx0 σ τ j 11 j = 0 ∧ PostOK (m_stx σ τ j) j := by
  obtain ⟨g, hs, ho, hri⟩ := H
  have hrm : rm ≤ 32 := g.1.2.2.2.2.2.2.2.2.2.2
  obtain ⟨a1, a2, a3, a4, a5, a6, a0⟩ := hs j hj
  obtain ⟨c1, c2, c3, c4, c5, c6, c7⟩ := a2 h11
  have hU := c2.2
  have hC := c1.2
  have h127 : nb (σ 38 j) 127 := nb_mono a1.2.2.2.2.2.2.1 (by omega)
  have hR := st_R (τ := τ) a1.1 h127
  have eo : ∀ f i, f < 15 ∨ 43 < f → f ≠ 63 → f ≠ 74 → m_stx σ τ j f i = σ f i := fun f i x y z => F_o hR.1 x y z
  have eof : ∀ f, f < 15 ∨ 43 < f → f ≠ 63 → f ≠ 74 → m_stx σ τ j f = σ f := fun f x y z => by funext i; exact eo f i x y z
  obtain ⟨o, hO, hOo⟩ := v_O_stx (j := j) (s := σ) (τ := τ)
  have e7 : m_stx σ τ j 7 j = 1 := by rw [eo 7 j (by omega) (by omega) (by omega)]; exact h7
  have e11 : ¬ m_stx σ τ j 11 j = 0 := by rw [eo 11 j (by omega) (by omega) (by omega)]; exact h11
  have hcnt : σ 12 j = 0 → cl (σ 38 j) ≤ cl (σ 55 j) := fun h => by rw [← (c6 h).2]; exact cnt_le _
  have hk64 : cl (σ 38 j) ≤ 64 := by
    by_cases e : σ 12 j = 0
    · have := hcnt e; omega
    · have := (c7 e).2; omega
  have hroom : o = true → cl (σ 55 j) < rm := by
    intro h
    obtain ⟨i1, i2⟩ := hOo h
    unfold m_stall at hst
    rw [i1, i2] at hst
    have hf : m_full σ j = false := by simpa using hst
    unfold m_full at hf
    have hf := of_decide_eq_false hf
    have : ¬ nI rm ≤ nI (cl (σ 55 j)) := by
      intro q
      exact hf ⟨h7, h11, by rw [g.1.2.2.2.1, c2.1]; exact q⟩
    rw [nIv_le (by omega) (by omega)] at this
    omega
  generalize hυ0 : t2 τ 19 j (τ 19 j + 1) = υ0
  have uj : υ0 19 j = τ 19 j + 1 := by rw [← hυ0, t2_19s]
  have un : ∀ h, h ≠ j → υ0 19 h = τ 19 h := fun h hh => by rw [← hυ0, t2_19 hh]
  have u49 : υ0 49 = τ 49 := by rw [← hυ0, t2_49]
  obtain ⟨nh, ngs⟩ := HI_step (ς := m_stx σ τ j) (υ := υ0) a1 (by omega) hO (fun _ => by omega) (fun f hf => rfl) uj
  have oi1 : OI (c + 1) (l1 l σ τ j) (m_stx σ τ j) := by
    refine OI_st ho (Nat.le_refl _) (fun f x y => eof f (by omega) (by omega) (by omega)) (fun h _ => eo 10 h (by omega) (by omega) (by omega)) ?_
    intro h hh x1 x2
    by_cases e : h = j
    · subst e
      rw [l1_s]
      have w := hO.1 x2
      have eg : gl (σ 27 h) (m_stx σ τ h 27 h) (cl (m_stx σ τ h 37 h)) (l h) = l h := by unfold gl; rw [if_neg (fun h => h.1 x2)]
      refine ⟨e7, w.1, w.2.1, ?_⟩
      rw [eg]
      intro hle
      cases o with
      | false => rw [(hO.2.1 rfl).1, (hO.2.1 rfl).2.1]; exact hle
      | true =>
        have p := hO.2.2 rfl
        rw [p.1, p.2.1, (cl_inc a1.2.2.2.1 (by have := a1.2.2.1; omega)).2, (cl_inc a1.2.2.2.2.2.2.1 (by omega)).2]
        omega
    · have sh := sm_F (τ := τ) (υ := υ0) hR.1 e (un h e)
      rw [sh.f1 7 rfl, sh.f1 27 rfl, sh.f1 28 rfl, sh.f1 37 rfl, sh.f1 38 rfl, l1_n e]
      exact ⟨x1, x2, rfl, id⟩
  have oj1 : OJ c j (m_stx σ τ j) := OJ_st oj (fun f x y => eof f (by omega) (by omega) (by omega)) (eo 10 j (by omega) (by omega) (by omega))
  have ri1 : RcI n (256 * pg) (m_stx σ τ j) := RI_st hri g.1.2.2.2.2.2.2.1 hj a1.1.2.2.1 (by rw [h7]; decide) hR rfl rfl (fun f hf => eof f (by omega) (by omega) (by omega)) (fun h _ _ => ⟨eo 7 h (by omega) (by omega) (by omega), eo 11 h (by omega) (by omega) (by omega)⟩)
  have g44 : nb (m_stx σ τ j 44 0) E := by rw [eo 44 0 (by omega) (by omega) (by omega)]; exact g.2.1
  have g50 : nb (m_stx σ τ j 50 0) (64 * c) := by rw [eo 50 0 (by omega) (by omega) (by omega)]; exact g.2.2.1
  have post : PostOK (m_stx σ τ j) j := by
    intro _ _
    refine ⟨fun _ => ⟨nb_mono g44 hE, ?_, ?_⟩, fun h => absurd h e11⟩
    · rw [eo 53 j (by omega) (by omega) (by omega)]; exact nb_mono c1 (by omega)
    · rw [eo 55 j (by omega) (by omega) (by omega)]; exact nb_mono c2 (by omega)
  have gbase : ∀ f i, f ≤ 5 ∨ f = 8 → m_stx σ τ j f i = σ f i := fun f i hf => eo f i (by omega) (by omega) (by omega)
  have hmc : mc τ j ≤ M := a1.2.2.1
  cases o with
  | false =>
    have p := hO.2.1 rfl
    have e74 : m_stx σ τ j 74 0 = 0 := by rw [p.2.2.1]; exact g.2.2.2.2.1
    have eT : m_stT σ τ j = υ0 := by
      unfold m_stT m_psT; rw [if_neg (fun h => h.2 e74), hυ0]
    generalize hZ : u2 (m_stx σ τ j) 74 0 0 = Z
    have eq : m_nx0 σ τ j = Z := by
      have : m_stS σ τ j = Z := by
        unfold m_stS m_pst; rw [if_neg (fun h => h.2 e74), hZ]
      unfold m_nx0; rw [this, if_pos (by rw [← hZ, u2_ne (by decide)]; exact e7)]
    rw [eq, eT]
    have eZ : ∀ f, f ≠ 74 → Z f = m_stx σ τ j f := fun f hf => by rw [← hZ, u2_ne hf]
    have eZo : ∀ f, f < 15 ∨ 43 < f → f ≠ 63 → f ≠ 74 → Z f = σ f := fun f x y z => by rw [eZ f z, eof f x y z]
    have sZ : ∀ h, h ≠ j → Sm h σ Z τ υ0 := by
      intro h hh
      have q3 : Sm h (m_stx σ τ j) Z υ0 υ0 := sm_ne (fun f hf => by
        unfold h_f at hf
        have hf := of_decide_eq_true hf
        exact eZ f (by omega)) rfl
      exact (sm_F (τ := τ) (υ := υ0) hR.1 hh (un h hh)).tr q3
    have agZ : AgE σ Z τ υ0 := AgE_ne (fun f x y => eZo f (by omega) (by omega) (by omega)) u49
    have nhZ : HI (256 * pg) (M + 1) (l1 l σ τ j) Z υ0 j := HI_nf nh (fun f hf => eZ f (by omega)) rfl
    have hvZ : hv (256 * pg) (l1 l σ τ j) Z υ0 j = gs (256 * pg) (hv (256 * pg) l σ τ j) := by
      rw [← ngs]; exact hv_nf (fun f _ _ => eZ f (by omega)) rfl
    refine ⟨⟨E, by rw [eZo 55 (by omega) (by omega) (by omega)], ?_⟩, OJ_st oj1 (fun f x y => eZ f (by omega)) (by rw [eZ 10 (by omega)]), by rw [eZ 7 (by omega)]; exact e7, by rw [eZ 11 (by omega)]; exact e11, post⟩
    refine INV_host ⟨g, hs, ho, hri⟩ hj (fun h _ e => sZ h e) agZ (by rw [eZo 4 (by omega) (by omega) (by omega)]) nhZ.1.2.2.2.2.2.2.2.2 (fun h e => l1_n e) (by omega) (by omega) (Nat.le_refl _) (by omega) ?_ ?_ ?_ (OI_nf oi1 (fun f hf => eZ f (by omega))) (RI_nf ri1 (fun f hf => eZ f (by omega)))
    · refine ⟨nhZ, ?_, ?_, ?_, ?_, CB_nf a6 (fun f x y => eZo f (by omega) (by omega) (by omega)), by rw [eZ 7 (by omega), e7]; intro h; exact absurd h (by decide)⟩
      · intro _
        unfold CI
        rw [eZo 53 (by omega) (by omega) (by omega), eZo 55 (by omega) (by omega) (by omega), eZo 56 (by omega) (by omega) (by omega), eZo 52 (by omega) (by omega) (by omega), eZo 54 (by omega) (by omega) (by omega), eZo 44 (by omega) (by omega) (by omega), eZo 12 (by omega) (by omega) (by omega), eZ 38 (by omega), p.2.1]
        refine ⟨c1, c2, c3, c4, c5, fun h => ⟨(c6 h).1, ?_⟩, c7⟩
        rw [← (c6 h).2]
        exact cnt_eq _ (fun x hx => by rw [eZo 45 (by omega) (by omega) (by omega), eZo 54 (by omega) (by omega) (by omega)])
      · intro _ h; rw [eZ 11 (by omega)] at h; exact absurd h e11
      · rw [eZ 7 (by omega), e7]; intro h; exact absurd h (by decide)
      · rw [eZo 10 (by omega) (by omega) (by omega)]; exact a5
    · intro b hb hbj _ li
      have li' : isLO σ b j := isLO_sm (fun f hf => by rw [eZo f (by omega) (by omega) (by omega)]) (fun f x y => by rw [eZo f (by omega) (by omega) (by omega)]) li
      refine ⟨li', ?_⟩
      intro kb hch
      have ech : chL Z j = chL σ j := by
        unfold chL; rw [eZo 53 (by omega) (by omega) (by omega), eZo 52 (by omega) (by omega) (by omega)]
      rw [ech, hvZ]
      refine ch_quiet (by show mc τ j + 1 ≤ _; omega) ?_ hch
      rw [← hvZ, ou_hv, ou_hv, eZ 37 (by omega), p.1]
    · refine GI_st g hj (.inl h7) (fun f i hf => by rw [eZ f (by omega)]; exact gbase f i hf) ?_ ?_ ?_ ?_
      · rw [eZ 44 (by omega)]; exact g44
      · rw [eZ 50 (by omega)]; exact g50
      · rw [eZo 72 (by omega) (by omega) (by omega)]; exact g.2.2.2.1
      · rw [← hZ, u2_ss]
  | true =>
    have p := hO.2.2 rfl
    have hroom := hroom rfl
    have e74 : ¬ m_stx σ τ j 74 0 = 0 := by rw [p.2.2.1]; decide
    have x37 := (cl_inc a1.2.2.2.1 (by have := a1.2.2.1; omega)).2
    have x38 := (cl_inc a1.2.2.2.2.2.2.1 (by omega)).2
    have k38 : cl (m_stx σ τ j 38 j) = cl (σ 38 j) + 1 := by rw [p.2.1]; exact x38
    generalize hσ1 : m_stx σ τ j = σ1 at *
    have eT : m_stT σ τ j = t2 υ0 49 (cl (σ1 44 0)) (υ0 19 j) := by
      unfold m_stT m_psT; rw [hσ1, if_pos ⟨e7, e74⟩, if_pos e11, hυ0]
    generalize hυ : t2 υ0 49 (cl (σ1 44 0)) (υ0 19 j) = υ at *
    have v19 : υ 19 = υ0 19 := by rw [← hυ, t2_4919]
    generalize hL : lg σ1 j (nI 4) (nI 0) = L at *
    generalize hZ : u2 L 74 0 0 = Z
    have eZ : ∀ f, f ≠ 74 → Z f = L f := fun f hf => by rw [← hZ, u2_ne hf]
    have eL : ∀ f, f < 44 ∨ f = 49 ∨ f = 51 ∨ 55 < f → L f = σ1 f := fun f hf => by rw [← hL]; exact lg_nf hf
    have eq : m_nx0 σ τ j = Z := by
      have : m_stS σ τ j = Z := by
        unfold m_stS m_pst
        rw [hσ1, if_pos ⟨e7, e74⟩, if_pos e11]
        show u2 (lg σ1 j (nI 4) (nI 0)) 74 0 0 = Z
        rw [hL, hZ]
      unfold m_nx0; rw [this, if_pos (by rw [eZ 7 (by omega), eL 7 (by omega)]; exact e7)]
    rw [eq, eT]
    have n53 : nb (σ1 53 j) (cl (σ1 55 j)) := by rw [eo 53 j (by omega) (by omega) (by omega), eo 55 j (by omega) (by omega) (by omega)]; exact c1
    have d53 : cl (σ1 53 j) = cl (σ 53 j) := by rw [eo 53 j (by omega) (by omega) (by omega)]
    have d55 : cl (σ1 55 j) = cl (σ 55 j) := by rw [eo 55 j (by omega) (by omega) (by omega)]
    have d44 : cl (σ1 44 0) = cl (σ 44 0) := by rw [eo 44 0 (by omega) (by omega) (by omega)]
    obtain ⟨agL, l44, l50⟩ := lg_ag (j := j) (n := 0) (k := nI 4) (τ := υ0) (υ := υ) (nb_mono g44 (by omega)) (nb_mono g50 (by omega)) (by omega) (fun e he => by rw [← hυ]; exact t2_49n he)
    rw [hL] at agL l44 l50
    have sZ : ∀ h, h ≠ j → Sm h σ Z τ υ := by
      intro h hh
      have q1 := sm_F (τ := τ) (υ := υ0) hR.1 hh (un h hh)
      have q2 : Sm h σ1 L υ0 υ := by rw [← hL]; exact lg_sm hh (by omega) (by omega) (by rw [v19])
      have q3 : Sm h L Z υ υ := sm_ne (fun f hf => by
        unfold h_f at hf
        have hf := of_decide_eq_true hf
        exact eZ f (by omega)) rfl
      exact (q1.tr q2).tr q3
    have ag1 : AgE σ Z τ υ := by
      obtain ⟨y1, y2, y3, y4⟩ := agL
      refine ⟨by rw [eZ 44 (by omega), ← d44]; exact y1, by rw [eZ 50 (by omega), ← eo 50 0 (by omega) (by omega) (by omega)]; exact y2, ?_, ?_⟩
      · intro e he
        obtain ⟨w1, w2⟩ := y3 e (by omega)
        refine ⟨fun f h1 h2 => ?_, by rw [w2, u49]⟩
        rw [eZ f (by omega), w1 f h1 h2, eof f (by omega) (by omega) (by omega)]
      · intro i hi
        rw [eZ 51 (by omega), y4 i (by rw [eo 50 0 (by omega) (by omega) (by omega)]; exact hi), eof 51 (by omega) (by omega) (by omega)]
    have nhZ : HI (256 * pg) (M + 1) (l1 l σ τ j) Z υ j := HI_nf nh (fun f hf => by rw [eZ f (by omega), eL f (by omega)]) (by rw [v19])
    have hvZ : hv (256 * pg) (l1 l σ τ j) Z υ j = gs (256 * pg) (hv (256 * pg) l σ τ j) := by
      rw [← ngs]; exact hv_nf (fun f _ _ => by rw [eZ f (by omega), eL f (by omega)]) (by rw [v19])
    have n55 : cl (Z 55 j) = cl (σ 55 j) + 1 := by rw [eZ 55 (by omega), ← hL, lg_55, cl_nI (by omega), d55]
    refine ⟨⟨E + 1, by omega, ?_⟩, OJ_st oj1 (fun f x y => by rw [eZ f (by omega), eL f (by omega)]) (by rw [eZ 10 (by omega), eL 10 (by omega)]), by rw [eZ 7 (by omega), eL 7 (by omega)]; exact e7, by rw [eZ 11 (by omega), eL 11 (by omega)]; exact e11, post⟩
    have ciL : CI rm L j := by
      rw [← hL]
      refine lg_CI hrm (by omega) (nb_mono g44 hE) n53 (by rw [eo 55 j (by omega) (by omega) (by omega)]; exact c2) (by omega) (by rw [eo 56 j (by omega) (by omega) (by omega), d55]; exact c3) ?_ ?_ ?_ ?_
      · intro i hi; rw [eo 52 _ (by omega) (by omega) (by omega)]; exact c4 i (by omega)
      · intro i hi; rw [eo 54 _ (by omega) (by omega) (by omega), d44]; exact c5 i (by omega)
      · rw [eo 12 j (by omega) (by omega) (by omega), eo 56 j (by omega) (by omega) (by omega), d53, d55]
        intro h
        obtain ⟨x1, x2⟩ := c6 h
        refine ⟨x1, ?_⟩
        rw [if_pos rfl, k38, ← x2]
        congr 1
        exact cnt_eq _ (fun x hx => by rw [eof 45 (by omega) (by omega) (by omega), eof 54 (by omega) (by omega) (by omega)])
      · rw [eo 12 j (by omega) (by omega) (by omega), eo 56 j (by omega) (by omega) (by omega), d55, k38]
        intro h; have := c7 h; exact ⟨this.1, by omega⟩
    refine INV_host ⟨g, hs, ho, hri⟩ hj (fun h _ e => sZ h e) ag1 (by rw [eZ 4 (by omega), eL 4 (by omega)]; exact eo 4 0 (by omega) (by omega) (by omega)) nhZ.1.2.2.2.2.2.2.2.2 (fun h e => by rw [← hσ1] at *; exact l1_n e) (by omega) (by omega) (Nat.le_refl _) (by omega) ?_ ?_ ?_ (OI_nf oi1 (fun f hf => by rw [eZ f (by omega), eL f (by omega)])) (RI_nf ri1 (fun f hf => by rw [eZ f (by omega), eL f (by omega)]))
    · refine ⟨nhZ, ?_, ?_, ?_, ?_, CB_nf a6 (fun f x y => by rw [eZ f (by omega), eL f (by omega), eof f (by omega) (by omega) (by omega)]), by rw [eZ 7 (by omega), eL 7 (by omega), e7]; intro h; exact absurd h (by decide)⟩
      · intro _
        unfold CI at ciL ⊢
        rw [eZ 53 (by omega), eZ 55 (by omega), eZ 56 (by omega), eZ 52 (by omega), eZ 54 (by omega), eZ 44 (by omega), eZ 12 (by omega), eZ 38 (by omega)]
        obtain ⟨z1, z2, z3, z4, z5, z6, z7⟩ := ciL
        refine ⟨z1, z2, z3, z4, z5, fun h => ⟨(z6 h).1, ?_⟩, z7⟩
        rw [← (z6 h).2]
        exact cnt_eq _ (fun x hx => by rw [eZ 45 (by omega), eZ 54 (by omega)])
      · intro _ h; rw [eZ 11 (by omega), eL 11 (by omega)] at h; exact absurd h e11
      · rw [eZ 7 (by omega), eL 7 (by omega), e7]; intro h; exact absurd h (by decide)
      · rw [eZ 10 (by omega), eL 10 (by omega), eo 10 j (by omega) (by omega) (by omega)]; exact a5
    · intro b hb hbj _ li
      have li' : isLO σ b j := isLO_sm (fun f hf => by rw [eZ f (by omega), eL f (by omega), eof f (by omega) (by omega) (by omega)]) (fun f x y => by rw [eZ f (by omega), eL f (by omega), eof f (by omega) (by omega) (by omega)]) li
      refine ⟨li', ?_⟩
      intro kb hch
      have k12 := li'.2.2.1
      have kk : cl (σ 38 j) ≤ cl (σ 55 j) := hcnt k12
      have ech : chL Z j = chL σ j ++ [cl (σ1 44 0)] := by
        have q1 : chL Z j = chL L j := by unfold chL; rw [eZ 53 (by omega), eZ 52 (by omega)]
        have q2 : chL σ1 j = chL σ j := by unfold chL; rw [eof 53 (by omega) (by omega) (by omega), eof 52 (by omega) (by omega) (by omega)]
        rw [q1, ← hL, chL_lg (nb_mono g44 (by omega)) (by omega), q2]
      have hat : EnAt Z υ (M + 1) (cl (σ1 44 0)) (gs (256 * pg) (hv (256 * pg) l σ τ j)) := by
        refine lg_at (kd := 4) (n := 0) (τ := υ0) (by omega) (by omega) (nb_mono g44 hE) (nb_mono g50 (by omega)) ngs.symm nh (by omega) (by omega) (fun f hf => by rw [eZ f hf, hL]) (by rw [← hυ, t2_49s]) (by omega) (by omega) (by omega) (by omega) (by omega)
      have hout := ch_out hat (by rcases (gs_ok (HI_vok a1) (by show mc τ j < _; omega)).2 with e | e <;> omega) hch
      rw [ech, ← List.append_assoc, hvZ]
      have k45 : cl (Z 45 (cl (σ1 44 0))) = 4 := by
        rw [eZ 45 (by omega), ← hL, lg_en (by decide), m_entry_45]; rfl
      have hgo : ge (256 * pg) Z (cl (σ1 44 0)) (gs (256 * pg) (hv (256 * pg) l σ τ j)) = gs (256 * pg) (hv (256 * pg) l σ τ j) := by
        rw [← ngs]; exact ge_out k45
      rw [hgo] at hout
      exact hout
    · refine GI_st g hj (.inl h7) (fun f i hf => by rw [eZ f (by omega), eL f (by omega)]; exact gbase f i hf) ?_ ?_ ?_ ?_
      · rw [eZ 44 (by omega), ← hL, lg_44, (cl_inc g44 (by omega)).1]; exact nb_n (by have := g44.2; omega) (by omega)
      · rw [eZ 50 (by omega), ← hL, lg_50]
        have : σ1 50 0 + nI 0 = σ1 50 0 := by show σ1 50 0 + 0 = _; exact Int32.add_zero _
        rw [this]; exact g50
      · rw [eZ 72 (by omega), eL 72 (by omega), eo 72 0 (by omega) (by omega) (by omega)]; exact g.2.2.2.1
      · rw [← hZ, u2_ss]
