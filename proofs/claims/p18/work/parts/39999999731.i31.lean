theorem CV_pair {n pg rm c r s : Nat} {σ : (Nat → Nat → Int32)} {τ : (Nat → Nat → Int64)} (hc : c ≤ 511) (H : CV n pg rm c σ τ) (t : TrAt σ n r s) (hp : ∀ i, i < pg → σ 63 i = 0) : CV n pg rm (c + 1) (m_pair σ r s) (t2 τ 19 r (τ 19 s)) := by
  obtain ⟨l, H⟩ := H
  have H0 := H
  have x := TrAt_R H t
  obtain ⟨g, hs, ho, hri⟩ := H
  have hn := g.1.2.2.2.2.2.2.1
  have hrm : rm ≤ 32 := g.1.2.2.2.2.2.2.2.2.2.2
  have hpg : pg ≤ 16 := g.1.2.2.2.2.2.2.2.2.1
  have hr4 : r < 4 := by have := t.2.2.1; omega
  have hs4 : s < 4 := by have := t.2.2.2.1; omega
  have sr : s ≠ r := t.2.2.2.2
  obtain ⟨a1, a2, a3, a4, a5, a6, a0⟩ := hs r hr4
  obtain ⟨d1, d2, d3, d4, d5, d6, d0⟩ := hs s hs4
  have e11 : σ 11 r = 0 := a0 (.inr x.1)
  have k38 : σ 38 s = 0 := d3 x.2.1 x.2.2.1
  have hmem : ∀ a, a < 256 * pg → σ 15 (4096 * r + a) = σ 15 (4096 * s + a) := fun a ha => x.2.2.2 a ha (hp _ (by omega))
  generalize hυ : t2 τ 19 r (τ 19 s) = υ
  have u_r : υ 19 r = τ 19 s := by rw [← hυ, t2_19s]
  have u_n : ∀ h, h ≠ r → υ 19 h = τ 19 h := fun h hh => by rw [← hυ, t2_19 hh]
  have u49 : υ 49 = τ 49 := by rw [← hυ, t2_49]
  unfold m_pair
  generalize hC : m_copy σ s r = C
  have cne : ∀ f, f < 16 ∨ f = 19 ∨ 38 < f → C f = σ f := fun f hf => by rw [← hC]; exact cp_ne hf
  generalize hZ : m_pr2 (m_noCh (m_pr1 C r s (m_mx σ)) s) r = Z
  have eC : ∀ f, f ≠ 7 → f ≠ 8 → f ≠ 9 → f ≠ 11 → f ≠ 12 → f ≠ 13 → f ≠ 53 → f ≠ 55 → f ≠ 56 → f ≠ 58 → f ≠ 59 → f ≠ 60 → f ≠ 61 → Z f = C f := by
    intro f q1 q2 q3 q4 q5 q6 q7 q8 q9 q10 q11 q12 q13
    rw [← hZ]; unfold m_pr2 m_pr1
    rw [u2_ne q13, u2_ne q12, u2_ne q11, u2_ne q10, u2_ne q5, u2_ne q4, u2_ne q1, noCh_ne q7 q8 q9, u2_ne q5, u2_ne q4, u2_ne q2, u2_ne q2, u2_ne q3, u2_ne q3, u2_ne q6]
  have eC' : ∀ f, f < 7 ∨ f = 10 ∨ (13 < f ∧ f < 53) ∨ f = 54 ∨ f = 57 ∨ 61 < f → Z f = C f := fun f hf => eC f (by omega) (by omega) (by omega) (by omega) (by omega) (by omega) (by omega) (by omega) (by omega) (by omega) (by omega) (by omega) (by omega)
  have e' : ∀ f, f < 7 ∨ f = 10 ∨ f = 14 ∨ f = 15 ∨ (38 < f ∧ f < 53) ∨ f = 54 ∨ f = 57 ∨ 61 < f → Z f = σ f := fun f hf => by rw [eC' f (by omega), cne f (by omega)]
  have ctl : ∀ f h, f = 7 ∨ f = 8 ∨ f = 9 ∨ f = 11 ∨ f = 12 ∨ f = 53 ∨ f = 55 ∨ f = 56 ∨ f = 58 ∨ f = 59 → h ≠ r → h ≠ s → Z f h = σ f h := by
    intro f h hf h1 h2
    rw [← hZ]
    unfold m_pr2 m_noCh m_pr1
    simp only [u2_app]
    have w : C f h = σ f h := by rw [cne f (by omega)]
    rcases hf with e | e | e | e | e | e | e | e | e | e <;> subst e <;> simp [h1, h2, w]
  have z7r : Z 7 r = 2 := by rw [← hZ]; unfold m_pr2 m_noCh m_pr1; simp [u2_app]
  have z11r : Z 11 r = 0 := by rw [← hZ]; unfold m_pr2 m_noCh m_pr1; simp [u2_app]
  have z8r : Z 8 r = nI s := by rw [← hZ]; unfold m_pr2 m_noCh m_pr1; simp [u2_app, Ne.symm sr]
  have z58 : Z 58 r = 0 := by rw [← hZ]; unfold m_pr2 m_noCh m_pr1; simp [u2_app]
  have z59 : Z 59 r = 0 := by rw [← hZ]; unfold m_pr2 m_noCh m_pr1; simp [u2_app]
  have z60 : Z 60 0 = -1 := by rw [← hZ]; unfold m_pr2 m_noCh m_pr1; simp [u2_app]
  have z61 : Z 61 0 = -1 := by rw [← hZ]; unfold m_pr2 m_noCh m_pr1; simp [u2_app]
  have z7s : Z 7 s = 1 := by
    have : C 7 s = 1 := by rw [cne 7 (by omega)]; exact x.2.1
    rw [← hZ]; unfold m_pr2 m_noCh m_pr1; simp [u2_app, sr, this]
  have z11s : Z 11 s = 1 := by rw [← hZ]; unfold m_pr2 m_noCh m_pr1; simp [u2_app, sr]
  have z12s : Z 12 s = 0 := by rw [← hZ]; unfold m_pr2 m_noCh m_pr1; simp [u2_app, sr]
  have z8s : Z 8 s = nI r := by rw [← hZ]; unfold m_pr2 m_noCh m_pr1; simp [u2_app]
  have z53s : Z 53 s = 0 := by rw [← hZ]; unfold m_pr2 m_noCh m_pr1; simp [u2_app]
  have z55s : Z 55 s = 0 := by rw [← hZ]; unfold m_pr2 m_noCh m_pr1; simp [u2_app]
  have z56s : Z 56 s = 0 := by rw [← hZ]; unfold m_pr2 m_noCh m_pr1; simp [u2_app]
  have z58s : Z 58 s = σ 58 s := by
    have : C 58 s = σ 58 s := by rw [cne 58 (by omega)]
    rw [← hZ]; unfold m_pr2 m_noCh m_pr1; simp [u2_app, sr, this]
  have z59s : Z 59 s = σ 59 s := by
    have : C 59 s = σ 59 s := by rw [cne 59 (by omega)]
    rw [← hZ]; unfold m_pr2 m_noCh m_pr1; simp [u2_app, sr, this]
  have hbZ : BYa Z := by
    intro f i hf
    rw [eC' f (by omega), ← hC]
    exact cp_by (INV_by H0) f i hf
  have vh : ∀ h f i, h ≠ r → 15 ≤ f → f ≤ 42 → f ≠ 19 → i < v_s f → Z f (v_s f * h + i) = σ f (v_s f * h + i) := by
    intro h f i hh q1 q2 q3 hi
    by_cases q : f ≤ 38
    · rw [eC' f (by omega), ← hC]; exact cp_h hh ⟨q1, q, q3⟩ hi
    · rw [e' f (by omega)]
  have sZ : ∀ h, h ≠ r → h ≠ s → Sm h σ Z τ υ := by
    intro h h1 h2
    refine ⟨?_, u_n h h1⟩
    intro f i hf hi
    unfold h_f at hf
    have hf := of_decide_eq_true hf
    by_cases q : 15 ≤ f ∧ f ≤ 42
    · have es : h_s f = v_s f := by unfold h_s; rw [if_neg (by omega), if_neg (by omega)]
      rw [es] at hi ⊢
      exact vh h f i h1 q.1 q.2 (by omega) hi
    by_cases q2 : f = 10 ∨ f = 52 ∨ f = 54 ∨ f = 57
    · rw [e' f (by omega)]
    have es : h_s f = 1 := by
      have : f = 7 ∨ f = 8 ∨ f = 9 ∨ f = 11 ∨ f = 12 ∨ f = 53 ∨ f = 55 ∨ f = 56 ∨ f = 58 ∨ f = 59 := by omega
      rcases this with e | e | e | e | e | e | e | e | e | e <;> (subst e; rfl)
    rw [es] at hi ⊢
    have : i = 0 := by omega
    subst this
    rw [Nat.one_mul, Nat.add_zero]
    exact ctl f h (by omega) h1 h2
  have ag : AgE σ Z τ υ := AgE_ne (fun f x y => e' f (by omega)) u49
  have cvs : cv (256 * pg) s Z = cv (256 * pg) s σ := by
    apply cv_eq; intro f i h1 h2 h3 h4 h5 h6
    exact vh s f i sr h1 (by omega) h3 h5
  have cvr : cv (256 * pg) r Z = cv (256 * pg) s σ := by
    apply cv_eq; intro f i h1 h2 h3 h4 h5 h6
    by_cases q : f = 15
    · subst q
      rw [e' 15 (by omega)]; exact hmem i (h6 rfl)
    rw [eC' f (by omega), ← hC]
    by_cases q2 : f = 31 ∨ f = 36
    · exact cp_b (INV_by H0) q2 h5
    by_cases q3 : f = 16 ∨ f = 18 ∨ f = 32 ∨ f = 34
    · exact cpv_i q3 h5
    · have es : v_s f = 1 := by
        unfold v_s
        rw [if_neg (by omega), if_neg (by omega), if_neg (by omega), if_neg (by omega), if_neg (by omega), if_neg (by omega), if_neg (by omega), if_neg (by omega), if_neg (by omega)]
      rw [es] at h5 ⊢
      have : i = 0 := by omega
      subst this
      rw [Nat.one_mul, Nat.one_mul, Nat.add_zero, Nat.add_zero]
      exact cpv_1 sr (by omega)
  have r1 : ∀ f, f = 17 ∨ (21 ≤ f ∧ f ≤ 30) ∨ f = 33 ∨ f = 35 ∨ f = 37 → Z f r = σ f s := fun f hf => by rw [eC' f (by omega), ← hC]; exact cpv_1 sr hf
  have s1 : ∀ f, (15 ≤ f ∧ f ≤ 42 ∧ f ≠ 19) → v_s f = 1 → Z f s = σ f s := by
    intro f hf es
    have := vh s f 0 sr hf.1 hf.2.1 hf.2.2 (by omega)
    rwa [es, Nat.one_mul, Nat.add_zero] at this
  generalize hk : (fun h => if h = r then l s else l h) = k
  have kr : k r = l s := by rw [← hk]; exact if_pos rfl
  have kn : ∀ h, h ≠ r → k h = l h := fun h hh => by rw [← hk]; exact if_neg hh
  have hvs : hv (256 * pg) k Z υ s = hv (256 * pg) l σ τ s := by unfold hv mc; rw [cvs, u_n s sr, kn s sr]
  have hvr : hv (256 * pg) k Z υ r = hv (256 * pg) l σ τ s := by unfold hv mc; rw [cvr, u_r, kr]
  have mcr : mc υ r = mc τ s := by unfold mc; rw [u_r]
  have z38r : Z 38 r = 0 := by rw [eC' 38 (by omega), ← hC]; exact cp_38
  refine ⟨k, ?_, ?_, ?_, .inl ⟨z60, z61⟩⟩
  · refine GI_st2 g hs4 (.inl x.2.1) (fun f i hf => by rw [e' f (by omega)]) ?_ ?_ ?_ ?_ ?_
    · intro b hb
      by_cases q1 : b = r
      · subst q1; exact .inr ⟨s, hs4, z8r⟩
      · by_cases q2 : b = s
        · subst q2; exact .inr ⟨r, hr4, z8s⟩
        · rw [ctl 8 b (by omega) q1 q2]; exact g.2.2.2.2.2.1 b hb
    · rw [e' 44 (by omega)]; exact nb_mono g.2.1 (by omega)
    · rw [e' 50 (by omega)]; exact nb_mono g.2.2.1 (by omega)
    · rw [e' 72 (by omega)]; exact g.2.2.2.1
    · rw [e' 74 (by omega)]; exact g.2.2.2.2.1
  · intro h h4
    by_cases hr' : h = r
    · subst hr'
      have nh : HI (256 * pg) (2000 * (c + 1)) k Z υ h := by
        obtain ⟨b1, b2, b3, b4, b5, b6, b7, b8⟩ := d1
        refine ⟨?_, by rw [mcr, u_r]; exact b2, by rw [mcr]; omega, by rw [mcr, r1 37 (by omega)]; exact b4, by rw [kr, r1 37 (by omega)]; exact b5, by rw [z38r]; exact nb_0, by rw [z38r]; exact nb_0, ?_⟩
        · obtain ⟨w1, w2, w3, w4, w5, w6, w7, w9, w8⟩ := b1
          refine ⟨by rw [e' 4 (by omega)]; exact w1, w2, w3, by rw [r1 33 (by omega)]; exact w4, by rw [r1 35 (by omega)]; exact w5, ?_, by rw [r1 30 (by omega)]; exact w7, by rw [r1 29 (by omega)]; exact w9, hbZ⟩
          intro i hi
          have : Z 34 (4 * h + i) = σ 34 (4 * s + i) := by rw [eC' 34 (by omega), ← hC]; exact cpv_i (f := 34) (by omega) hi
          rw [this]; exact w6 i hi
        · intro i hi
          rw [z38r] at hi
          exact absurd hi (by show ¬ i < 0; omega)
      refine ⟨nh, fun q => absurd z11r q, ?_, ?_, ?_, ?_, fun _ => z11r⟩
      · rw [z7r]; intro q; exact absurd q (by decide)
      · intro _
        refine ⟨z11r, ?_⟩
        unfold BI
        rw [z58, z59, z38r, hvr]
        have c0 : cl (0 : Int32) = 0 := rfl
        refine ⟨nb_0, nb_0, Nat.le_refl _, fun i _ q => absurd q (by rw [c0]; omega), fun q => by rw [z7r] at q; exact absurd q (by decide), [], hv (256 * pg) l σ τ s, 1, Nat.le_refl _, by rw [c0]; omega, ?_, ?_⟩
        · have ecm : cmL Z h = [] := by unfold cmL; rw [z58, z59]; rfl
          rw [ecm]
          exact ⟨rfl, by show mc τ s ≤ _; have := d1.2.2.1; omega, 0, rfl, rfl⟩
        · intro i hi li
          have : i = s := nIv_inj (li.1.symm.trans z8r) (by omega) (by omega)
          subst this
          refine ⟨?_, hvs.symm⟩
          unfold chL; rw [z53s]; rfl
      · rw [e' 10 (by omega)]; exact nb_mono a5 (by omega)
      · unfold CB
        rw [z58, z59]
        exact ⟨nb_0, nb_0, Nat.le_refl _, fun i _ q => absurd q (by show ¬ i < 0; omega)⟩
    · by_cases hs' : h = s
      · subst hs'
        have nh : HI (256 * pg) (2000 * (c + 1)) k Z υ h := by
          obtain ⟨b1, b2, b3, b4, b5, b6, b7, b8⟩ := d1
          have em : mc υ h = mc τ h := by unfold mc; rw [u_n h hr']
          refine ⟨?_, by rw [em, u_n h hr']; exact b2, by rw [em]; omega, by rw [em, s1 37 (by omega) rfl]; exact b4, by rw [kn h hr', s1 37 (by omega) rfl]; exact b5, by rw [s1 38 (by omega) rfl, s1 37 (by omega) rfl]; exact b6, by rw [s1 38 (by omega) rfl]; exact b7, ?_⟩
          · obtain ⟨w1, w2, w3, w4, w5, w6, w7, w9, w8⟩ := b1
            refine ⟨by rw [e' 4 (by omega)]; exact w1, w2, w3, by rw [s1 33 (by omega) rfl]; exact w4, by rw [s1 35 (by omega) rfl]; exact w5, ?_, by rw [s1 30 (by omega) rfl]; exact w7, by rw [s1 29 (by omega) rfl]; exact w9, hbZ⟩
            intro i hi
            have := vh h 34 i hr' (by omega) (by omega) (by omega) hi
            rw [show v_s 34 = 4 from rfl] at this
            rw [this]; exact w6 i hi
          · intro i hi
            rw [s1 38 (by omega) rfl, k38] at hi
            exact absurd hi (by show ¬ i < 0; omega)
        refine ⟨nh, ?_, ?_, ?_, ?_, ?_, ?_⟩
        · intro _
          unfold CI
          rw [z53s, z55s, z56s, s1 38 (by omega) rfl, k38]
          refine ⟨nb_0, nb_0, nb_0, fun i q => absurd q (by show ¬ i < 0; omega), fun i q => absurd q (by show ¬ i < 0; omega), fun _ => ⟨rfl, rfl⟩, fun q => absurd z12s q⟩
        · rw [z11s]; intro _ q; exact absurd q (by decide)
        · rw [z7s]; intro q; exact absurd q (by decide)
        · rw [e' 10 (by omega)]; exact nb_mono d5 (by omega)
        · obtain ⟨y1, y2, y3, y4⟩ := d6
          unfold CB
          rw [z58s, z59s, e' 57 (by omega)]
          exact ⟨nb_mono y1 (by omega), nb_mono y2 (by omega), y3, y4⟩
        · rw [z7s]; intro q; exact absurd q (by decide)
      · refine HH_sm (hs h h4) (sZ h hr' hs') ag (by rw [e' 4 (by omega)]) hbZ (kn h hr') (by omega) (by omega) (by omega) (by omega) hrm ?_
        intro q7 X W kb x1 x2
        refine ⟨X, W, x1, ?_⟩
        intro i hi li
        have ir : i ≠ r := by intro q; subst q; exact li.2.1 z11r
        have is' : i ≠ s := by
          intro q; subst q
          have : h = r := nIv_inj (li.2.2.2.1.symm.trans z8s) (by omega) (by omega)
          exact hr' this
        have li' : isLO σ h i := isLO_s2 (fun f hf => ⟨ctl f h (by omega) hr' hs', ctl f i (by omega) ir is'⟩) li
        have si := sZ i ir is'
        obtain ⟨y1, y2⟩ := x2 i hi li'
        have ci := (hs i hi).2.1 li'.2.1
        rw [chL_sm si (by have := ci.1.2; have := ci.2.1.2; omega), hv_sm si (kn i ir)]
        exact ⟨y1, y2⟩
  · refine OI_st ho (by omega) (fun f x y => e' f (by omega)) (fun h _ => by rw [e' 10 (by omega)]) ?_
    intro h _ y1 y2
    by_cases hr' : h = r
    · subst hr'; rw [x.1] at y1; exact absurd y1 (by decide)
    by_cases hs' : h = s
    · subst hs'
      rw [z7s, s1 27 (by omega) rfl, s1 28 (by omega) rfl, s1 37 (by omega) rfl, s1 38 (by omega) rfl, kn h hr']
      exact ⟨rfl, y2, rfl, id⟩
    · have sh := sZ h hr' hs'
      rw [sh.f1 7 rfl, sh.f1 27 rfl, sh.f1 28 rfl, sh.f1 37 rfl, sh.f1 38 rfl, kn h hr']
      exact ⟨y1, y2, rfl, id⟩
