theorem lvo_cg {σ : (Nat → Nat → Int32)} {g g' : Nat → Int32} : ∀ n, (∀ t, t < n → g t = g' t) → k_lvo σ g n = k_lvo σ g' n
  | 0, _ => rfl
  | n + 1, h => by
    unfold k_lvo
    rw [lvo_cg n (fun t ht => h t (by omega)), h n (by omega)]
theorem lv_cg {σ : (Nat → Nat → Int32)} {j : Nat} {kd ln : Int32} {g g' : Nat → Int32} (h : ∀ t, t < cl ln → g t = g' t) : k_lv σ j kd ln g = k_lv σ j kd ln g' := by
  unfold k_lv
  rw [lvo_cg (cl ln) h]
theorem RR_stp {n pg rm c t j : Nat} {z z' : CZ} {s : (Nat → Nat → Int32)} {τ : (Nat → Nat → Int64)} (hc : c ≤ 511) (S : SC n pg rm c z.1) (H : RR n pg rm (c + 1) z (s, τ)) (J : JR n pg rm c j t s τ) (ht : t < 2000) (hj : j < n) (q2 : m_stall s j = false) (st : StY n pg rm j z z') : RR n pg rm (c + 1) z' (m_nx0 s τ j, m_stT s τ j) := by
  obtain ⟨l, inv, oj, h7⟩ := J
  have hn4 := inv.1.1.2.2.2.2.2.2.1
  have hp16 := inv.1.1.2.2.2.2.2.2.2.2.1
  have hrm : rm ≤ 32 := inv.1.1.2.2.2.2.2.2.2.2.2.2
  have y3 : s 3 0 = nI rm := inv.1.1.2.2.2.1
  have hHj := inv.2.1 j (by omega)
  have hI := hHj.1
  have h100 := hI.2.2.2.2.2.2.1.2
  obtain ⟨ra, rt⟩ := H.2.1 j hj
  have hw : w_W pg j z.1 s z.1 := ⟨ra.1, ra.2.1, ra.2.2.1, ra.2.2.2.1, ra.2.2.2.2, S.1.1, w_F_rf⟩
  have e19 : z.2.1 19 j = τ 19 j := rt.2.1
  obtain ⟨o, vo, vi, W0, wo0⟩ := w_stp (τ := τ) (υ := z.2.1) hw hI.1 hp16 e19
  have W : w_W pg j z.1 (m_stx s τ j) (k_ad3 z.2.1 pg j z.1) := W0
  have wo : w_O j o (cl (s 38 j)) (m_stx s τ j) (k_ad3 z.2.1 pg j z.1) := wo0
  have vR := st_R (τ := τ) hI.1 (nb_mono hI.2.2.2.2.2.2.1 (by omega))
  have vF := vR.1
  have vQ := v_Q_stx (j := j) (s := s) (τ := τ)
  have so : ∀ f, f < 15 ∨ 43 < f → f ≠ 63 → f ≠ 74 → m_stx s τ j f = s f := fun f a b c => funext fun i => F_o vF a b c
  have u37 : k_ad3 z.2.1 pg j z.1 37 = z.1 37 := ms_37
  have wF : w_F j z.1 (k_ad3 z.2.1 pg j z.1) := W.2.2.2.2.2.2
  have ulo : ∀ f, f < 15 ∨ (37 < f ∧ f < 100) ∨ 108 < f → k_ad3 z.2.1 pg j z.1 f = z.1 f := fun f hf => funext fun i => wF_lo wF hf
  have raN : RA pg j (m_stx s τ j) (k_ad3 z.2.1 pg j z.1) := ⟨W.1, W.2.1, W.2.2.1, W.2.2.2.1, W.2.2.2.2.1⟩
  have e37 : z.1 37 j = s 37 j := rt.1
  have e38 : z.1 38 j = s 38 j := (rt.2.2.2.2.2.2.2.1 h7).1
  have kes := (rt.2.2.2.2.2.2.2.1 h7).2
  have z7 : z.1 7 j = s 7 j := rt.2.2.1
  have s74 : s 74 0 = 0 := inv.1.2.2.2.2.1
  have Vh : ∀ h, h < n → Hw pg (c + 1) s h := fun h hh => Hw_up (inv.2.1 h (by omega)).w (by omega)
  have e4 : k_ad4 z.2.1 pg j z.1 = u2 (k_ad3 z.2.1 pg j z.1) 37 j (z.1 37 j + 1) := by unfold k_ad4; rw [u37]
  have x7 : m_stx s τ j 7 = s 7 := so 7 (by omega) (by omega) (by omega)
  have x11 : m_stx s τ j 11 = s 11 := so 11 (by omega) (by omega) (by omega)
  have gS : ∀ S' : (Nat → Nat → Int32), (∀ f, f ≠ 74 → S' f = m_stx s τ j f) → gst S' j := fun S' eS => by unfold gst; rw [eS 7 (by decide), x7]; exact h7
  unfold StY at st
  rw [e4, e19] at st
  generalize k_ad3 z.2.1 pg j z.1 = U3 at *
  cases o with
  | false =>
    have u106 := wo.1 rfl
    obtain ⟨p37, p38, p74, p39, -⟩ := vo.2.1 rfl
    have x74 : m_stx s τ j 74 0 = 0 := by rw [p74]; exact s74
    have ep : m_pst (m_stx s τ j) j = m_stx s τ j := by unfold m_pst; rw [if_neg (fun w => w.2 x74)]
    have eT : m_stT s τ j = t2 τ 19 j (τ 19 j + 1) := by unfold m_stT m_psT; rw [if_neg (fun w => w.2 x74)]
    have eS : ∀ f, f ≠ 74 → m_nx0 s τ j f = m_stx s τ j f := fun f hf => by rw [nx_e hf, ep]
    rcases st with ⟨-, ez⟩ | ⟨w, -⟩ | ⟨w, -⟩
    · rw [ez, eT]
      refine RR_st (z := z) (y := (s, τ)) hp16 hn4 (by omega) Vh H hj (fun f i => ?_) (RA_nf raN (fun f hf => eS f (by omega)) (fun _ _ => rfl) (fun w => ⟨by rw [← eS 61 (by decide)]; exact w, fun p _ => by rw [eS 63 (by decide)]⟩)) ?_ vF eS ⟨fun _ => ⟨?_, fun i hi => ?_⟩, fun w => absurd (gS _ eS) w⟩ (CM_stx H.2.2.2.2.2.2 vF eS)
      · rcases wF f i with e | e
        · exact Or.inl e
        · exact Or.inr (Or.inl e)
      · rw [u37, eS 37 (by decide), p37]; exact e37
      · rw [ulo 38 (by omega), eS 38 (by decide), p38]; exact e38
      · rw [eS 38 (by decide), p38] at hi
        exact KE_old hI vQ eS hi (p39 39 _ (by omega) (by omega)) (kes i hi) (by unfold k_sl; rw [ulo 112 (by omega), ulo 117 (by omega)])
    · exact absurd u106 w
    · exact absurd u106 w
  | true =>
    obtain ⟨p37, p38, p74, p39, p42, p40, p3, p2, p27⟩ := vo.2.2 rfl
    obtain ⟨o106, o0, o1, o2⟩ := wo.2 rfl
    have n106 : ¬ U3 106 j = 0 := by rw [o106]; rcases p3 with e | e | e <;> rw [e] <;> decide
    have nfull : ¬ (s 7 j = 1 ∧ ¬ s 11 j = 0 ∧ s 3 0 ≤ s 55 j) := fun w => by
      have a := vi rfl
      unfold m_stall at q2
      have f : m_full s j = true := decide_eq_true w
      rw [a.1, a.2, f] at q2
      exact absurd q2 (by decide)
    have hU : s 7 j = 1 → ¬ s 11 j = 0 → cl (s 55 j) < rm := fun a b => by
      have c2 := (hHj.2.1 b).2.1
      rcases Nat.lt_or_ge (cl (s 55 j)) rm with w | w
      · exact w
      · exact absurd ⟨a, b, by rw [y3, c2.1]; exact (nIv_le (by omega) (by have := c2.2; omega)).mpr w⟩ nfull
    have b38 : cl (s 38 j) ≤ 63 := by
      have bk : s 7 j = 2 ∨ s 7 j = 3 → cl (s 38 j) ≤ 63 := fun e => by
        obtain ⟨-, -, -, -, -, -, X, W, kb, -, b7, -⟩ := hHj.2.2.2.1 e
        omega
      rcases h7 with e | e | e
      · by_cases h11 : s 11 j = 0
        · rw [hHj.2.2.1 e h11]; decide
        · obtain ⟨c1, c2, c3, c4, c5, c6, c7⟩ := hHj.2.1 h11
          have := hU e h11
          by_cases h12 : s 12 j = 0
          · have a := (c6 h12).2
            have b := cnt_le (σ := s) (h := j) (cl (s 55 j))
            omega
          · have := (c7 h12).2; omega
      · exact bk (Or.inl e)
      · exact bk (Or.inr e)
    have k38 : cl (u2 U3 37 j (z.1 37 j + 1) 38 j) = cl (s 38 j) := by rw [u2_ne (by decide), ulo 38 (by omega), e38]
    have k112 : cl (u2 U3 37 j (z.1 37 j + 1) 112 j) = cl (z.1 112 j) := by rw [u2_ne (by decide), ulo 112 (by omega)]
    have kc : k_kp (u2 U3 37 j (z.1 37 j + 1)) j = k_keep (u2 U3 37 j (z.1 37 j + 1)) j (cl (z.1 112 j)) (cl (s 38 j)) := by rw [kp_c (by rw [k38]; omega), k38, k112]
    obtain ⟨g38, g117, g118, g119, gx, go⟩ := keep_v (u := u2 U3 37 j (z.1 37 j + 1)) (j := j) (f := cl (z.1 112 j)) (c := cl (s 38 j))
    have gF := fun F i => keep_F (u := u2 U3 37 j (z.1 37 j + 1)) (j := j) (f := cl (z.1 112 j)) (c := cl (s 38 j)) (F := F) (i := i)
    rw [kc] at st
    have b112 : cl (z.1 112 j) ≤ 63 := (S.1.2.2.2.2 j hj).1.2
    have m64 : (cl (z.1 112 j) + cl (s 38 j)) % 64 < 64 := Nat.mod_lt _ (by decide)
    rw [u2_ne (by decide)] at g117 g118
    have g119 : ∀ t, t < 32 → k_keep (u2 U3 37 j (z.1 37 j + 1)) j (cl (z.1 112 j)) (cl (s 38 j)) 119 (32 * (64 * j + (cl (z.1 112 j) + cl (s 38 j)) % 64) + t) = U3 108 (32 * j + t) := fun t ht => by rw [g119 t ht, u2_ne (by decide)]
    have hd0 : s 7 j = 1 → k_hd0 (u2 U3 37 j (z.1 37 j + 1)) j = k_lv (u2 U3 37 j (z.1 37 j + 1)) j (U3 106 j) (U3 107 j) (fun t => U3 108 (32 * j + t)) := fun e => by
      unfold k_hd0
      rw [u2_ne (by decide), ulo 7 (by omega), z7, if_pos e, u2_ne (by decide), u2_ne (by decide), u2_ne (by decide)]
    have hd1 : ¬ s 7 j = 1 → k_hd0 (u2 U3 37 j (z.1 37 j + 1)) j = k_keep (u2 U3 37 j (z.1 37 j + 1)) j (cl (z.1 112 j)) (cl (s 38 j)) := fun e => by
      unfold k_hd0
      rw [u2_ne (by decide), ulo 7 (by omega), z7, if_neg e, kc]
    generalize hKP : k_keep (u2 U3 37 j (z.1 37 j + 1)) j (cl (z.1 112 j)) (cl (s 38 j)) = KP at *
    have ko : ∀ F, F ≠ 37 → F ≠ 38 → F ≠ 117 → F ≠ 118 → F ≠ 119 → KP F = U3 F := fun F a b c d e => by rw [go F b c d e, u2_ne a]
    have kp37 : KP 37 j = z.1 37 j + 1 := by rw [go 37 (by decide) (by decide) (by decide) (by decide), u2_ss]
    have keepRR : ∀ S' : (Nat → Nat → Int32), (∀ f, f ≠ 74 → S' f = m_stx s τ j f) → RR n pg rm (c + 1) (KP, t2 z.2.1 19 j (τ 19 j + 1), z.2.2) (S', t2 τ 19 j (τ 19 j + 1)) := fun S' eS => by
      refine RR_st (z := z) (y := (s, τ)) hp16 hn4 (by omega) Vh H hj (fun f i => ?_) (RA_nf raN (fun f hf => eS f (by omega)) (fun f hf => ko f (by omega) (by omega) (by omega) (by omega) (by omega)) (fun w => ⟨by rw [← eS 61 (by decide)]; exact w, fun p _ => by rw [eS 63 (by decide)]⟩)) ?_ vF eS ⟨fun _ => ⟨?_, fun i hi => ?_⟩, fun w => absurd (gS _ eS) w⟩ (CM_stx H.2.2.2.2.2.2 vF eS)
      · rcases gF f i with e | e | e
        · rw [e]
          by_cases x : f = 37 ∧ i = j
          · obtain ⟨x1, x2⟩ := x
            subst x1; subst x2
            exact Or.inr (Or.inl ⟨by omega, by show 1 * i ≤ i; omega, by show i < 1 * i + 1; omega⟩)
          · have e' : u2 U3 37 j (z.1 37 j + 1) f i = U3 f i := by
              by_cases y1 : f = 37
              · subst y1; rw [u2_sn (fun w => x ⟨rfl, w⟩)]
              · rw [u2_ne y1]
            rw [e']
            rcases wF f i with w | w
            · exact Or.inl w
            · exact Or.inr (Or.inl w)
        · exact Or.inr (Or.inr (Or.inl e))
        · exact Or.inr (Or.inr (Or.inr e))
      · rw [kp37, eS 37 (by decide), p37, e37]
      · rw [g38, eS 38 (by decide), p38]
        rw [hI.2.2.2.2.2.2.1.1, cl_nI (by omega)]
      · have c38' : cl (S' 38 j) = cl (s 38 j) + 1 := by rw [eS 38 (by decide), p38]; exact (cl_inc hI.2.2.2.2.2.2.1 (by omega)).2
        rw [c38'] at hi
        have es : ∀ i, k_sl KP j i = 64 * j + (cl (z.1 112 j) + i) % 64 := fun i => by unfold k_sl; rw [ko 112 (by decide) (by decide) (by decide) (by decide) (by decide), ulo 112 (by omega)]
        by_cases x : i = cl (s 38 j)
        · subst x
          refine ⟨by rw [es, g117, eS 39 (by decide)]; exact o106, fun q a ha => ?_⟩
          rw [eS 39 (by decide)] at q
          rw [eS 43 (by decide), eS 31 (by decide)]
          refine vQ.2.2 (fun w => ?_) q a ha
          rw [p37] at w
          have : s 37 j + 1 = s 37 j + 0 := by rw [Int32.add_zero]; exact w
          exact absurd ((Int32.add_right_inj _).mp this) (by decide)
        · have hi2 : i < cl (s 38 j) := by omega
          refine KE_old hI vQ eS hi2 (p39 39 _ (by omega) (by omega) (by omega)) (kes i hi2) ?_
          rw [es, gx _ (by omega), u2_ne (by decide), ulo 117 (by omega)]
          rfl
    by_cases h1 : s 7 j = 1
    · have x74 : ¬ m_stx s τ j 74 0 = 0 := by rw [p74]; decide
      have n38X : nb (m_stx s τ j 38 j) 100 := by rw [p38, (cl_inc hI.2.2.2.2.2.2.1 (by omega)).1]; exact nb_n (by omega) (by omega)
      have VhX : ∀ h, h < n → Hw pg (c + 1) (m_stx s τ j) h := fun h hh => Hw_stx (Vh h hh) vR n38X (by omega)
      have R0 := keepRR (m_stx s τ j) (fun _ _ => rfl)
      by_cases h11 : s 11 j = 0
      · have s38 : s 38 j = 0 := hHj.2.2.1 h1 h11
        have c38 : cl (s 38 j) = 0 := by rw [s38]; rfl
        have ep : m_pst (m_stx s τ j) j = m_leave (m_stx s τ j) j 0 := by
          unfold m_pst
          rw [if_pos ⟨by rw [x7]; exact h1, x74⟩, if_neg (by rw [x11]; exact fun w => w h11), p38, s38]
          rfl
        have eT : m_stT s τ j = t2 τ 19 j (τ 19 j + 1) := by unfold m_stT m_psT; rw [if_pos ⟨by rw [x7]; exact h1, x74⟩, if_neg (by rw [x11]; exact fun w => w h11)]
        have i115 : z.1 115 j = 0 := by rw [(rt.2.2.2.2.2.1.1 h1).1]; exact h11
        rcases st with ⟨w, -⟩ | ⟨-, -, ez⟩ | ⟨-, -, w, -⟩
        · exact absurd w n106
        · rw [ez, eT, hd0 h1]
          obtain ⟨nh, -⟩ := HI_step (ς := m_stx s τ j) (υ := t2 τ 19 j (τ 19 j + 1)) hI (by omega) vo (fun _ => by omega) (fun _ _ => rfl) t2_19s
          have oi2 : OI (c + 1) (l1 l s τ j) (m_stx s τ j) := by
            refine OI_st inv.2.2.1 (Nat.le_refl _) (fun f x y => so f (by omega) (by omega) (by omega)) (fun h _ => by rw [so 10 (by omega) (by omega) (by omega)]) ?_
            intro h hh x1 x2
            by_cases e : h = j
            · subst e
              rw [l1_s]
              have w := vo.1 x2
              have eg : gl (s 27 h) (m_stx s τ h 27 h) (cl (m_stx s τ h 37 h)) (l h) = l h := by unfold gl; rw [if_neg (fun h => h.1 x2)]
              refine ⟨by rw [x7]; exact h1, w.1, w.2.1, ?_⟩
              rw [eg, p37, p38, (cl_inc hI.2.2.2.1 (by have := hI.2.2.1; omega)).2, (cl_inc hI.2.2.2.2.2.2.1 (by omega)).2]
              omega
            · have sh := sm_F (τ := τ) (υ := τ) vF e rfl
              rw [sh.f1 7 rfl, sh.f1 27 rfl, sh.f1 28 rfl, sh.f1 37 rfl, sh.f1 38 rfl, l1_n e]
              exact ⟨x1, x2, rfl, id⟩
          have kp112 : KP 112 = z.1 112 := by rw [ko 112 (by decide) (by decide) (by decide) (by decide) (by decide), ulo 112 (by omega)]
          have R1 := RR_leave (z := (KP, t2 z.2.1 19 j (τ 19 j + 1), z.2.2)) (y := (m_stx s τ j, t2 τ 19 j (τ 19 j + 1))) (M := 2000 * c + t + 1) (l := l1 l s τ j) (d := c + 1) (k := 0) (by show cl (KP 112 j) ≤ 63; rw [kp112]; exact b112) hp16 hn4 (by omega) VhX R0 hj (gS _ (fun _ _ => rfl)) nh (by show nb (m_stx s τ j 10 j) (c + 1); rw [so 10 (by omega) (by omega) (by omega)]; exact nb_up hHj.2.2.2.2.1 (by omega)) oi2 (by omega) (by show cl (m_stx s τ j 38 j) = 0 + 1; rw [p38, s38]; rfl)
          have VhL : ∀ h, h < n → Hw pg (c + 1) (m_leave (m_stx s τ j) j 0) h := fun h hh => Hw_leave (VhX h hh) (by omega)
          have e0 : cl (KP 38 j) = 1 := by rw [g38, c38]; rfl
          have sl0 : k_sl KP j 0 = 64 * j + (cl (z.1 112 j) + cl (s 38 j)) % 64 := by unfold k_sl; rw [kp112, c38]
          have l107 : cl (U3 107 j) ≤ 32 := by
            rcases p3 with e | e | e
            · rw [(o0 e).1]; decide
            · obtain ⟨m, m1, m2⟩ := p40 e
              rw [(o1 e).1, m2, cl_nI (by omega)]; exact m1
            · rw [o2 e]; decide
          have eL : k_l1 KP j = k_drop (k_lv KP j (U3 106 j) (U3 107 j) (fun t => U3 108 (32 * j + t))) j (cl (z.1 112 j)) 1 1 := by
            unfold k_l1
            rw [sl0, g117, g118, e0, kp112, lv_cg (g' := fun t => U3 108 (32 * j + t)) (fun t ht => g119 t (by omega))]
            rfl
          rw [eL] at R1
          have R2 := RR_112 (z := (k_drop (k_lv KP j (U3 106 j) (U3 107 j) (fun t => U3 108 (32 * j + t))) j (cl (z.1 112 j)) 1 1, t2 z.2.1 19 j (τ 19 j + 1), z.2.2)) (y := (m_leave (m_stx s τ j) j 0, t2 τ 19 j (τ 19 j + 1))) (C := k_lv (u2 U3 37 j (z.1 37 j + 1)) j (U3 106 j) (U3 107 j) (fun t => U3 108 (32 * j + t))) hp16 (by omega) VhL R1 hj (by show cl (m_leave (m_stx s τ j) j 0 38 j) = 0; rw [m_leave_38]; rfl) (fun f hf => ?_) (fun f h1 h2 => ?_) (fun f h i hne h1 h2 hi => ?_)
          · exact RR_74 (y := (m_leave (m_stx s τ j) j 0, t2 τ 19 j (τ 19 j + 1))) hp16 (by omega) VhL R2 (fun f hf => by rw [nx_e hf, ep])
          · show k_lv (u2 U3 37 j (z.1 37 j + 1)) j (U3 106 j) (U3 107 j) (fun t => U3 108 (32 * j + t)) f = k_drop (k_lv KP j (U3 106 j) (U3 107 j) (fun t => U3 108 (32 * j + t))) j (cl (z.1 112 j)) 1 1 f
            by_cases x : f = 38
            · subst x
              rw [k_lv_ne (by decide) (by decide), u2_ne (by decide), ulo 38 (by omega)]
              funext i
              unfold k_drop
              by_cases y1 : i = j
              · subst y1; rw [u2_ss, e38, s38]; rfl
              · rw [u2_sn y1, u2_ne (by decide), k_lv_ne (by decide) (by decide)]
                rcases gF 38 i with w | w | w
                · rw [w, u2_ne (by decide), ulo 38 (by omega)]
                · exact absurd w.2 y1
                · exact absurd w.1 (by decide)
            · rw [k_drop_ne (by omega) x]
              exact cg_lv (fun F a b => (go F a (by omega) (by omega) (by omega)).symm) f x hf
          · show k_lv (u2 U3 37 j (z.1 37 j + 1)) j (U3 106 j) (U3 107 j) (fun t => U3 108 (32 * j + t)) f = k_drop (k_lv KP j (U3 106 j) (U3 107 j) (fun t => U3 108 (32 * j + t))) j (cl (z.1 112 j)) 1 1 f
            rw [k_lv_ne (by omega) (by omega), k_drop_ne (by omega) (by omega), k_lv_ne (by omega) (by omega), go f (by omega) (by omega) (by omega) (by omega)]
          · show k_lv (u2 U3 37 j (z.1 37 j + 1)) j (U3 106 j) (U3 107 j) (fun t => U3 108 (32 * j + t)) f _ = k_drop (k_lv KP j (U3 106 j) (U3 107 j) (fun t => U3 108 (32 * j + t))) j (cl (z.1 112 j)) 1 1 f _
            rw [k_lv_ne (by omega) (by omega)]
            have ed : k_drop (k_lv KP j (U3 106 j) (U3 107 j) (fun t => U3 108 (32 * j + t))) j (cl (z.1 112 j)) 1 1 f (zS f * h + i) = KP f (zS f * h + i) := by
              by_cases x : f = 112
              · subst x
                have hi1 : i < 1 := hi
                unfold k_drop
                rw [u2_ne (by decide), u2_sn (by show ¬ 1 * h + i = j; omega), k_lv_ne (by decide) (by decide)]
              · rw [k_drop_ne x (by omega), k_lv_ne (by omega) (by omega)]
            rw [ed]
            rcases gF f (zS f * h + i) with w | w | ⟨w, w1, w2⟩
            · exact w.symm
            · exact absurd w.1 (by omega)
            · exact absurd (sl_ne hi w1 w2) hne
        · rw [ulo 115 (by omega)] at w; exact absurd i115 w
      · have ep : m_pst (m_stx s τ j) j = lg (m_stx s τ j) j 4 0 := by
          unfold m_pst
          rw [if_pos ⟨by rw [x7]; exact h1, x74⟩, if_pos (by rw [x11]; exact h11)]
          rfl
        have eT : m_stT s τ j = t2 (t2 τ 19 j (τ 19 j + 1)) 49 (cl (m_stx s τ j 44 0)) (t2 τ 19 j (τ 19 j + 1) 19 j) := by unfold m_stT m_psT; rw [if_pos ⟨by rw [x7]; exact h1, x74⟩, if_pos (by rw [x11]; exact h11)]
        have i115 : z.1 115 j = s 11 j := (rt.2.2.2.2.2.1.1 h1).1
        rcases st with ⟨w, -⟩ | ⟨-, w, -⟩ | ⟨-, -, -, a, fr, ez⟩
        · exact absurd w n106
        · rw [ulo 7 (by omega), z7, ulo 115 (by omega), i115] at w
          exact absurd (w h1) h11
        · obtain ⟨c1, c2, c3, c4, c5, c6, c7⟩ := hHj.2.1 h11
          have hi := ue_le inv (show j < 4 by omega)
          have k1 : ∀ F, F = 120 ∨ F = 121 ∨ F = 132 ∨ F = 133 ∨ F = 134 ∨ F = 135 ∨ F = 116 → KP F = z.1 F := fun F hF => by rw [ko F (by omega) (by omega) (by omega) (by omega) (by omega), ulo F (by omega)]
          have frK : FRQ n rm z.2.2.1 KP a := by
            unfold FRQ at fr ⊢
            rw [k1 120 (by omega), k1 121 (by omega), k1 132 (by omega), k1 133 (by omega), k1 134 (by omega), k1 135 (by omega)]; exact fr
          have R1 := RR_lg (a := a) (z := (KP, t2 z.2.1 19 j (τ 19 j + 1), z.2.2)) (y := (m_stx s τ j, t2 τ 19 j (τ 19 j + 1))) (by show nb (KP 132 0) (rm - 1); rw [k1 132 (by omega)]; exact S.2.2.2.2.1) hp16 hn4 hrm (by omega) VhX R0 hj (by show m_stx s τ j 7 j = 1; rw [x7]; exact h1) (by show ¬ m_stx s τ j 11 j = 0; rw [x11]; exact h11) (by show nb (m_stx s τ j 53 j) (cl (m_stx s τ j 55 j)); rw [so 53 (by omega) (by omega) (by omega), so 55 (by omega) (by omega) (by omega)]; exact c1) (by show cl (m_stx s τ j 55 j) < rm; rw [so 55 (by omega) (by omega) (by omega)]; exact hU h1 h11) (by show nb (m_stx s τ j 55 j) rm; rw [so 55 (by omega) (by omega) (by omega)]; exact c2) (by show nb (m_stx s τ j 56 j) (cl (m_stx s τ j 55 j)); rw [so 56 (by omega) (by omega) (by omega), so 55 (by omega) (by omega) (by omega)]; exact c3) (by show m_stx s τ j 12 j = 0 → cl (m_stx s τ j 56 j) + cl (m_stx s τ j 53 j) = cl (m_stx s τ j 55 j); rw [so 12 (by omega) (by omega) (by omega), so 56 (by omega) (by omega) (by omega), so 53 (by omega) (by omega) (by omega), so 55 (by omega) (by omega) (by omega)]; exact fun w => (c6 w).1) (by show nb (m_stx s τ j 44 0) 23999; rw [so 44 (by omega) (by omega) (by omega)]; exact nb_up inv.1.2.1 (by omega)) (by show nb (m_stx s τ j 50 0) 40000; rw [so 50 (by omega) (by omega) (by omega)]; exact nb_up inv.1.2.2.1 (by omega)) frK
          dsimp only at R1
          rw [ez, eT]
          have eR : k_icR z.2.2.1 (u2 U3 37 j (z.1 37 j + 1)) rm j a = k_icR z.2.2.1 KP rm j a := by
            unfold k_icR
            rw [k1 116 (by omega), k1 133 (by omega), k1 132 (by omega), u2_ne (by decide), u2_ne (by decide), u2_ne (by decide), ulo 116 (by omega), ulo 133 (by omega), ulo 132 (by omega)]
          rw [eR, u2_ss, ← kp37]
          refine RR_74 (y := (lg (m_stx s τ j) j 4 0, t2 (t2 τ 19 j (τ 19 j + 1)) 49 (cl (m_stx s τ j 44 0)) (t2 τ 19 j (τ 19 j + 1) 19 j))) hp16 (by omega) (fun h hh => ?_) R1 (fun f hf => by rw [nx_e hf, ep])
          have w := VhX h hh
          exact Hw_nf w (fun f hf => lg_nf (by omega))
    · have ep : m_pst (m_stx s τ j) j = m_stx s τ j := by unfold m_pst; rw [if_neg (fun w => h1 (by rw [← x7]; exact w.1))]
      have eT : m_stT s τ j = t2 τ 19 j (τ 19 j + 1) := by unfold m_stT m_psT; rw [if_neg (fun w => h1 (by rw [← x7]; exact w.1))]
      rcases st with ⟨w, -⟩ | ⟨-, -, ez⟩ | ⟨-, w, -⟩
      · exact absurd w n106
      · rw [ez, eT, hd1 h1]
        exact keepRR _ (fun f hf => by rw [nx_e hf, ep])
      · rw [ulo 7 (by omega), z7] at w; exact absurd w h1
