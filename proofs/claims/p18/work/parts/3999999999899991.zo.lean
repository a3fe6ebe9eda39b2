theorem tk_en {n pg rm c M E j : Nat} {l : Nat → Nat} {s : (Nat → Nat → Int32)} {τ : (Nat → Nat → Int64)} (H : INV n pg rm c M E (c + 1) l s τ) (hj : j < 4) (h7 : s 7 j = 2 ∨ s 7 j = 3) (hr : cl (s 58 j) < cl (s 59 j)) (ht : τ 49 (m_tkE s j) = τ 19 j) (hM : M < 2147480000) : EnAt s τ M (m_tkE s j) (hv (256 * pg) l s τ j) := by
  obtain ⟨a1, a2, a3, a4, a5, a6, a0⟩ := H.2.1 j hj
  obtain ⟨e11, b1, b2, b3, b4, b5, X, W, kb, b6, b7, b8, b9⟩ := a4 h7
  rw [cmL_cons hr] at b8
  exact (ch_take b8 a1.2.2.1 (by omega) (by rw [ht]; exact a1.2.1)).1
theorem en_28 {S M j e : Nat} {l : Nat → Nat} {s : (Nat → Nat → Int32)} {τ : (Nat → Nat → Int64)} (H : EnAt s τ M e (hv S l s τ j)) : cl (s 45 e) = 3 → s 28 j = 1 → cl (s 47 e) = 64 := fun a b => by
  have k := H.2.2.2.1.2.2.2 a
  have c := cv_E (S := S) (j := j) (σ := s) 28 0 (by decide) (by decide) (by decide) (by decide) (by decide) (fun w => absurd w (by decide))
  rw [show v_s 28 = 1 from rfl, show 1 * j + 0 = j by omega, show 1 * 0 + 0 = 0 by omega] at c
  exact k (by show cv S j s 28 0 = 1; rw [← c]; exact b)
theorem tk3_ne {s : (Nat → Nat → Int32)} {j f : Nat} (hf : f < 15 ∨ (43 < f ∧ f ≠ 58 ∧ f ≠ 63)) : m_tk3 s j f = s f := m_tk3_ne (by omega) (by omega) (by omega) (by omega) (by omega) (by omega) (by omega) (by omega) (by omega) (by omega) (by omega) (by omega) (by omega) (by omega) (by omega) (by omega)
theorem tk3_in {n pg rm c M E j : Nat} {l : Nat → Nat} {s : (Nat → Nat → Int32)} {τ : (Nat → Nat → Int64)} (H : INV n pg rm c M E (c + 1) l s τ) (oj : OJ c j s) (hj : j < 4) (h7 : s 7 j = 2 ∨ s 7 j = 3) (hr : cl (s 58 j) < cl (s 59 j)) (ht : τ 49 (m_tkE s j) = τ 19 j) (hM : M < 2147480000) (hc : c ≤ 4000) : HI (256 * pg) M l (m_tk3 s j) τ j ∧ OI (c + 1) l (m_tk3 s j) ∧ OJ c j (m_tk3 s j) ∧ ∀ h, h < 4 → Hw pg c (m_tk3 s j) h := by
  have en := tk_en H hj h7 hr ht hM
  obtain ⟨g, hs, ho, hri⟩ := H
  obtain ⟨a1, a2, a3, a4, a5, a6, a0⟩ := hs j hj
  have h100 := a1.2.2.2.2.2.2.1.2
  have h7n : ¬ s 7 j = 1 := by rcases h7 with e | e <;> (rw [e]; decide)
  obtain ⟨t1, t2, t3, t4, t5⟩ := tk_HI a1 hM (by omega) en
  have ne3 : ∀ f, f < 15 ∨ (43 < f ∧ f ≠ 58 ∧ f ≠ 63) → m_tk3 s j f = s f := fun f hf => tk3_ne hf
  obtain ⟨b1, b2, b3, b4⟩ := a6
  have b2' := b2.2
  refine ⟨t1, ?_, OJ_st oj (fun f x y => ne3 f (by omega)) (by rw [ne3 10 (by omega)]), fun h hh => ?_⟩
  · refine OI_st ho (Nat.le_refl _) (fun f x y => ne3 f (by omega)) (fun h _ => by rw [ne3 10 (by omega)]) ?_
    intro h hh x1 x2
    have e : h ≠ j := by intro e; subst e; exact h7n x1
    have sh := t5 h e
    rw [sh.f1 7 rfl, sh.f1 27 rfl, sh.f1 28 rfl, sh.f1 37 rfl, sh.f1 38 rfl]
    exact ⟨x1, x2, rfl, id⟩
  · by_cases e : h = j
    · subst e
      refine ⟨t1.1, ?_, t1.2.2.2.2.2.2.1⟩
      unfold CB
      rw [m_tk3_58, nIv_inc, cl_nI (by omega), ne3 59 (by omega), ne3 57 (by omega)]
      exact ⟨nb_n (by omega) (by omega), b2, by omega, fun i x y => b4 i (by omega) y⟩
    · obtain ⟨w1, w2, w3⟩ := (hs h hh).w
      exact ⟨v_B_sm w1 (t5 h e) (by rw [ne3 4 (by omega)]) t1.1.2.2.2.2.2.2.2.2, CB_sm w2 (t5 h e) (Nat.le_refl _) (by omega), by rw [(t5 h e).f1 38 rfl]; exact w3⟩
theorem RR_te {ca : Nat → Nat → Nat} {hx : xH} {n pg rm c j M E : Nat} {l : Nat → Nat} {τ : (Nat → Nat → Int64)} (hc : c ≤ 511) (hn4 : n ≤ 4) (hp16 : pg ≤ 16) (hj : j < n) (hM : M < 2147400000) : ∀ (m : Nat) (z : CZ) (s : (Nat → Nat → Int32)) (N : Nat), SC n pg rm c z.1 → QQ ca n rm hx z.2.2.2 z.2.2.1 z.1 → RR n pg rm (c + 1) z (s, τ) → INV n pg rm c M E (c + 1) l s τ → OJ c j s → (s 7 j = 2 ∨ s 7 j = 3) → cl (s 59 j) - cl (s 58 j) = m → m ≤ N → RR n pg rm (c + 1) (k_gi (k_te z.2.2.2 z.2.2.1 z.2.1 pg j m z.1) j, z.2) (m_tk τ j N s, τ)
  | 0, z, s, N, S, Q, H, inv, oj, h7, em, _ => by
    obtain ⟨e11, b1, b2, b3, b4, b5, -⟩ := (inv.2.1 j (by omega)).2.2.2.1 h7
    have n3 : ¬ s 7 j = 3 := fun q => by have := b5 q; omega
    have e1 : k_gi (k_te z.2.2.2 z.2.2.1 z.2.1 pg j 0 z.1) j = z.1 := by
      show k_gi z.1 j = z.1
      unfold k_gi
      rw [if_neg (fun w => n3 ((show z.1 7 j = s 7 j from (H.2.1 j hj).2.2.2.1).symm.trans w.1))]
    have e2 : m_tk τ j N s = s := by
      cases N with
      | zero => rfl
      | succ N =>
        unfold m_tk
        have : m_tkc s τ j = false := decide_eq_false (fun w => by have := w.2.1; omega)
        rw [this, if_neg (by decide)]
    rw [e1, e2]; exact H
  | m + 1, z, s, N, S, Q, H, inv, oj, h7, em, hN => by
    obtain ⟨N, rfl⟩ : ∃ N', N = N' + 1 := ⟨N - 1, by omega⟩
    have hr : cl (s 58 j) < cl (s 59 j) := by omega
    have hH := inv.2.1 j (by omega)
    obtain ⟨e11, b1, b2, b3, b4, b5, -⟩ := hH.2.2.2.1 h7
    have b2' := b2.2
    have rt := (H.2.1 j hj).2
    have z7 : z.1 7 j = s 7 j := rt.2.2.1
    have n1 : ¬ s 7 j = 1 := by rcases h7 with e | e <;> (rw [e]; decide)
    have i121 : z.1 121 j = nI (m + 1) := by rw [(rt.2.2.2.2.2.1.2.2.1 h7).2]; show nI (cl (s 59 j) - cl (s 58 j)) = _; rw [em]
    have n121 : ¬ z.1 121 j = 0 := by
      rw [i121]; intro w
      have := nIv_inj (b := 0) w (by omega) (by omega)
      omega
    obtain ⟨-, -, ta⟩ := tea_e Q hj n121
    have b120 : cl (z.1 120 j) ≤ 511 := (Q.1 j hj).1.2
    obtain ⟨a', a1, ev⟩ := rt.2.2.2.2.2.2.1 h7 0 (by show 0 < cl (s 59 j) - cl (s 58 j); omega)
    rw [Nat.add_zero, show k_wr 512 (cl (z.1 120 j)) = cl (z.1 120 j) by unfold k_wr; rw [if_pos (by omega)], ta] at a1
    have ea : k_tea z.2.2.1 z.1 j = a' := Option.some.inj a1
    have ev : EV s τ (m_tkE s j) (z.2.2.2 a') := ev
    have ect : (z.2.2.2 a').2.2.2.1 = τ 49 (m_tkE s j) := ev.1.2.2.2.2.2.1
    have e19 : z.2.1 19 j = τ 19 j := rt.2.1
    unfold k_te m_tk
    rw [ea]
    by_cases q : τ 49 (m_tkE s j) = τ 19 j
    · have tc : m_tkc s τ j = true := decide_eq_true ⟨n1, hr, q⟩
      rw [if_pos ⟨n121, by rw [ect, e19]; exact q⟩, tc, if_pos rfl]
      have en := tk_en inv (show j < 4 by omega) h7 hr q (by omega)
      obtain ⟨t1, t2, t3, t4⟩ := tk3_in inv oj (show j < 4 by omega) h7 hr q (by omega) (by omega)
      have R := RR_tk3 (z := z) (y := (s, τ)) (a := a') (SC_up S (show c ≤ c + 1 by omega)) hp16 hn4 (by omega) (fun h hh => Hw_up (inv.2.1 h (by omega)).w (by omega)) H hj h7 hr hH.1 hM en.2.2.2.2.1 (mxEv en.2.2.1) (en_28 en) b120 (by rw [← ea]; exact ta)
      have SQ := SQ_te1 hn4 hp16 S Q hj n121
      rw [ea] at SQ
      have v7 : m_tk3 s j 7 = s 7 := tk3_ne (by omega)
      have v59 : m_tk3 s j 59 = s 59 := tk3_ne (by omega)
      have v58 : cl (m_tk3 s j 58 j) = cl (s 58 j) + 1 := by rw [m_tk3_58, nIv_inc, cl_nI (by omega)]
      have u7 : k_te1 z.1 pg j (z.2.2.2 a') 7 = z.1 7 := te1_ne (by decide) (by decide)
      unfold m_take1
      by_cases e3 : s 7 j = 3 ∧ cl (s 58 j) + 1 = cl (s 59 j)
      · rw [if_pos e3]
        have em0 : m = 0 := by omega
        subst em0
        have u121 : k_te1 z.1 pg j (z.2.2.2 a') 121 j = 0 := by
          have := ((R.2.1 j hj).2.2.2.2.2.2.1.2.2.1 (by show m_tk3 s j 7 j = 2 ∨ m_tk3 s j 7 j = 3; rw [v7]; exact h7)).2
          rw [show k_te1 z.1 pg j (z.2.2.2 a') 121 j = nI (cl (m_tk3 s j 59 j) - cl (m_tk3 s j 58 j)) from this, v59, v58, e3.2, Nat.sub_self]; rfl
        have eC : k_gi (k_te z.2.2.2 z.2.2.1 z.2.1 pg j 0 (k_te1 z.1 pg j (z.2.2.2 a'))) j = k_go (k_te1 z.1 pg j (z.2.2.2 a')) j := by
          show k_gi (k_te1 z.1 pg j (z.2.2.2 a')) j = _
          unfold k_gi
          rw [if_pos ⟨by rw [u7, z7]; exact e3.1, u121⟩]
        have hR : ¬ m_tk3 s j 60 0 = -1 → ∃ t, t < 4 ∧ m_tk3 s j 7 t = 1 ∧ m_tk3 s j 11 t = 0 := fun w => by
          rw [tk3_ne (by omega)] at w
          rcases inv.2.2.2 with x | ⟨r, t, tr, x1, x2, x3, -⟩
          · exact absurd x.1 w
          · exact ⟨t, by have := tr.2.2.2.1; omega, by rw [v7]; exact x2, by rw [tk3_ne (by omega)]; exact x3⟩
        have hxN : EX n (c + 1) (m_go0 (m_tk3 s j) j) := by
          refine EX_go (j := j) R.2.2.2.2.1 hR (by omega) (by show m_tk3 s j 7 j = 3; rw [v7]; exact e3.1) (fun h => ?_) (fun h => ?_) (fun h => ?_) (fun h => ?_) (fun f hf => m_go0_ne (by omega) (by omega) (by omega) (by omega))
          · by_cases x : h = j
            · rw [if_pos x, x]; exact go0_v.1
            · rw [if_neg x, go0_h x]
          · by_cases x : h = j
            · rw [if_pos x, x]; exact go0_v.2.1
            · rw [if_neg x, go0_h x]
          · by_cases x : h = j
            · rw [if_pos x, x]; exact go0_v.2.2.1
            · rw [if_neg x, go0_h x]
          · by_cases x : h = j
            · rw [if_pos x, x]; exact go0_v.2.2.2
            · rw [if_neg x, go0_h x]
        have G := RR_go (z := (k_te1 z.1 pg j (z.2.2.2 a'), z.2)) (y := (m_tk3 s j, τ)) (M := M) (l := l) hp16 hn4 (show c + 1 ≤ 512 by omega) (by omega) hj (SC_up SQ.1 (by omega)) (fun h hh => Hw_up (t4 h (by omega)) (by omega)) R (by show m_tk3 s j 7 j = 3; rw [v7]; exact e3.1) (by show cl (m_tk3 s j 58 j) = cl (m_tk3 s j 59 j); rw [v58, v59]; exact e3.2) t1 (by show nb (m_tk3 s j 10 j) (c + 1); rw [tk3_ne (by omega)]; exact nb_up hH.2.2.2.2.1 (by omega)) (OI_up t2 (by omega)) (Or.inl (by rcases t3 with w | w <;> first | exact Nat.le_trans w (by omega) | exact w.1)) hxN
        have e2 : m_tk τ j N (m_goLive (m_tk3 s j) j (cl (m_tk3 s j 38 j))) = m_goLive (m_tk3 s j) j (cl (m_tk3 s j 38 j)) := by
          cases N with
          | zero => rfl
          | succ N =>
            unfold m_tk
            have : m_tkc (m_goLive (m_tk3 s j) j (cl (m_tk3 s j 38 j))) τ j = false := decide_eq_false (fun w => w.1 (by rw [goL_e (by decide)]; exact go0_v.1))
            rw [this, if_neg (by decide)]
        rw [eC, e2]
        exact G
      · rw [if_neg e3]
        obtain ⟨i1, i2, -⟩ := tk_INV inv oj (show j < 4 by omega) h7 hr q (by omega) (by omega)
        unfold m_take1 at i1 i2
        rw [if_neg e3] at i1 i2
        exact RR_te hc hn4 hp16 hj hM m (k_te1 z.1 pg j (z.2.2.2 a'), z.2) (m_tk3 s j) N SQ.1 SQ.2 R i1 i2 (by rw [v7]; exact h7) (by rw [v59, v58]; omega) (by omega)
    · have tc : m_tkc s τ j = false := decide_eq_false (fun w => q w.2.2)
      rw [if_neg (fun w => q (by rw [← ect, w.2, e19])), tc, if_neg (by decide)]
      have e1 : k_gi z.1 j = z.1 := by
        unfold k_gi
        rw [if_neg (fun w => n121 w.2)]
      rw [e1]; exact H
