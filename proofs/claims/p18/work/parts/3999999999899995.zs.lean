theorem Hw_stx {pg c j h : Nat} {s : (Nat → Nat → Int32)} {τ : (Nat → Nat → Int64)} (V : Hw pg c s h) (vR : v_R (256 * pg) j s (m_stx s τ j)) (h38 : nb (m_stx s τ j 38 j) 100) (hc : c ≤ 4200) : Hw pg c (m_stx s τ j) h := by
  obtain ⟨v1, v2, v3⟩ := V
  have o : ∀ f, f < 15 ∨ 43 < f → f ≠ 63 → f ≠ 74 → m_stx s τ j f = s f := fun f a b c => funext fun i => F_o vR.1 a b c
  by_cases x : h = j
  · subst x
    exact ⟨vR.2.2.1, CB_nf v2 (fun f a b => o f (by omega) (by omega) (by omega)), h38⟩
  · have sm : Sm h s (m_stx s τ j) τ τ := sm_F vR.1 x rfl
    exact ⟨v_B_sm v1 sm (by rw [o 4 (by omega) (by omega) (by omega)]) vR.2.2.1.2.2.2.2.2.2.2.2, CB_sm v2 sm (Nat.le_refl _) hc, by rw [sm.f1 38 rfl]; exact v3⟩
theorem CM_stx {n j : Nat} {s S' : (Nat → Nat → Int32)} {τ : (Nat → Nat → Int64)} (hm : CM n s) (vF : v_F j s (m_stx s τ j)) (eS : ∀ f, f ≠ 74 → S' f = m_stx s τ j f) : CM n S' := by
  have o : ∀ f, f < 15 ∨ 43 < f → f ≠ 63 → f ≠ 74 → S' f = s f := fun f a b c => by rw [eS f c]; exact funext fun i => F_o vF a b c
  refine ⟨fun h hh q => ?_, fun p h1 h2 => ?_⟩
  · rw [eS 27 (by decide)] at q
    rw [eS 28 (by decide)]
    by_cases x : h = j
    · subst x
      rcases v_C_stx q with ⟨w1, w2⟩ | w | w
      · rw [w2]; exact hm.1 h hh w1
      · exact Or.inl w
      · exact Or.inr w
    · have e27 : m_stx s τ j 27 h = s 27 h := vF_27 vF x
      have e28 : m_stx s τ j 28 h = s 28 h := by
        have := F_h vF x (show (28 : Nat) ≠ 63 by decide) (by decide) (show 0 < v_s 28 by decide)
        rwa [show v_s 28 = 1 from rfl, show 1 * h + 0 = h by omega] at this
      rw [e27] at q
      rw [e28]; exact hm.1 h hh q
  · rw [o 65 (by omega) (by omega) (by omega)] at h1
    rw [o 66 (by omega) (by omega) (by omega)] at h2
    rw [o 69 (by omega) (by omega) (by omega)]; exact hm.2 p h1 h2
theorem kp_c {u : (Nat → Nat → Int32)} {j : Nat} (h : ¬ cl (u 38 j) = 64) : k_kp u j = k_keep u j (cl (u 112 j)) (cl (u 38 j)) := by unfold k_kp; rw [if_neg h]
theorem keep_v {u : (Nat → Nat → Int32)} {j f c : Nat} : k_keep u j f c 38 j = nI c + 1 ∧ k_keep u j f c 117 (64 * j + (f + c) % 64) = u 106 j ∧ k_keep u j f c 118 (64 * j + (f + c) % 64) = u 107 j ∧ (∀ t, t < 32 → k_keep u j f c 119 (32 * (64 * j + (f + c) % 64) + t) = u 108 (32 * j + t)) ∧ (∀ x, x ≠ 64 * j + (f + c) % 64 → k_keep u j f c 117 x = u 117 x) ∧ (∀ F, F ≠ 38 → F ≠ 117 → F ≠ 118 → F ≠ 119 → k_keep u j f c F = u F) := by
  unfold k_keep k_cpO
  refine ⟨u2_ss, ?_, ?_, fun t ht => ?_, fun x hx => ?_, fun F h1 h2 h3 h4 => ?_⟩
  · rw [u2_ne (by decide), k_cp_ne (by decide), u2_ne (by decide), u2_ss]
  · rw [u2_ne (by decide), k_cp_ne (by decide), u2_ss]
  · rw [u2_ne (by decide)]
    have := k_cp_in (σ := u2 (u2 u 117 (64 * j + (f + c) % 64) (u 106 j)) 118 (64 * j + (f + c) % 64) (u 107 j)) (A := 108) (a := 32 * j + 0) (B := 119) (b := 32 * (64 * j + (f + c) % 64) + 0) ht
    rw [Nat.add_zero, Nat.add_zero] at this
    rw [Nat.add_zero, Nat.add_zero, this, u2_ne (by decide), u2_ne (by decide)]
  · rw [u2_ne (by decide), k_cp_ne (by decide), u2_ne (by decide), u2_sn hx]
  · rw [u2_ne h1, k_cp_ne h4, u2_ne h3, u2_ne h2]
theorem keep_F {u : (Nat → Nat → Int32)} {j f c F i : Nat} : k_keep u j f c F i = u F i ∨ (F = 38 ∧ i = j) ∨ ((F = 117 ∨ F = 118 ∨ F = 119) ∧ zS F * j ≤ i ∧ i < zS F * j + zS F) := by
  have m : (f + c) % 64 < 64 := Nat.mod_lt _ (by decide)
  unfold k_keep k_cpO
  by_cases e38 : F = 38
  · subst e38
    by_cases x : i = j
    · exact Or.inr (Or.inl ⟨rfl, x⟩)
    · rw [u2_sn x, k_cp_ne (by decide), u2_ne (by decide), u2_ne (by decide)]; exact Or.inl rfl
  rw [u2_ne e38]
  by_cases e119 : F = 119
  · subst e119
    by_cases x : 32 * (64 * j + (f + c) % 64) + 0 ≤ i ∧ i < 32 * (64 * j + (f + c) % 64) + 0 + 32
    · exact Or.inr (Or.inr ⟨by omega, by show 2048 * j ≤ i; omega, by show i < 2048 * j + 2048; omega⟩)
    · rw [k_cp_out (by omega), u2_ne (by decide), u2_ne (by decide)]; exact Or.inl rfl
  rw [k_cp_ne e119]
  by_cases e118 : F = 118
  · subst e118
    by_cases x : i = 64 * j + (f + c) % 64
    · exact Or.inr (Or.inr ⟨by omega, by show 64 * j ≤ i; omega, by show i < 64 * j + 64; omega⟩)
    · rw [u2_sn x, u2_ne (by decide)]; exact Or.inl rfl
  rw [u2_ne e118]
  by_cases e117 : F = 117
  · subst e117
    by_cases x : i = 64 * j + (f + c) % 64
    · exact Or.inr (Or.inr ⟨by omega, by show 64 * j ≤ i; omega, by show i < 64 * j + 64; omega⟩)
    · rw [u2_sn x]; exact Or.inl rfl
  rw [u2_ne e117]; exact Or.inl rfl
theorem KE_old {M S j : Nat} {l : Nat → Nat} {s S' u C : (Nat → Nat → Int32)} {τ : (Nat → Nat → Int64)} (hI : HI S M l s τ j) (vQ : v_Q j s (m_stx s τ j)) (eS : ∀ f, f ≠ 74 → S' f = m_stx s τ j f) {i : Nat} (hi : i < cl (s 38 j)) (e39 : m_stx s τ j 39 (128 * j + i) = s 39 (128 * j + i)) (ke : KE s u j i) (eC : C 117 (k_sl C j i) = u 117 (k_sl u j i)) : KE S' C j i := by
  obtain ⟨k1, k2⟩ := ke
  refine ⟨by rw [eC, eS 39 (by decide), e39]; exact k1, fun q x hx => ?_⟩
  rw [eS 39 (by decide), e39] at q
  have h27 := ((hI.2.2.2.2.2.2.2 i hi).2.2.2 q).1
  rw [eS 43 (by decide), eS 31 (by decide), vQ.1 h27 x hx, vQ.2.1 (128 * j + i) x (by omega) hx]
  exact k2 q x hx
