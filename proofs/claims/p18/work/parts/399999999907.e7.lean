theorem go_106 {u : (Nat → Nat → Int32)} {j i : Nat} {v : Int32} : m_goesOn u j i v 106 = u 106 := by
  unfold m_goesOn m_set
  split
  · rw [u2_ne (by decide)]
  · rw [u2_ne (by decide), u2_ne (by decide)]
theorem w_op {pg j : Nat} {u0 s u : (Nat → Nat → Int32)} {τ υ : (Nat → Nat → Int64)} {w : Int32} (H : w_W pg j u0 s u) (hB : v_B (256 * pg) j s) (hp : pg ≤ 16) (h106 : u 106 j = 0) (hc : υ 19 j = τ 19 j) : ∃ o, v_O j o s (m_op s τ j w) ∧ w_W pg j u0 (m_op s τ j w) (k_op u υ pg j w) ∧ w_O j o (cl (s 38 j)) (m_op s τ j w) (k_op u υ pg j w) := by
  have ea : m_ra u j w = m_ra s j w := w_gx H.1 (m_n5_lt _)
  have eb : m_rb u j w = m_rb s j w := w_gx H.1 (m_n5_lt _)
  have ep := w_g1 17 H.1 rfl
  have q : ∀ s' u' : (Nat → Nat → Int32), kpK s s' → w_W pg j u0 s' u' → u' 106 = u 106 → ∃ o, v_O j o s s' ∧ w_W pg j u0 s' u' ∧ w_O j o (cl (s 38 j)) s' u' := fun s' u' h1 h2 h3 => ⟨false, v_O_k h1, h2, w_none (s := s) (u := u) (by rw [h3]; exact h106)⟩
  have tr : ∀ x y : Int32, ∃ o, v_O j o s (m_trap s j x y) ∧ w_W pg j u0 (m_trap s j x y) (m_trap u j x y) ∧ w_O j o (cl (s 38 j)) (m_trap s j x y) (m_trap u j x y) := fun x y => q _ _ (kp_trap kp_rf) (w_trap H rfl rfl) tr_106
  have ju : ∀ (i : Nat) (x : Int32), m_jumps u j i x 106 = u 106 := by
    intro i x
    unfold m_jumps m_set
    split
    · split
      · rw [u2_ne (by decide)]
      · rw [u2_ne (by decide), u2_ne (by decide)]
    · exact tr_106
  unfold m_op k_op
  by_cases e : w &&& 127 = 55
  · rw [if_pos e, if_pos e]; exact q _ _ (kp_goesOn kp_rf) (w_goesOn H (m_n5_lt _) rfl) go_106
  rw [if_neg e, if_neg e]
  by_cases e : w &&& 127 = 23
  · rw [if_pos e, if_pos e]; exact q _ _ (kp_goesOn kp_rf) (w_goesOn H (m_n5_lt _) (by rw [ep])) go_106
  rw [if_neg e, if_neg e]
  by_cases e : w &&& 127 = 111
  · rw [if_pos e, if_pos e]; exact q _ _ (kp_jumps kp_rf) (w_jumps H (m_n5_lt _) (by rw [ep])) (ju _ _)
  rw [if_neg e, if_neg e]
  by_cases e : w &&& 127 = 103
  · rw [if_pos e, if_pos e]
    by_cases e : m_f3 w = 0
    · rw [if_pos e, if_pos e]; exact q _ _ (kp_jumps kp_rf) (w_jumps H (m_n5_lt _) (by rw [ea])) (ju _ _)
    · rw [if_neg e, if_neg e]; exact tr _ _
  rw [if_neg e, if_neg e]
  by_cases e : w &&& 127 = 99
  · rw [if_pos e, if_pos e]
    refine q _ _ (kp_branch kp_rf) (w_branch H ea eb) ?_
    unfold m_branch
    split
    · exact tr_106
    split
    · rw [u2_ne (by decide)]
    split
    · rw [u2_ne (by decide)]
    · exact tr_106
  rw [if_neg e, if_neg e]
  by_cases e : w &&& 127 = 3
  · rw [if_pos e, if_pos e]
    refine q _ _ (kp_loads kp_rf) (w_loads H hB (by rw [ea])) ?_
    unfold k_loads
    split
    · exact tr_106
    split
    · exact tr_106
    split
    · exact go_106
    split
    · rw [go_106]
      unfold k_rds
      split
      · split
        · rfl
        · unfold k_took; rw [u2_ne (by decide), u2_ne (by decide)]
      · rfl
    · exact tr_106
  rw [if_neg e, if_neg e]
  by_cases e : w &&& 127 = 35
  · rw [if_pos e, if_pos e]
    exact w_stores H hB hp h106 rfl (by rw [ea]; rfl) eb
  rw [if_neg e, if_neg e]
  by_cases e : w &&& 127 = 19
  · rw [if_pos e, if_pos e]
    refine q _ _ (kp_reckons kp_rf) (w_reckons H ea rfl) ?_
    unfold m_reckons; split
    · exact go_106
    · exact tr_106
  rw [if_neg e, if_neg e]
  by_cases e : w &&& 127 = 51
  · rw [if_pos e, if_pos e]
    refine q _ _ (kp_reckons kp_rf) (w_reckons H ea eb) ?_
    unfold m_reckons; split
    · exact go_106
    · exact tr_106
  rw [if_neg e, if_neg e]
  by_cases e : w &&& 127 = 15
  · rw [if_pos e, if_pos e]; exact q _ _ (kp_u kp_rf rfl) (w_next H) (u2_ne (by decide))
  rw [if_neg e, if_neg e]
  by_cases e : w &&& 127 = 115
  · rw [if_pos e, if_pos e]
    refine q _ _ (kp_system kp_rf) (w_system H hc ea) ?_
    unfold m_system
    split
    · exact tr_106
    split
    · exact tr_106
    split
    · rw [u2_ne (by decide), u2_ne (by decide)]
    split
    · rw [u2_ne (by decide), u2_ne (by decide)]
    · unfold m_register
      split
      · exact tr_106
      · rw [go_106]
        split
        · rw [u2_ne (by decide)]
        · rfl
  rw [if_neg e, if_neg e]; exact tr _ _
theorem w_both {S j : Nat} {s u : (Nat → Nat → Int32)} (H : w_E S j s u) : m_both u j = m_both s j := by
  unfold m_both; rw [w_pending H, w_gc (i := 1) H (by decide)]
theorem w_irq {S j : Nat} {s u : (Nat → Nat → Int32)} (H : w_E S j s u) : m_irq u j = m_irq s j := by
  simp only [m_irq, w_both H, w_gc (i := 0) H (by decide)]
theorem w_stuck {S j : Nat} {s u : (Nat → Nat → Int32)} (H : w_E S j s u) : m_stuck u j = m_stuck s j := by
  simp only [m_stuck, w_both H, w_g1 20 H rfl]
theorem irq_20 {u : (Nat → Nat → Int32)} {j : Nat} {v : Int32} : m_irq (u2 u 20 j v) j = m_irq u j ∧ m_both (u2 u 20 j v) j = m_both u j := by
  have e : m_both (u2 u 20 j v) j = m_both u j := by
    unfold m_both m_pending m_late m_some
    rw [u2_ne (by decide), u2_ne (by decide), u2_ne (by decide), u2_ne (by decide), u2_ne (by decide), u2_ne (by decide)]
  refine ⟨?_, e⟩
  unfold m_irq
  rw [e, u2_ne (by decide)]
theorem irq_106 {u : (Nat → Nat → Int32)} {j : Nat} {v : Int32} : m_irq (u2 u 106 j v) j = m_irq u j ∧ m_both (u2 u 106 j v) j = m_both u j := by
  have e : m_both (u2 u 106 j v) j = m_both u j := by
    unfold m_both m_pending m_late m_some
    rw [u2_ne (by decide), u2_ne (by decide), u2_ne (by decide), u2_ne (by decide), u2_ne (by decide), u2_ne (by decide)]
  refine ⟨?_, e⟩
  unfold m_irq
  rw [e, u2_ne (by decide)]
theorem w_stp {pg j : Nat} {u0 s u : (Nat → Nat → Int32)} {τ υ : (Nat → Nat → Int64)} (H : w_W pg j u0 s u) (hB : v_B (256 * pg) j s) (hp : pg ≤ 16) (hc : υ 19 j = τ 19 j) : ∃ o, v_O j o s (m_stx s τ j) ∧ (o = true → m_irq s j = false ∧ m_isOut (u2 s 20 j 0) j = true) ∧ w_W pg j u0 (m_stx s τ j) (k_ms (u2 u 20 j 0) υ pg j) ∧ w_O j o (cl (s 38 j)) (m_stx s τ j) (k_ms (u2 u 20 j 0) υ pg j) := by
  have H1 := w_W_106 (v := 0) (w_W_1 20 (v := 0) (w := 0) H rfl rfl)
  have hS := hB.2.2.1
  have hB1 : v_B (256 * pg) j (u2 s 20 j 0) := v_B_g hB (by decide) (by intro e; cases e) (by intro e; cases e) (by intro e; cases e) (by intro e; cases e) (by intro e; cases e) (by omega)
  have z106 : u2 (u2 u 20 j 0) 106 j 0 106 j = 0 := u2_ss
  have ei : m_irq (u2 u 20 j 0) j = m_irq s j := by rw [irq_20.1]; exact w_irq H.1
  have eb : m_both (u2 u 20 j 0) j = m_both s j := by rw [irq_20.2]; exact w_both H.1
  obtain ⟨o', hO', hx'⟩ := v_O_stx (j := j) (s := s) (τ := τ)
  have fin : ∀ (o : Bool) (s' u' : (Nat → Nat → Int32)), v_O j o (u2 s 20 j 0) s' → m_stx s τ j = s' → w_W pg j u0 s' u' → w_O j o (cl (u2 s 20 j 0 38 j)) s' u' → ∃ o, v_O j o s (m_stx s τ j) ∧ (o = true → m_irq s j = false ∧ m_isOut (u2 s 20 j 0) j = true) ∧ w_W pg j u0 (m_stx s τ j) u' ∧ w_O j o (cl (s 38 j)) (m_stx s τ j) u' := by
    intro o s' u' h1 h2 h3 h4
    rw [u2_ne (by decide)] at h4
    rw [h2]
    have h1 := v_O_s20 h1
    refine ⟨o, h1, ?_, h3, h4⟩
    rw [h2] at hO'
    intro ho
    apply hx'
    subst ho
    cases o' with
    | true => rfl
    | false =>
      exfalso
      have a := (h1.2.2 rfl).2.1
      have b := (hO'.2.1 rfl).2.1
      rw [b] at a
      have : s 38 j + 0 = s 38 j + 1 := by rw [Int32.add_zero]; exact a
      exact absurd (Int32.add_right_inj _ |>.mp this) (by decide)
  unfold k_ms
  rw [ei, eb]
  by_cases e : m_irq s j = true
  · rw [if_pos e]
    refine fin false _ _ (v_O_k (kp_trap kp_rf)) (by unfold m_stx; rw [if_pos e]) (w_trap H1 rfl rfl) (w_none (s := s) (u := u) (by rw [tr_106]; exact z106))
  rw [if_neg e]
  have ep : u2 u 20 j 0 17 j = s 17 j := by rw [u2_ne (by decide)]; exact w_g1 17 H.1 rfl
  have hx : m_stx s τ j = m_exec (u2 s 20 j 0) τ j := by unfold m_stx; rw [if_neg e]
  rw [ep]
  have s17 : u2 s 20 j 0 17 j = s 17 j := by rw [u2_ne (by decide)]
  have s4 : u2 s 20 j 0 4 0 = nI (256 * pg) := by rw [u2_ne (by decide)]; exact hB.1
  by_cases ei : 0 ≤ s 17 j ∧ s 17 j ≤ nI (256 * pg) - 4
  · rw [if_pos (by unfold k_in; exact decide_eq_true ei)]
    have hA : cl (s 17 j) + 4 ≤ 256 * pg := v_inN (n := 4) hS (by have := hB.2.1; omega) ei
    have ew : m_word (u2 u 20 j 0) j (cl (s 17 j)) = m_word (u2 s 20 j 0) j (s 17 j).toNatClampNeg := by
      have : ∀ x : (Nat → Nat → Int32), m_word (u2 x 20 j 0) j (cl (s 17 j)) = m_word x j (cl (s 17 j)) := fun x => by unfold m_word; rw [u2_ne (by decide)]
      rw [this]; show _ = m_word (u2 s 20 j 0) j (cl (s 17 j)); rw [this]; exact w_word H.1 hS hA
    obtain ⟨o, y1, y2, y3⟩ := w_op (τ := τ) (υ := υ) (w := m_word (u2 s 20 j 0) j (s 17 j).toNatClampNeg) H1 hB1 hp z106 hc
    rw [ew]
    refine fin o _ _ y1 ?_ y2 y3
    rw [hx]; unfold m_exec; rw [s17, s4, if_pos ei]
  · rw [if_neg (by unfold k_in; intro h; exact ei (of_decide_eq_true h))]
    refine fin false _ _ (v_O_k (kp_trap kp_rf)) ?_ (w_trap (c := 1) (v := s 17 j) H1 rfl rfl) (w_none (s := s) (u := u) (by rw [tr_106]; exact z106))
    rw [hx]; unfold m_exec; rw [s17, s4, if_neg ei]
theorem w_isOut {pg j : Nat} {u0 s u : (Nat → Nat → Int32)} (H : w_W pg j u0 s u) (hB : v_B (256 * pg) j s) : k_isOut u pg j = m_isOut s j := by
  have hS := hB.2.2.1
  unfold k_isOut m_isOut
  rw [w_g1 17 H.1 rfl, hB.1]
  by_cases ei : 0 ≤ s 17 j ∧ s 17 j ≤ nI (256 * pg) - 4
  · have hA : cl (s 17 j) + 4 ≤ 256 * pg := v_inN (n := 4) hS (by have := hB.2.1; omega) ei
    have ew : m_word u j (cl (s 17 j)) = m_word s j (s 17 j).toNatClampNeg := w_word H.1 hS hA
    rw [ew]
    generalize m_word s j (s 17 j).toNatClampNeg = w
    have ea : m_ra u j w + m_sto w = m_outA s j w := by
      unfold m_ra m_outA m_sto m_rd
      rw [w_gx H.1 (m_n5_lt _), m_n5_e]
    have ef : (k_f w = 2) ↔ m_f3 w = 2 := by
      have := k_f_lt w
      rw [k_f_e w]
      constructor
      · intro h; rw [h]; rfl
      · intro h; exact nIv_inj (b := 2) h (by omega) (by omega)
    rw [ea]
    unfold k_in
    congr 1
    rw [decide_eq_decide, ef, and_assoc]
  · have : k_in pg (s 17 j) 4 = false := by unfold k_in; exact decide_eq_false ei
    rw [this, decide_eq_false ei, Bool.false_and, Bool.false_and]
