def v_C (j : Nat) (s t : (Nat → Nat → Int32)) : Prop := t 27 j = 1 → (s 27 j = 1 ∧ t 28 j = s 28 j) ∨ t 28 j = 1 ∨ t 28 j = 2
theorem v_C_e {j : Nat} {s t : (Nat → Nat → Int32)} (e27 : t 27 = s 27) (e28 : t 28 = s 28) : v_C j s t := fun q => by
  rw [e27] at q; rw [e28]; exact Or.inl ⟨q, rfl⟩
theorem v_C_k {j : Nat} {s t : (Nat → Nat → Int32)} (H : kpK s t) : v_C j s t := v_C_e (H 27 rfl) (H 28 rfl)
theorem v_C_w {j : Nat} {s t u : (Nat → Nat → Int32)} (H : v_C j s t) (h : ∀ f, f = 27 ∨ f = 28 → u f = t f) : v_C j s u := by
  unfold v_C; rw [h 27 (by omega), h 28 (by omega)]; exact H
theorem v_C_wdev {j p n i : Nat} {s : (Nat → Nat → Int32)} {v : Int32} : v_C j s (m_wdev s j (cl (s 38 j)) p n i v) := by
  unfold m_wdev
  by_cases e : i = 4
  · rw [if_pos e]; exact v_C_k (kp_u kp_rf rfl)
  rw [if_neg e]
  by_cases e : i = 12
  · rw [if_pos e]; exact v_C_e (putq_ne (by decide)) (putq_ne (by decide))
  rw [if_neg e]
  by_cases e : i = 16
  · rw [if_pos e]; exact v_C_k (kp_u kp_rf rfl)
  rw [if_neg e]
  by_cases e : i = 20
  · rw [if_pos e]; exact v_C_k (kp_u kp_rf rfl)
  rw [if_neg e]
  by_cases e : i = 24
  · rw [if_pos e]
    unfold m_asks
    by_cases e0 : v = 0
    · rw [if_pos e0]
      by_cases e1 : s 27 j = 2
      · rw [if_pos e1]
        intro q; rw [u2_ss] at q; exact absurd q (by decide)
      · rw [if_neg e1]; exact v_C_k kp_rf
    rw [if_neg e0]
    by_cases e1 : m_agood s j v = true
    · rw [if_pos e1]
      have g := of_decide_eq_true e1
      intro _
      have e28 : m_puts (m_askl (m_ask0 s j v) j (cl (s 38 j)) (s 24 j).toNatClampNeg 64) j (128 * j + cl (s 38 j)) 2 v (s 23 j) 28 j = v := by
        rw [putq_ne (by decide), m_askl_ne (by decide) (by decide)]
        unfold m_ask0; rw [u2_ne (by decide), u2_ne (by decide), u2_ss]
      rw [e28]; exact Or.inr g.1
    · rw [if_neg e1]; exact v_C_k kp_rf
  rw [if_neg e]
  by_cases e : i = 28
  · rw [if_pos e]; exact v_C_k (kp_u kp_rf rfl)
  rw [if_neg e]
  by_cases e : i = 32
  · rw [if_pos e]
    by_cases g : m_sgood s j v
    · rw [if_pos g]
      exact v_C_e (by rw [putq_ne (by decide), m_wpk_ne (by decide)]) (by rw [putq_ne (by decide), m_wpk_ne (by decide)])
    · rw [if_neg g]; exact v_C_k kp_rf
  rw [if_neg e]
  by_cases e : i = 36
  · rw [if_pos e]
    unfold m_receives
    by_cases e : p = 0 ∨ ¬ (0 ≤ v ∧ v ≤ s 4 0 - nI n)
    · rw [if_pos e]; exact v_C_k kp_rf
    rw [if_neg e]
    have h : ∀ f, f ≠ 34 → f ≠ 36 → f ≠ 35 → f ≠ 15 → f ≠ 63 → m_recs (u2 (m_recw s j v.toNatClampNeg n) 35 j (nI (p - 1))) j (p - 1) f = s f := fun f a b c d e => by
      rw [m_recs_ne a b, u2_ne c, m_recw_ne d e]
    exact v_C_e (h 27 (by decide) (by decide) (by decide) (by decide) (by decide)) (h 28 (by decide) (by decide) (by decide) (by decide) (by decide))
  rw [if_neg e]
  by_cases e : i = 40
  · rw [if_pos e]; exact v_C_k (kp_u kp_rf rfl)
  rw [if_neg e]; exact v_C_k kp_rf
theorem v_C_stores {j p n : Nat} {s : (Nat → Nat → Int32)} {w a v : Int32} : v_C j s (m_stores s j (cl (s 38 j)) p n w a v) := by
  unfold m_stores
  by_cases e : ¬ m_f3 w ≤ 2
  · rw [if_pos e]; exact v_C_k (kp_trap kp_rf)
  rw [if_neg e]
  by_cases e : ¬ a &&& (m_sn w - 1) = 0
  · rw [if_pos e]; exact v_C_k (kp_trap kp_rf)
  rw [if_neg e]
  by_cases e : m_sn w = 4 ∧ m_isDev a = true
  · rw [if_pos e]
    exact v_C_w (v_C_wdev (p := p) (n := n)) (fun f hf => by unfold m_next; rw [u2_ne (by omega)])
  rw [if_neg e]
  by_cases e : ¬ (0 ≤ a ∧ a ≤ s 4 0 - m_sn w)
  · rw [if_pos e]; exact v_C_k (kp_trap kp_rf)
  rw [if_neg e]
  unfold m_next
  intro q
  rw [u2_ne (by decide), m_stl_ne (by decide) (by decide)] at q
  rw [u2_ne (by decide), m_stl_ne (by decide) (by decide)]
  exact Or.inl ⟨q, rfl⟩
theorem v_C_op {j : Nat} {s : (Nat → Nat → Int32)} {τ : (Nat → Nat → Int64)} {w : Int32} : v_C j s (m_op s τ j w) := by
  unfold m_op
  by_cases e : w &&& 127 = 55
  · rw [if_pos e]; exact v_C_k (kp_goesOn kp_rf)
  rw [if_neg e]
  by_cases e : w &&& 127 = 23
  · rw [if_pos e]; exact v_C_k (kp_goesOn kp_rf)
  rw [if_neg e]
  by_cases e : w &&& 127 = 111
  · rw [if_pos e]; exact v_C_k (kp_jumps kp_rf)
  rw [if_neg e]
  by_cases e : w &&& 127 = 103
  · rw [if_pos e]
    by_cases e : m_f3 w = 0
    · rw [if_pos e]; exact v_C_k (kp_jumps kp_rf)
    · rw [if_neg e]; exact v_C_k (kp_trap kp_rf)
  rw [if_neg e]
  by_cases e : w &&& 127 = 99
  · rw [if_pos e]; exact v_C_k (kp_branch kp_rf)
  rw [if_neg e]
  by_cases e : w &&& 127 = 3
  · rw [if_pos e]; exact v_C_k (kp_loads kp_rf)
  rw [if_neg e]
  by_cases e : w &&& 127 = 35
  · rw [if_pos e]; exact v_C_stores
  rw [if_neg e]
  by_cases e : w &&& 127 = 19
  · rw [if_pos e]; exact v_C_k (kp_reckons kp_rf)
  rw [if_neg e]
  by_cases e : w &&& 127 = 51
  · rw [if_pos e]; exact v_C_k (kp_reckons kp_rf)
  rw [if_neg e]
  by_cases e : w &&& 127 = 15
  · rw [if_pos e]; exact v_C_k (kp_u kp_rf rfl)
  rw [if_neg e]
  by_cases e : w &&& 127 = 115
  · rw [if_pos e]; exact v_C_k (kp_system kp_rf)
  rw [if_neg e]; exact v_C_k (kp_trap kp_rf)
theorem v_C_stx {j : Nat} {s : (Nat → Nat → Int32)} {τ : (Nat → Nat → Int64)} : v_C j s (m_stx s τ j) := by
  unfold m_stx
  by_cases e : m_irq s j = true
  · rw [if_pos e]; exact v_C_k (kp_trap (kp_u kp_rf rfl))
  rw [if_neg e]
  unfold m_exec
  by_cases f : 0 ≤ u2 s 20 j 0 17 j ∧ u2 s 20 j 0 17 j ≤ u2 s 20 j 0 4 0 - 4
  · rw [if_pos f]
    have h := v_C_op (j := j) (s := u2 s 20 j 0) (τ := τ) (w := m_word (u2 s 20 j 0) j (u2 s 20 j 0 17 j).toNatClampNeg)
    unfold v_C at h ⊢
    rwa [u2_ne (show (27 : Nat) ≠ 20 by decide), u2_ne (show (28 : Nat) ≠ 20 by decide)] at h
  · rw [if_neg f]; exact v_C_k (kp_trap (kp_u kp_rf rfl))
