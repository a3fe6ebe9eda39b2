theorem z_set {t : (Nat → Nat → Int32)} {j i : Nat} {v : Int32} : m_set t j i v 20 = t 20 := by
  unfold m_set
  by_cases e : i = 0
  · rw [if_pos e]
  · rw [if_neg e, u2_ne (by decide)]
theorem z_trap {t : (Nat → Nat → Int32)} {j : Nat} {c v : Int32} : m_trap t j c v 20 = t 20 := m_trap_ne (by decide) (by decide)
theorem z_goesOn {t : (Nat → Nat → Int32)} {j i : Nat} {v : Int32} : m_goesOn t j i v 20 = t 20 := by unfold m_goesOn; rw [u2_ne (by decide), z_set]
theorem z_jumps {t : (Nat → Nat → Int32)} {j i : Nat} {v : Int32} : m_jumps t j i v 20 = t 20 := by
  unfold m_jumps
  by_cases e : v &&& 3 = 0
  · rw [if_pos e, u2_ne (by decide), z_set]
  · rw [if_neg e, z_trap]
theorem z_branch {t : (Nat → Nat → Int32)} {j : Nat} {w a b : Int32} : m_branch t j w a b 20 = t 20 := by
  unfold m_branch
  by_cases e : m_f3 w = 2 ∨ m_f3 w = 3
  · rw [if_pos e, z_trap]
  rw [if_neg e]
  by_cases e : m_bit w a b = false
  · rw [if_pos e, u2_ne (by decide)]
  rw [if_neg e]
  by_cases e : (t 17 j + m_bto w) &&& 3 = 0
  · rw [if_pos e, u2_ne (by decide)]
  rw [if_neg e, z_trap]
theorem z_reckons {t : (Nat → Nat → Int32)} {j : Nat} {w a b : Int32} {n : Bool} : m_reckons t j w a b n 20 = t 20 := by
  unfold m_reckons
  by_cases e : m_rgood w n = true
  · rw [if_pos e, z_goesOn]
  rw [if_neg e, z_trap]
theorem z_register {t : (Nat → Nat → Int32)} {τ : (Nat → Nat → Int64)} {j : Nat} {w a : Int32} : m_register t τ j w a 20 = t 20 := by
  unfold m_register
  by_cases e : m_cbad w = true
  · rw [if_pos e, z_trap]
  rw [if_neg e, z_goesOn]
  by_cases f : m_cwr w = true
  · rw [if_pos f, u2_ne (by decide)]
  · rw [if_neg f]
theorem z_system {t : (Nat → Nat → Int32)} {τ : (Nat → Nat → Int64)} {j : Nat} {w a : Int32} : m_system t τ j w a 20 j = t 20 j ∨ m_system t τ j w a 20 j = 1 := by
  unfold m_system
  by_cases e : w = 115
  · rw [if_pos e, z_trap]; exact Or.inl rfl
  rw [if_neg e]
  by_cases e : w = 1048691
  · rw [if_pos e, z_trap]; exact Or.inl rfl
  rw [if_neg e]
  by_cases e : w = 807403635
  · rw [if_pos e, u2_ne (by decide), u2_ne (by decide)]; exact Or.inl rfl
  rw [if_neg e]
  by_cases e : w = 273678451
  · rw [if_pos e, u2_ne (show (20 : Nat) ≠ 17 by decide), u2_ss]; exact Or.inr rfl
  rw [if_neg e, z_register]; exact Or.inl rfl
theorem z_loads {t : (Nat → Nat → Int32)} {j q : Nat} {w a : Int32} : m_loads t j q w a 20 = t 20 := by
  unfold m_loads
  by_cases e : m_f3 w = 3 ∨ ¬ m_f3 w ≤ 5
  · rw [if_pos e, z_trap]
  rw [if_neg e]
  by_cases e : ¬ a &&& (m_ln w - 1) = 0
  · rw [if_pos e, z_trap]
  rw [if_neg e]
  by_cases e : m_ln w = 4 ∧ m_isDev a = true
  · rw [if_pos e, z_goesOn]
    unfold m_rds
    by_cases e : (a - 65536).toNatClampNeg = 8
    · rw [if_pos e]
      by_cases e : q = 0
      · rw [if_pos e]
      · rw [if_neg e]
        unfold m_took
        rw [m_keys_ne (by decide), u2_ne (by decide)]
    · rw [if_neg e]
  rw [if_neg e]
  by_cases e : ¬ (0 ≤ a ∧ a ≤ t 4 0 - m_ln w)
  · rw [if_pos e, z_trap]
  rw [if_neg e, z_goesOn]
theorem z_wdev {t : (Nat → Nat → Int32)} {j q p n i : Nat} {v : Int32} : m_wdev t j q p n i v 20 = t 20 := by
  unfold m_wdev
  by_cases e : i = 4
  · rw [if_pos e, u2_ne (by decide)]
  rw [if_neg e]
  by_cases e : i = 12
  · rw [if_pos e, putq_ne (by decide)]
  rw [if_neg e]
  by_cases e : i = 16
  · rw [if_pos e, u2_ne (by decide)]
  rw [if_neg e]
  by_cases e : i = 20
  · rw [if_pos e, u2_ne (by decide)]
  rw [if_neg e]
  by_cases e : i = 24
  · rw [if_pos e]
    unfold m_asks
    by_cases e0 : v = 0
    · rw [if_pos e0]
      by_cases e1 : t 27 j = 2
      · rw [if_pos e1, u2_ne (by decide)]
      · rw [if_neg e1]
    rw [if_neg e0]
    by_cases e1 : m_agood t j v = true
    · rw [if_pos e1, putq_ne (by decide), m_askl_ne (by decide) (by decide), m_ask0_ne (by decide) (by decide) (by decide) (by decide)]
    · rw [if_neg e1]
  rw [if_neg e]
  by_cases e : i = 28
  · rw [if_pos e, u2_ne (by decide)]
  rw [if_neg e]
  by_cases e : i = 32
  · rw [if_pos e]
    by_cases g : m_sgood t j v
    · rw [if_pos g, putq_ne (by decide), m_wpk_ne (by decide)]
    · rw [if_neg g]
  rw [if_neg e]
  by_cases e : i = 36
  · rw [if_pos e]
    unfold m_receives
    by_cases e : p = 0 ∨ ¬ (0 ≤ v ∧ v ≤ t 4 0 - nI n)
    · rw [if_pos e]
    rw [if_neg e, m_recs_ne (by decide) (by decide), u2_ne (by decide), m_recw_ne (by decide) (by decide)]
  rw [if_neg e]
  by_cases e : i = 40
  · rw [if_pos e, u2_ne (by decide)]
  rw [if_neg e]
theorem z_stores {t : (Nat → Nat → Int32)} {j q p n : Nat} {w a v : Int32} : m_stores t j q p n w a v 20 = t 20 := by
  unfold m_stores
  by_cases e : ¬ m_f3 w ≤ 2
  · rw [if_pos e, z_trap]
  rw [if_neg e]
  by_cases e : ¬ a &&& (m_sn w - 1) = 0
  · rw [if_pos e, z_trap]
  rw [if_neg e]
  by_cases e : m_sn w = 4 ∧ m_isDev a = true
  · rw [if_pos e]; unfold m_next; rw [u2_ne (by decide), z_wdev]
  rw [if_neg e]
  by_cases e : ¬ (0 ≤ a ∧ a ≤ t 4 0 - m_sn w)
  · rw [if_pos e, z_trap]
  rw [if_neg e]; unfold m_next; rw [u2_ne (by decide), m_stl_ne (by decide) (by decide)]
theorem z_op {t : (Nat → Nat → Int32)} {τ : (Nat → Nat → Int64)} {j : Nat} {w : Int32} : m_op t τ j w 20 j = t 20 j ∨ m_op t τ j w 20 j = 1 := by
  unfold m_op
  by_cases e : w &&& 127 = 55
  · rw [if_pos e, z_goesOn]; exact Or.inl rfl
  rw [if_neg e]
  by_cases e : w &&& 127 = 23
  · rw [if_pos e, z_goesOn]; exact Or.inl rfl
  rw [if_neg e]
  by_cases e : w &&& 127 = 111
  · rw [if_pos e, z_jumps]; exact Or.inl rfl
  rw [if_neg e]
  by_cases e : w &&& 127 = 103
  · rw [if_pos e]
    by_cases e : m_f3 w = 0
    · rw [if_pos e, z_jumps]; exact Or.inl rfl
    · rw [if_neg e, z_trap]; exact Or.inl rfl
  rw [if_neg e]
  by_cases e : w &&& 127 = 99
  · rw [if_pos e, z_branch]; exact Or.inl rfl
  rw [if_neg e]
  by_cases e : w &&& 127 = 3
  · rw [if_pos e, z_loads]; exact Or.inl rfl
  rw [if_neg e]
  by_cases e : w &&& 127 = 35
  · rw [if_pos e, z_stores]; exact Or.inl rfl
  rw [if_neg e]
  by_cases e : w &&& 127 = 19
  · rw [if_pos e, z_reckons]; exact Or.inl rfl
  rw [if_neg e]
  by_cases e : w &&& 127 = 51
  · rw [if_pos e, z_reckons]; exact Or.inl rfl
  rw [if_neg e]
  by_cases e : w &&& 127 = 15
  · rw [if_pos e, u2_ne (by decide)]; exact Or.inl rfl
  rw [if_neg e]
  by_cases e : w &&& 127 = 115
  · rw [if_pos e]; exact z_system
  rw [if_neg e, z_trap]; exact Or.inl rfl
theorem z_stx {s : (Nat → Nat → Int32)} {τ : (Nat → Nat → Int64)} {j : Nat} : m_stx s τ j 20 j = 0 ∨ m_stx s τ j 20 j = 1 := by
  unfold m_stx
  by_cases e : m_irq s j = true
  · rw [if_pos e, z_trap, u2_ss]; exact Or.inl rfl
  rw [if_neg e]
  unfold m_exec
  by_cases f : 0 ≤ u2 s 20 j 0 17 j ∧ u2 s 20 j 0 17 j ≤ u2 s 20 j 0 4 0 - 4
  · rw [if_pos f]
    rcases z_op (t := u2 s 20 j 0) (τ := τ) (j := j) (w := m_word (u2 s 20 j 0) j (u2 s 20 j 0 17 j).toNatClampNeg) with q | q
    · rw [q, u2_ss]; exact Or.inl rfl
    · exact Or.inr q
  · rw [if_neg f, z_trap, u2_ss]; exact Or.inl rfl
