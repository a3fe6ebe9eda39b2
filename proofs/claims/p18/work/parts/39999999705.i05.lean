theorem v_rdv {S j k q i : Nat} {t u : (Nat → Nat → Int32)} (H : v_E S j k t u) : m_rdv t j q i = m_rdv u k q i := by
  have e1 : t 32 (16 * j) = u 32 (16 * k) := v_gk (i := 0) H (by decide)
  have e2 : t 34 (4 * j) = u 34 (4 * k) := v_gz (i := 0) H (by decide)
  simp only [m_rdv, v_g1 21 H rfl, v_g1 22 H rfl, v_g1 23 H rfl, v_g1 24 H rfl, v_g1 25 H rfl, v_g1 26 H rfl, v_g1 27 H rfl, v_g1 35 H rfl, e1, e2]
theorem v_rds {S j k q i : Nat} {s z t u : (Nat → Nat → Int32)} (H : v_W S j k s z t u) (hq : q ≤ 16) : v_W S j k s z (m_rds t j q i) (m_rds u k q i) := by
  unfold m_rds
  by_cases e : i = 8
  · rw [if_pos e, if_pos e]
    by_cases e : q = 0
    · rw [if_pos e, if_pos e]; exact H
    · rw [if_neg e, if_neg e]; exact v_took (v_W_33 H rfl (nb_n (by omega) (by decide))) (by omega)
  · rw [if_neg e, if_neg e]; exact H
theorem v_f3 (w : Int32) : m_f3 w = 0 ∨ m_f3 w = 1 ∨ m_f3 w = 2 ∨ m_f3 w = 3 ∨ m_f3 w = 4 ∨ m_f3 w = 5 ∨ m_f3 w = 6 ∨ m_f3 w = 7 := by
  have h := m_n3_lt (m_sr w 12)
  have e : m_f3 w = nI (m_n3 (m_sr w 12)) := m_n3_e _
  rw [e]
  have : m_n3 (m_sr w 12) = 0 ∨ m_n3 (m_sr w 12) = 1 ∨ m_n3 (m_sr w 12) = 2 ∨ m_n3 (m_sr w 12) = 3 ∨ m_n3 (m_sr w 12) = 4 ∨ m_n3 (m_sr w 12) = 5 ∨ m_n3 (m_sr w 12) = 6 ∨ m_n3 (m_sr w 12) = 7 := by omega
  rcases this with e | e | e | e | e | e | e | e <;> rw [e] <;> decide
theorem v_lval {S j k a : Nat} {t u : (Nat → Nat → Int32)} {w : Int32} (H : v_E S j k t u) (hS : S ≤ 4096) (h : ¬ (m_f3 w = 3 ∨ ¬ m_f3 w ≤ 5)) (hn : ∀ n, m_ln w = nI n → n ≤ 4 → a + n ≤ S) : m_lval t j w a = m_lval u k w a := by
  unfold m_lval m_ln at *
  rcases v_f3 w with e | e | e | e | e | e | e | e <;> rw [e] at h hn ⊢
  · have := hn 1 (by decide) (by decide)
    rw [if_pos (by decide), if_pos (by decide)]
    unfold m_by; rw [v_gm H hS (by omega : a < S)]
  · have := hn 2 (by decide) (by decide)
    rw [if_neg (by decide), if_pos (by decide), if_neg (by decide), if_pos (by decide)]
    unfold m_by; rw [v_gm H hS (by omega : a < S), v_gm H hS (by omega : a + 1 < S)]
  · have := hn 4 (by decide) (by decide)
    rw [if_neg (by decide), if_neg (by decide), if_pos (by decide), if_neg (by decide), if_neg (by decide), if_pos (by decide)]
    exact v_word H hS (by omega)
  · exact absurd (.inl rfl) h
  · have := hn 1 (by decide) (by decide)
    rw [if_neg (by decide), if_neg (by decide), if_neg (by decide), if_pos (by decide), if_neg (by decide), if_neg (by decide), if_neg (by decide), if_pos (by decide)]
    unfold m_by; rw [v_gm H hS (by omega : a < S)]
  · have := hn 2 (by decide) (by decide)
    rw [if_neg (by decide), if_neg (by decide), if_neg (by decide), if_neg (by decide), if_neg (by decide), if_neg (by decide), if_neg (by decide), if_neg (by decide)]
    unfold m_by; rw [v_gm H hS (by omega : a < S), v_gm H hS (by omega : a + 1 < S)]
  · exact absurd (.inr (by decide)) h
  · exact absurd (.inr (by decide)) h
theorem v_loads {S j k q : Nat} {s z t u : (Nat → Nat → Int32)} {w a b : Int32} (H : v_W S j k s z t u) (hq : q ≤ 16) (h1 : a = b) : v_W S j k s z (m_loads t j q w a) (m_loads u k q w b) := by
  subst h1
  unfold m_loads
  by_cases e : m_f3 w = 3 ∨ ¬ m_f3 w ≤ 5
  · rw [if_pos e, if_pos e]; exact v_trap H rfl rfl
  have e3 := e
  rw [if_neg e, if_neg e]
  by_cases e : ¬ a &&& (m_ln w - 1) = 0
  · rw [if_pos e, if_pos e]; exact v_trap H rfl rfl
  rw [if_neg e, if_neg e]
  by_cases e : m_ln w = 4 ∧ m_isDev a = true
  · rw [if_pos e, if_pos e]; exact v_goesOn (v_rds H hq) (m_n5_lt _) (v_rdv H.1)
  rw [if_neg e, if_neg e, ← v_g4 H]
  by_cases e : ¬ (0 ≤ a ∧ a ≤ t 4 0 - m_ln w)
  · rw [if_pos e, if_pos e]; exact v_trap H rfl rfl
  rw [if_neg e, if_neg e]
  have e := Classical.not_not.mp e
  obtain ⟨b1, b2, b3, _⟩ := H.2.1.2.2.1
  refine v_goesOn H (m_n5_lt _) (v_lval H.1 b3 e3 ?_)
  intro n hn h4
  rw [b1, hn] at e
  exact v_inN b3 (by omega) e
theorem v_stores {S j k q r p n : Nat} {s z t u : (Nat → Nat → Int32)} {w a b v c : Int32} (H : v_W S j k s z t u) (hq : q ≤ 127) (hr : r ≤ 127) (hp : p ≤ 4) (hn : n ≤ 32) (h1 : a = b) (h2 : v = c) : v_W S j k s z (m_stores t j q p n w a v) (m_stores u k r p n w b c) := by
  subst h1; subst h2
  unfold m_stores
  by_cases e : ¬ m_f3 w ≤ 2
  · rw [if_pos e, if_pos e]; exact v_trap H rfl rfl
  have e3 := Classical.not_not.mp e
  rw [if_neg e, if_neg e]
  by_cases e : ¬ a &&& (m_sn w - 1) = 0
  · rw [if_pos e, if_pos e]; exact v_trap H rfl rfl
  rw [if_neg e, if_neg e]
  by_cases e : m_sn w = 4 ∧ m_isDev a = true
  · rw [if_pos e, if_pos e]; exact v_next (v_wdev H hq hr hp hn)
  rw [if_neg e, if_neg e, ← v_g4 H]
  by_cases e : ¬ (0 ≤ a ∧ a ≤ t 4 0 - m_sn w)
  · rw [if_pos e, if_pos e]; exact v_trap H rfl rfl
  rw [if_neg e, if_neg e]
  have e := Classical.not_not.mp e
  obtain ⟨b1, b2, b3, _⟩ := H.2.1.2.2.1
  obtain ⟨i, i4, ei⟩ := m_sn_n e3
  rw [b1, ei] at e
  have := v_inN b3 (by omega) e
  refine v_next (v_stl H _ ?_)
  rw [ei]
  show cl a + cl (nI i) ≤ 4096
  rw [cl_nI (by omega)]; omega
theorem v_op {S j k : Nat} {s z t u : (Nat → Nat → Int32)} {τ υ : (Nat → Nat → Int64)} {w : Int32} (H : v_W S j k s z t u) (hc : τ 19 j = υ 19 k) (hq : cl (t 38 j) ≤ 127) (hr : cl (u 38 k) ≤ 127) : v_W S j k s z (m_op t τ j w) (m_op u υ k w) := by
  have ea : m_ra t j w = m_ra u k w := v_gx H.1 (m_n5_lt _)
  have eb : m_rb t j w = m_rb u k w := v_gx H.1 (m_n5_lt _)
  have ep := v_g1 17 H.1 rfl
  unfold m_op
  by_cases e : w &&& 127 = 55
  · rw [if_pos e, if_pos e]; exact v_goesOn H (m_n5_lt _) rfl
  rw [if_neg e, if_neg e]
  by_cases e : w &&& 127 = 23
  · rw [if_pos e, if_pos e]; exact v_goesOn H (m_n5_lt _) (by rw [ep])
  rw [if_neg e, if_neg e]
  by_cases e : w &&& 127 = 111
  · rw [if_pos e, if_pos e]; exact v_jumps H (m_n5_lt _) (by rw [ep])
  rw [if_neg e, if_neg e]
  by_cases e : w &&& 127 = 103
  · rw [if_pos e, if_pos e]
    by_cases e : m_f3 w = 0
    · rw [if_pos e, if_pos e]; exact v_jumps H (m_n5_lt _) (by rw [ea])
    · rw [if_neg e, if_neg e]; exact v_trap H rfl rfl
  rw [if_neg e, if_neg e]
  by_cases e : w &&& 127 = 99
  · rw [if_pos e, if_pos e]; exact v_branch H ea eb
  rw [if_neg e, if_neg e]
  by_cases e : w &&& 127 = 3
  · rw [if_pos e, if_pos e, ← v_g1 33 H.1 rfl]; exact v_loads H H.2.1.2.2.1.2.2.2.1.2 (by rw [ea])
  rw [if_neg e, if_neg e]
  by_cases e : w &&& 127 = 35
  · have e34 : t 34 (4 * j) = u 34 (4 * k) := v_gz (i := 0) H.1 (by decide)
    rw [if_pos e, if_pos e, ← v_g1 35 H.1 rfl, ← e34]
    exact v_stores H hq hr H.2.1.2.2.1.2.2.2.2.1.2 (H.2.1.2.2.1.2.2.2.2.2.1 0 (by decide)).2 (by rw [ea]) eb
  rw [if_neg e, if_neg e]
  by_cases e : w &&& 127 = 19
  · rw [if_pos e, if_pos e]; exact v_reckons H ea rfl
  rw [if_neg e, if_neg e]
  by_cases e : w &&& 127 = 51
  · rw [if_pos e, if_pos e]; exact v_reckons H ea eb
  rw [if_neg e, if_neg e]
  by_cases e : w &&& 127 = 15
  · rw [if_pos e, if_pos e]; exact v_next H
  rw [if_neg e, if_neg e]
  by_cases e : w &&& 127 = 115
  · rw [if_pos e, if_pos e]; exact v_system H hc ea
  rw [if_neg e, if_neg e]; exact v_trap H rfl rfl
theorem v_exec {S j k : Nat} {s z t u : (Nat → Nat → Int32)} {τ υ : (Nat → Nat → Int64)} (H : v_W S j k s z t u) (hc : τ 19 j = υ 19 k) (hq : cl (t 38 j) ≤ 127) (hr : cl (u 38 k) ≤ 127) : v_W S j k s z (m_exec t τ j) (m_exec u υ k) := by
  unfold m_exec
  rw [← v_g1 17 H.1 rfl, ← v_g4 H]
  obtain ⟨b1, b2, b3, _⟩ := H.2.1.2.2.1
  by_cases e : 0 ≤ t 17 j ∧ t 17 j ≤ t 4 0 - 4
  · rw [if_pos e, if_pos e]
    rw [b1] at e
    have := v_inN (n := 4) b3 (by omega) e
    rw [← v_word H.1 b3 (a := (t 17 j).toNatClampNeg) this]
    exact v_op H hc hq hr
  · rw [if_neg e, if_neg e]; exact v_trap H rfl rfl
theorem v_both {S j k : Nat} {t u : (Nat → Nat → Int32)} (H : v_E S j k t u) : m_both t j = m_both u k := by
  unfold m_both; rw [v_pending H, v_gc (i := 1) H (by decide)]
theorem v_irq {S j k : Nat} {t u : (Nat → Nat → Int32)} (H : v_E S j k t u) : m_irq t j = m_irq u k := by
  simp only [m_irq, v_both H, v_gc (i := 0) H (by decide)]
theorem v_stx {S j k : Nat} {s z : (Nat → Nat → Int32)} {τ υ : (Nat → Nat → Int64)} (H : v_W S j k s z s z) (hc : τ 19 j = υ 19 k) : v_W S j k s z (m_stx s τ j) (m_stx z υ k) := by
  unfold m_stx
  rw [← v_irq H.1, ← v_both H.1]
  have H1 := v_W_1 20 (v := 0) (w := 0) H rfl rfl rfl
  by_cases e : m_irq s j = true
  · rw [if_pos e, if_pos e]; exact v_trap H1 rfl rfl
  · rw [if_neg e, if_neg e]
    refine v_exec H1 hc ?_ ?_
    · rw [u2_ne (by decide)]; exact H.2.1.2.2.2.2
    · rw [u2_ne (by decide)]; exact H.2.2.2.2.2.2
