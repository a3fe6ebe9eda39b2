theorem v_set {S j k i : Nat} {s z t u : (Nat → Nat → Int32)} {v w : Int32} (H : v_W S j k s z t u) (hi : i < 32) (hv : v = w) : v_W S j k s z (m_set t j i v) (m_set u k i w) := by
  unfold m_set
  by_cases e : i = 0
  · rw [if_pos e, if_pos e]; exact H
  · rw [if_neg e, if_neg e]; exact v_W_x H hi hv
theorem v_trap {S j k : Nat} {s z t u : (Nat → Nat → Int32)} {c d v w : Int32} (H : v_W S j k s z t u) (hc : c = d) (hv : v = w) : v_W S j k s z (m_trap t j c v) (m_trap u k d w) := by
  subst hc; subst hv
  have H1 := v_W_c (i := 4) H (by decide) (congrArg (m_mask 4) (v_g1 17 H.1 rfl))
  have H2 := v_W_c (i := 5) H1 (by decide) (rfl : m_mask 5 c = _)
  have H3 := v_W_c (i := 6) H2 (by decide) (rfl : m_mask 6 v = _)
  have H4 := v_W_c (i := 0) H3 (by decide) (congrArg (fun x => m_mask 0 ((x &&& 8) <<< ((4 : Int32) &&& 31))) (v_gc (i := 0) H3.1 (by decide)))
  exact v_W_1 17 H4 rfl rfl (v_gc (i := 2) H4.1 (by decide))
theorem v_next {S j k : Nat} {s z t u : (Nat → Nat → Int32)} (H : v_W S j k s z t u) : v_W S j k s z (u2 t 17 j (t 17 j + 4)) (u2 u 17 k (u 17 k + 4)) := v_W_1 17 H rfl rfl (by rw [v_g1 17 H.1 rfl])
theorem v_goesOn {S j k i : Nat} {s z t u : (Nat → Nat → Int32)} {v w : Int32} (H : v_W S j k s z t u) (hi : i < 32) (hv : v = w) : v_W S j k s z (m_goesOn t j i v) (m_goesOn u k i w) := v_next (v_set H hi hv)
theorem v_jumps {S j k i : Nat} {s z t u : (Nat → Nat → Int32)} {v w : Int32} (H : v_W S j k s z t u) (hi : i < 32) (hv : v = w) : v_W S j k s z (m_jumps t j i v) (m_jumps u k i w) := by
  subst hv
  unfold m_jumps
  by_cases e : v &&& 3 = 0
  · rw [if_pos e, if_pos e]; exact v_W_1 17 (v_set H hi (by rw [v_g1 17 H.1 rfl])) rfl rfl rfl
  · rw [if_neg e, if_neg e]; exact v_trap H rfl rfl
theorem v_branch {S j k : Nat} {s z t u : (Nat → Nat → Int32)} {w a b c d : Int32} (H : v_W S j k s z t u) (h1 : a = c) (h2 : b = d) : v_W S j k s z (m_branch t j w a b) (m_branch u k w c d) := by
  subst h1; subst h2
  unfold m_branch
  rw [← v_g1 17 H.1 rfl]
  by_cases e : m_f3 w = 2 ∨ m_f3 w = 3
  · rw [if_pos e, if_pos e]; exact v_trap H rfl rfl
  rw [if_neg e, if_neg e]
  by_cases e : m_bit w a b = false
  · rw [if_pos e, if_pos e]; exact v_W_1 17 H rfl rfl rfl
  rw [if_neg e, if_neg e]
  by_cases e : (t 17 j + m_bto w) &&& 3 = 0
  · rw [if_pos e, if_pos e]; exact v_W_1 17 H rfl rfl rfl
  rw [if_neg e, if_neg e]; exact v_trap H rfl rfl
theorem v_reckons {S j k : Nat} {s z t u : (Nat → Nat → Int32)} {w a b c d : Int32} {n : Bool} (H : v_W S j k s z t u) (h1 : a = c) (h2 : b = d) : v_W S j k s z (m_reckons t j w a b n) (m_reckons u k w c d n) := by
  subst h1; subst h2
  unfold m_reckons
  by_cases e : m_rgood w n = true
  · rw [if_pos e, if_pos e]; exact v_goesOn H (m_n5_lt _) rfl
  rw [if_neg e, if_neg e]; exact v_trap H rfl rfl
theorem v_pending {S j k : Nat} {t u : (Nat → Nat → Int32)} (H : v_E S j k t u) : m_pending t j = m_pending u k := by
  simp only [m_pending, m_late, m_some, v_g1 22 H rfl, v_g1 21 H rfl, v_g1 33 H rfl, v_g1 35 H rfl, v_g1 27 H rfl]
theorem v_cval {S j k : Nat} {t u : (Nat → Nat → Int32)} {τ υ : (Nat → Nat → Int64)} {n : Int32} (H : v_E S j k t u) (hc : τ 19 j = υ 19 k) : m_cval t τ j n = m_cval u υ k n := by
  unfold m_cval
  by_cases e : ¬ m_ck n = 7
  · rw [if_pos e, if_pos e]; exact v_gc H (by have := m_ck_le n; omega)
  rw [if_neg e, if_neg e, v_pending H, hc]
theorem v_register {S j k : Nat} {s z t u : (Nat → Nat → Int32)} {τ υ : (Nat → Nat → Int64)} {w a b : Int32} (H : v_W S j k s z t u) (hc : τ 19 j = υ 19 k) (h1 : a = b) : v_W S j k s z (m_register t τ j w a) (m_register u υ k w b) := by
  subst h1
  unfold m_register
  by_cases e : m_cbad w = true
  · rw [if_pos e, if_pos e]; exact v_trap H rfl rfl
  rw [if_neg e, if_neg e]
  refine v_goesOn ?_ (m_n5_lt _) (v_cval H.1 hc)
  by_cases f : m_cwr w = true
  · rw [if_pos f, if_pos f]
    refine v_W_c H ?_ (by rw [v_cval H.1 hc])
    have e := e
    unfold m_cbad at e
    have e := mt (decide_eq_true (p := _)) e
    have h7 : ¬ m_ck (m_ur w 20) = 7 := by
      intro h7
      apply e
      by_cases r : m_ro (m_ur w 20) = false
      · exact .inr (.inl ⟨h7, r⟩)
      · exact .inr (.inr ⟨by simpa using r, f⟩)
    have := m_ck_le (m_ur w 20); omega
  · rw [if_neg f, if_neg f]; exact H
theorem v_system {S j k : Nat} {s z t u : (Nat → Nat → Int32)} {τ υ : (Nat → Nat → Int64)} {w a b : Int32} (H : v_W S j k s z t u) (hc : τ 19 j = υ 19 k) (h1 : a = b) : v_W S j k s z (m_system t τ j w a) (m_system u υ k w b) := by
  unfold m_system
  by_cases e : w = 115
  · rw [if_pos e, if_pos e]; exact v_trap H rfl rfl
  rw [if_neg e, if_neg e]
  by_cases e : w = 1048691
  · rw [if_pos e, if_pos e]; exact v_trap H rfl (v_g1 17 H.1 rfl)
  rw [if_neg e, if_neg e]
  by_cases e : w = 807403635
  · rw [if_pos e, if_pos e]
    have H1 := v_W_1 17 H rfl rfl (v_gc (i := 4) H.1 (by decide))
    exact v_W_c (i := 0) H1 (by decide) (congrArg (fun x => m_mask 0 (m_sr (x &&& 128) 4 ||| 128)) (v_gc (i := 0) H1.1 (by decide)))
  rw [if_neg e, if_neg e]
  by_cases e : w = 273678451
  · rw [if_pos e, if_pos e]; exact v_next (v_W_1 20 H rfl rfl rfl)
  rw [if_neg e, if_neg e]; exact v_register H hc h1
theorem v_word {S j k a : Nat} {t u : (Nat → Nat → Int32)} (H : v_E S j k t u) (hS : S ≤ 4096) (h : a + 4 ≤ S) : m_word t j a = m_word u k a := by
  unfold m_word
  rw [v_gm H hS (by omega : a < S), v_gm H hS (by omega : a + 1 < S), v_gm H hS (by omega : a + 2 < S), v_gm H hS (by omega : a + 3 < S)]
theorem v_keys {S j k : Nat} {s z t u : (Nat → Nat → Int32)} (H : v_W S j k s z t u) : ∀ i, i ≤ 15 → v_W S j k s z (m_keys t j i) (m_keys u k i)
  | 0, _ => H
  | i + 1, hi => by
    have ih := v_keys H i (by omega)
    exact v_W_u 32 ih rfl (by show i < 16; omega) (v_gk (i := i + 1) ih.1 (by omega))
theorem v_took {S j k q : Nat} {s z t u : (Nat → Nat → Int32)} (H : v_W S j k s z (u2 t 33 j (nI q)) (u2 u 33 k (nI q))) (hq : q ≤ 15) : v_W S j k s z (m_took t j q) (m_took u k q) := v_keys H q hq
