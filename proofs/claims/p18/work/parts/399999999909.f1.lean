def kq (f : Nat) : Bool := decide (f = 31 ∨ f = 43)
def kqK (s t : (Nat → Nat → Int32)) : Prop := ∀ f, kq f = true → t f = s f
theorem kq_u {s t : (Nat → Nat → Int32)} {f i : Nat} {v : Int32} (H : kqK s t) (hf : kq f = false) : kqK s (u2 t f i v) := by
  intro g hg
  rw [u2_ne (by intro e; subst e; rw [hf] at hg; cases hg)]; exact H g hg
theorem kq_rf {s : (Nat → Nat → Int32)} : kqK s s := fun _ _ => rfl
theorem kq_set {s t : (Nat → Nat → Int32)} {j i : Nat} {v : Int32} (H : kqK s t) : kqK s (m_set t j i v) := by
  unfold m_set
  by_cases e : i = 0
  · rw [if_pos e]; exact H
  · rw [if_neg e]; exact kq_u H rfl
theorem kq_trap {s t : (Nat → Nat → Int32)} {j : Nat} {c v : Int32} (H : kqK s t) : kqK s (m_trap t j c v) := by
  unfold m_trap
  exact kq_u (kq_u (kq_u (kq_u (kq_u H rfl) rfl) rfl) rfl) rfl
theorem kq_goesOn {s t : (Nat → Nat → Int32)} {j i : Nat} {v : Int32} (H : kqK s t) : kqK s (m_goesOn t j i v) := kq_u (kq_set H) rfl
theorem kq_jumps {s t : (Nat → Nat → Int32)} {j i : Nat} {v : Int32} (H : kqK s t) : kqK s (m_jumps t j i v) := by
  unfold m_jumps
  by_cases e : v &&& 3 = 0
  · rw [if_pos e]; exact kq_u (kq_set H) rfl
  · rw [if_neg e]; exact kq_trap H
theorem kq_branch {s t : (Nat → Nat → Int32)} {j : Nat} {w a b : Int32} (H : kqK s t) : kqK s (m_branch t j w a b) := by
  unfold m_branch
  by_cases e : m_f3 w = 2 ∨ m_f3 w = 3
  · rw [if_pos e]; exact kq_trap H
  rw [if_neg e]
  by_cases e : m_bit w a b = false
  · rw [if_pos e]; exact kq_u H rfl
  rw [if_neg e]
  by_cases e : (t 17 j + m_bto w) &&& 3 = 0
  · rw [if_pos e]; exact kq_u H rfl
  rw [if_neg e]; exact kq_trap H
theorem kq_reckons {s t : (Nat → Nat → Int32)} {j : Nat} {w a b : Int32} {n : Bool} (H : kqK s t) : kqK s (m_reckons t j w a b n) := by
  unfold m_reckons
  by_cases e : m_rgood w n = true
  · rw [if_pos e]; exact kq_goesOn H
  rw [if_neg e]; exact kq_trap H
theorem kq_register {s t : (Nat → Nat → Int32)} {τ : (Nat → Nat → Int64)} {j : Nat} {w a : Int32} (H : kqK s t) : kqK s (m_register t τ j w a) := by
  unfold m_register
  by_cases e : m_cbad w = true
  · rw [if_pos e]; exact kq_trap H
  rw [if_neg e]
  apply kq_goesOn
  by_cases f : m_cwr w = true
  · rw [if_pos f]; exact kq_u H rfl
  · rw [if_neg f]; exact H
theorem kq_system {s t : (Nat → Nat → Int32)} {τ : (Nat → Nat → Int64)} {j : Nat} {w a : Int32} (H : kqK s t) : kqK s (m_system t τ j w a) := by
  unfold m_system
  by_cases e : w = 115
  · rw [if_pos e]; exact kq_trap H
  rw [if_neg e]
  by_cases e : w = 1048691
  · rw [if_pos e]; exact kq_trap H
  rw [if_neg e]
  by_cases e : w = 807403635
  · rw [if_pos e]; exact kq_u (kq_u H rfl) rfl
  rw [if_neg e]
  by_cases e : w = 273678451
  · rw [if_pos e]; exact kq_u (kq_u H rfl) rfl
  rw [if_neg e]; exact kq_register H
theorem kq_loads {s t : (Nat → Nat → Int32)} {j q : Nat} {w a : Int32} (H : kqK s t) : kqK s (m_loads t j q w a) := by
  unfold m_loads
  by_cases e : m_f3 w = 3 ∨ ¬ m_f3 w ≤ 5
  · rw [if_pos e]; exact kq_trap H
  rw [if_neg e]
  by_cases e : ¬ a &&& (m_ln w - 1) = 0
  · rw [if_pos e]; exact kq_trap H
  rw [if_neg e]
  by_cases e : m_ln w = 4 ∧ m_isDev a = true
  · rw [if_pos e]
    apply kq_goesOn
    unfold m_rds
    by_cases e : (a - 65536).toNatClampNeg = 8
    · rw [if_pos e]
      by_cases e : q = 0
      · rw [if_pos e]; exact H
      · rw [if_neg e]
        unfold m_took
        intro f hf
        rw [m_keys_ne (by intro e; subst e; cases hf)]
        exact kq_u (i := j) (v := nI (q - 1)) H (show kq 33 = false from rfl) f hf
    · rw [if_neg e]; exact H
  rw [if_neg e]
  by_cases e : ¬ (0 ≤ a ∧ a ≤ t 4 0 - m_ln w)
  · rw [if_pos e]; exact kq_trap H
  rw [if_neg e]; exact kq_goesOn H

def v_Q (j : Nat) (s t : (Nat → Nat → Int32)) : Prop := (s 27 j = 1 → ∀ i, i < 64 → t 31 (64 * j + i) = s 31 (64 * j + i)) ∧ (∀ K i, K ≠ 128 * j + cl (s 38 j) → i < 64 → t 43 (64 * K + i) = s 43 (64 * K + i)) ∧ (¬ t 37 j = s 37 j → t 39 (128 * j + cl (s 38 j)) = 2 → ∀ i, i < 64 → t 43 (64 * (128 * j + cl (s 38 j)) + i) = t 31 (64 * j + i))
theorem v_Q_k {j : Nat} {s t : (Nat → Nat → Int32)} (H : kqK s t) (h : t 37 j = s 37 j) : v_Q j s t := by
  refine ⟨?_, ?_, fun q => absurd h q⟩
  · intro _ i _; rw [H 31 rfl]
  · intro K i _ _; rw [H 43 rfl]
theorem askl_q {s : (Nat → Nat → Int32)} {j q A : Nat} : ∀ n i, i < n → m_askl s j q A n 43 (64 * (128 * j + q) + i) = m_askl s j q A n 31 (64 * j + i)
  | 0, i, h => absurd h (by omega)
  | n + 1, i, h => by
    unfold m_askl
    by_cases e : i = n
    · subst e
      rw [u2_ss, u2_ne (show (31 : Nat) ≠ 43 by decide), u2_ss]
      rw [Int8.toInt8_toInt32]
    · rw [u2_sn (by omega), u2_ne (by decide), u2_ne (by decide), u2_sn (by omega)]
      exact askl_q n i (by omega)
theorem askl_q2 {s : (Nat → Nat → Int32)} {j q A K i : Nat} (h : K ≠ 128 * j + q) (hi : i < 64) : ∀ n, n ≤ 64 → m_askl s j q A n 43 (64 * K + i) = s 43 (64 * K + i)
  | 0, _ => rfl
  | n + 1, hn => by
    unfold m_askl
    rw [u2_sn (by omega), u2_ne (by decide)]
    exact askl_q2 h hi n (by omega)
theorem wpk_q2 {s : (Nat → Nat → Int32)} {j q A K i : Nat} (h : K ≠ 128 * j + q) (hi : i < 64) : ∀ n, n ≤ 64 → m_wpk s j q A n 43 (64 * K + i) = s 43 (64 * K + i)
  | 0, _ => rfl
  | n + 1, hn => by
    unfold m_wpk
    rw [u2_sn (by omega)]
    exact wpk_q2 h hi n (by omega)
theorem putq_ne {s : (Nat → Nat → Int32)} {j k f : Nat} {c a b : Int32} (h : f ≠ 37 ∧ f ≠ 38 ∧ f ≠ 39 ∧ f ≠ 40 ∧ f ≠ 41 ∧ f ≠ 42 ∧ f ≠ 74) : m_puts s j k c a b f = s f := by
  unfold m_puts m_put1
  rw [u2_ne h.2.2.2.2.2.2, u2_ne h.2.1, u2_ne h.2.2.2.2.2.1, u2_ne h.2.2.2.2.1, u2_ne h.2.2.2.1, u2_ne h.2.2.1, u2_ne h.1]
theorem putq_39 {s : (Nat → Nat → Int32)} {j k : Nat} {c a b : Int32} : m_puts s j k c a b 39 k = c := by
  unfold m_puts m_put1
  rw [u2_ne (by decide), u2_ne (by decide), u2_ne (by decide), u2_ne (by decide), u2_ne (by decide), u2_ss]
theorem v_Q_w {j : Nat} {s t u : (Nat → Nat → Int32)} (H : v_Q j s t) (h : ∀ f, f = 31 ∨ f = 43 ∨ f = 37 ∨ f = 39 → u f = t f) : v_Q j s u := by
  obtain ⟨a, b, c⟩ := H
  refine ⟨?_, ?_, ?_⟩
  · rw [h 31 (by omega)]; exact a
  · rw [h 43 (by omega)]; exact b
  · rw [h 37 (by omega), h 39 (by omega), h 43 (by omega), h 31 (by omega)]; exact c
theorem v_Q_wdev {j p n i : Nat} {s : (Nat → Nat → Int32)} {v : Int32} : v_Q j s (m_wdev s j (cl (s 38 j)) p n i v) := by
  unfold m_wdev
  by_cases e : i = 4
  · rw [if_pos e]; exact v_Q_k (kq_u kq_rf rfl) (by rw [u2_ne (by decide)])
  rw [if_neg e]
  by_cases e : i = 12
  · rw [if_pos e]
    refine ⟨?_, ?_, ?_⟩
    · rw [putq_ne (by decide)]; exact fun _ _ _ => rfl
    · rw [putq_ne (by decide)]; exact fun _ _ _ _ => rfl
    · rw [putq_39]; exact fun _ q => absurd q (by decide)
  rw [if_neg e]
  by_cases e : i = 16
  · rw [if_pos e]; exact v_Q_k (kq_u kq_rf rfl) (by rw [u2_ne (by decide)])
  rw [if_neg e]
  by_cases e : i = 20
  · rw [if_pos e]; exact v_Q_k (kq_u kq_rf rfl) (by rw [u2_ne (by decide)])
  rw [if_neg e]
  by_cases e : i = 24
  · rw [if_pos e]
    unfold m_asks
    by_cases e0 : v = 0
    · rw [if_pos e0]
      by_cases e1 : s 27 j = 2
      · rw [if_pos e1]; exact v_Q_k (kq_u kq_rf rfl) (by rw [u2_ne (by decide)])
      · rw [if_neg e1]; exact v_Q_k kq_rf rfl
    rw [if_neg e0]
    by_cases e1 : m_agood s j v = true
    · rw [if_pos e1]
      have g := of_decide_eq_true e1
      refine ⟨fun q => absurd q g.2.1, ?_, ?_⟩
      · intro K i hK hi
        rw [putq_ne (by decide), askl_q2 hK hi 64 (by omega), m_ask0_ne (by decide) (by decide) (by decide) (by decide)]
      · intro _ _ i hi
        rw [putq_ne (by decide), putq_ne (by decide)]
        exact askl_q (s := m_ask0 s j v) (A := (s 24 j).toNatClampNeg) 64 i hi
    · rw [if_neg e1]; exact v_Q_k kq_rf rfl
  rw [if_neg e]
  by_cases e : i = 28
  · rw [if_pos e]; exact v_Q_k (kq_u kq_rf rfl) (by rw [u2_ne (by decide)])
  rw [if_neg e]
  by_cases e : i = 32
  · rw [if_pos e]
    by_cases g : m_sgood s j v
    · rw [if_pos g]
      obtain ⟨N, hN, eN⟩ := sg_n g.1 g.2.1
      refine ⟨?_, ?_, ?_⟩
      · rw [putq_ne (by decide), m_wpk_ne (by decide)]; exact fun _ _ _ => rfl
      · intro K i hK hi
        rw [putq_ne (by decide), wpk_q2 hK hi _ (by rw [eN]; show cl (nI N) ≤ 64; rw [cl_nI (by omega)]; omega)]
      · rw [putq_39]; exact fun _ q => absurd q (by decide)
    · rw [if_neg g]; exact v_Q_k kq_rf rfl
  rw [if_neg e]
  by_cases e : i = 36
  · rw [if_pos e]
    unfold m_receives
    by_cases e : p = 0 ∨ ¬ (0 ≤ v ∧ v ≤ s 4 0 - nI n)
    · rw [if_pos e]; exact v_Q_k kq_rf rfl
    rw [if_neg e]
    have h : ∀ f, f ≠ 34 → f ≠ 36 → f ≠ 35 → f ≠ 15 → f ≠ 63 → m_recs (u2 (m_recw s j v.toNatClampNeg n) 35 j (nI (p - 1))) j (p - 1) f = s f := fun f a b c d e => by
      rw [m_recs_ne a b, u2_ne c, m_recw_ne d e]
    exact v_Q_k (fun f hf => by have := of_decide_eq_true hf; exact h f (by omega) (by omega) (by omega) (by omega) (by omega)) (by rw [h 37 (by decide) (by decide) (by decide) (by decide) (by decide)])
  rw [if_neg e]
  by_cases e : i = 40
  · rw [if_pos e]; exact v_Q_k (kq_u kq_rf rfl) (by rw [u2_ne (by decide)])
  rw [if_neg e]; exact v_Q_k kq_rf rfl
theorem v_Q_kp {j : Nat} {s t : (Nat → Nat → Int32)} (H : kqK s t) (h : kpK s t) : v_Q j s t := v_Q_k H (by rw [h 37 rfl])
theorem v_Q_stores {j p n : Nat} {s : (Nat → Nat → Int32)} {w a v : Int32} : v_Q j s (m_stores s j (cl (s 38 j)) p n w a v) := by
  unfold m_stores
  by_cases e : ¬ m_f3 w ≤ 2
  · rw [if_pos e]; exact v_Q_kp (kq_trap kq_rf) (kp_trap kp_rf)
  rw [if_neg e]
  by_cases e : ¬ a &&& (m_sn w - 1) = 0
  · rw [if_pos e]; exact v_Q_kp (kq_trap kq_rf) (kp_trap kp_rf)
  rw [if_neg e]
  by_cases e : m_sn w = 4 ∧ m_isDev a = true
  · rw [if_pos e]
    exact v_Q_w (v_Q_wdev (p := p) (n := n)) (fun f hf => by unfold m_next; rw [u2_ne (by omega)])
  rw [if_neg e]
  by_cases e : ¬ (0 ≤ a ∧ a ≤ s 4 0 - m_sn w)
  · rw [if_pos e]; exact v_Q_kp (kq_trap kq_rf) (kp_trap kp_rf)
  rw [if_neg e]
  unfold m_next
  refine v_Q_k (kq_u (fun f hf => ?_) rfl) (by rw [u2_ne (by decide), m_stl_ne (by decide) (by decide)])
  have := of_decide_eq_true hf
  rw [m_stl_ne (by omega) (by omega)]
theorem v_Q_op {j : Nat} {s : (Nat → Nat → Int32)} {τ : (Nat → Nat → Int64)} {w : Int32} : v_Q j s (m_op s τ j w) := by
  unfold m_op
  by_cases e : w &&& 127 = 55
  · rw [if_pos e]; exact v_Q_kp (kq_goesOn kq_rf) (kp_goesOn kp_rf)
  rw [if_neg e]
  by_cases e : w &&& 127 = 23
  · rw [if_pos e]; exact v_Q_kp (kq_goesOn kq_rf) (kp_goesOn kp_rf)
  rw [if_neg e]
  by_cases e : w &&& 127 = 111
  · rw [if_pos e]; exact v_Q_kp (kq_jumps kq_rf) (kp_jumps kp_rf)
  rw [if_neg e]
  by_cases e : w &&& 127 = 103
  · rw [if_pos e]
    by_cases e : m_f3 w = 0
    · rw [if_pos e]; exact v_Q_kp (kq_jumps kq_rf) (kp_jumps kp_rf)
    · rw [if_neg e]; exact v_Q_kp (kq_trap kq_rf) (kp_trap kp_rf)
  rw [if_neg e]
  by_cases e : w &&& 127 = 99
  · rw [if_pos e]; exact v_Q_kp (kq_branch kq_rf) (kp_branch kp_rf)
  rw [if_neg e]
  by_cases e : w &&& 127 = 3
  · rw [if_pos e]; exact v_Q_kp (kq_loads kq_rf) (kp_loads kp_rf)
  rw [if_neg e]
  by_cases e : w &&& 127 = 35
  · rw [if_pos e]; exact v_Q_stores
  rw [if_neg e]
  by_cases e : w &&& 127 = 19
  · rw [if_pos e]; exact v_Q_kp (kq_reckons kq_rf) (kp_reckons kp_rf)
  rw [if_neg e]
  by_cases e : w &&& 127 = 51
  · rw [if_pos e]; exact v_Q_kp (kq_reckons kq_rf) (kp_reckons kp_rf)
  rw [if_neg e]
  by_cases e : w &&& 127 = 15
  · rw [if_pos e]; exact v_Q_kp (kq_u kq_rf rfl) (kp_u kp_rf rfl)
  rw [if_neg e]
  by_cases e : w &&& 127 = 115
  · rw [if_pos e]; exact v_Q_kp (kq_system kq_rf) (kp_system kp_rf)
  rw [if_neg e]; exact v_Q_kp (kq_trap kq_rf) (kp_trap kp_rf)
theorem v_Q_stx {j : Nat} {s : (Nat → Nat → Int32)} {τ : (Nat → Nat → Int64)} : v_Q j s (m_stx s τ j) := by
  unfold m_stx
  by_cases e : m_irq s j = true
  · rw [if_pos e]; exact v_Q_kp (kq_trap (kq_u kq_rf rfl)) (kp_trap (kp_u kp_rf rfl))
  rw [if_neg e]
  unfold m_exec
  by_cases f : 0 ≤ u2 s 20 j 0 17 j ∧ u2 s 20 j 0 17 j ≤ u2 s 20 j 0 4 0 - 4
  · rw [if_pos f]
    have h := v_Q_op (j := j) (s := u2 s 20 j 0) (τ := τ) (w := m_word (u2 s 20 j 0) j (u2 s 20 j 0 17 j).toNatClampNeg)
    unfold v_Q at h ⊢
    rwa [u2_ne (show (27 : Nat) ≠ 20 by decide), u2_ne (show (31 : Nat) ≠ 20 by decide), u2_ne (show (43 : Nat) ≠ 20 by decide), u2_ne (show (38 : Nat) ≠ 20 by decide), u2_ne (show (37 : Nat) ≠ 20 by decide)] at h
  · rw [if_neg f]; exact v_Q_kp (kq_trap (kq_u kq_rf rfl)) (kp_trap (kp_u kp_rf rfl))
