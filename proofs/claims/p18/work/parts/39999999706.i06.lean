def kp (f : Nat) : Bool := decide ((27 ≤ f ∧ f ≤ 29) ∨ (37 ≤ f ∧ f ≤ 42) ∨ f = 74)
def kpK (s t : (Nat → Nat → Int32)) : Prop := ∀ f, kp f = true → t f = s f
theorem kp_u {s t : (Nat → Nat → Int32)} {f i : Nat} {v : Int32} (H : kpK s t) (hf : kp f = false) : kpK s (u2 t f i v) := by
  intro g hg
  rw [u2_ne (by intro e; subst e; rw [hf] at hg; cases hg)]; exact H g hg
theorem kp_rf {s : (Nat → Nat → Int32)} : kpK s s := fun _ _ => rfl
theorem kp_set {s t : (Nat → Nat → Int32)} {j i : Nat} {v : Int32} (H : kpK s t) : kpK s (m_set t j i v) := by
  unfold m_set
  by_cases e : i = 0
  · rw [if_pos e]; exact H
  · rw [if_neg e]; exact kp_u H rfl
theorem kp_trap {s t : (Nat → Nat → Int32)} {j : Nat} {c v : Int32} (H : kpK s t) : kpK s (m_trap t j c v) := by
  unfold m_trap
  exact kp_u (kp_u (kp_u (kp_u (kp_u H rfl) rfl) rfl) rfl) rfl
theorem kp_goesOn {s t : (Nat → Nat → Int32)} {j i : Nat} {v : Int32} (H : kpK s t) : kpK s (m_goesOn t j i v) := kp_u (kp_set H) rfl
theorem kp_jumps {s t : (Nat → Nat → Int32)} {j i : Nat} {v : Int32} (H : kpK s t) : kpK s (m_jumps t j i v) := by
  unfold m_jumps
  by_cases e : v &&& 3 = 0
  · rw [if_pos e]; exact kp_u (kp_set H) rfl
  · rw [if_neg e]; exact kp_trap H
theorem kp_branch {s t : (Nat → Nat → Int32)} {j : Nat} {w a b : Int32} (H : kpK s t) : kpK s (m_branch t j w a b) := by
  unfold m_branch
  by_cases e : m_f3 w = 2 ∨ m_f3 w = 3
  · rw [if_pos e]; exact kp_trap H
  rw [if_neg e]
  by_cases e : m_bit w a b = false
  · rw [if_pos e]; exact kp_u H rfl
  rw [if_neg e]
  by_cases e : (t 17 j + m_bto w) &&& 3 = 0
  · rw [if_pos e]; exact kp_u H rfl
  rw [if_neg e]; exact kp_trap H
theorem kp_reckons {s t : (Nat → Nat → Int32)} {j : Nat} {w a b : Int32} {n : Bool} (H : kpK s t) : kpK s (m_reckons t j w a b n) := by
  unfold m_reckons
  by_cases e : m_rgood w n = true
  · rw [if_pos e]; exact kp_goesOn H
  rw [if_neg e]; exact kp_trap H
theorem kp_register {s t : (Nat → Nat → Int32)} {τ : (Nat → Nat → Int64)} {j : Nat} {w a : Int32} (H : kpK s t) : kpK s (m_register t τ j w a) := by
  unfold m_register
  by_cases e : m_cbad w = true
  · rw [if_pos e]; exact kp_trap H
  rw [if_neg e]
  apply kp_goesOn
  by_cases f : m_cwr w = true
  · rw [if_pos f]; exact kp_u H rfl
  · rw [if_neg f]; exact H
theorem kp_system {s t : (Nat → Nat → Int32)} {τ : (Nat → Nat → Int64)} {j : Nat} {w a : Int32} (H : kpK s t) : kpK s (m_system t τ j w a) := by
  unfold m_system
  by_cases e : w = 115
  · rw [if_pos e]; exact kp_trap H
  rw [if_neg e]
  by_cases e : w = 1048691
  · rw [if_pos e]; exact kp_trap H
  rw [if_neg e]
  by_cases e : w = 807403635
  · rw [if_pos e]; exact kp_u (kp_u H rfl) rfl
  rw [if_neg e]
  by_cases e : w = 273678451
  · rw [if_pos e]; exact kp_u (kp_u H rfl) rfl
  rw [if_neg e]; exact kp_register H
theorem kp_loads {s t : (Nat → Nat → Int32)} {j q : Nat} {w a : Int32} (H : kpK s t) : kpK s (m_loads t j q w a) := by
  unfold m_loads
  by_cases e : m_f3 w = 3 ∨ ¬ m_f3 w ≤ 5
  · rw [if_pos e]; exact kp_trap H
  rw [if_neg e]
  by_cases e : ¬ a &&& (m_ln w - 1) = 0
  · rw [if_pos e]; exact kp_trap H
  rw [if_neg e]
  by_cases e : m_ln w = 4 ∧ m_isDev a = true
  · rw [if_pos e]
    apply kp_goesOn
    unfold m_rds
    by_cases e : (a - 65536).toNatClampNeg = 8
    · rw [if_pos e]
      by_cases e : q = 0
      · rw [if_pos e]; exact H
      · rw [if_neg e]
        unfold m_took
        intro f hf
        rw [m_keys_ne (by intro e; subst e; cases hf)]
        exact kp_u (i := j) (v := nI (q - 1)) H (show kp 33 = false from rfl) f hf
    · rw [if_neg e]; exact H
  rw [if_neg e]
  by_cases e : ¬ (0 ≤ a ∧ a ≤ t 4 0 - m_ln w)
  · rw [if_pos e]; exact kp_trap H
  rw [if_neg e]; exact kp_goesOn H
def v_O (j : Nat) (o : Bool) (s t : (Nat → Nat → Int32)) : Prop := (s 27 j = 1 → t 27 j = 1 ∧ t 28 j = s 28 j ∧ t 29 j = s 29 j) ∧ (o = false → t 37 j = s 37 j ∧ t 38 j = s 38 j ∧ t 74 0 = s 74 0 ∧ (∀ f i, 39 ≤ f → f ≤ 42 → t f i = s f i) ∧ (t 27 j = 1 → s 27 j = 1)) ∧
  (o = true → t 37 j = s 37 j + 1 ∧ t 38 j = s 38 j + 1 ∧ t 74 0 = 1 ∧ (∀ f i, 39 ≤ f → f ≤ 42 → i ≠ 128 * j + cl (s 38 j) → t f i = s f i) ∧ t 42 (128 * j + cl (s 38 j)) = s 37 j + 1 ∧ (t 39 (128 * j + cl (s 38 j)) = 1 → ∃ n, n ≤ 32 ∧ t 40 (128 * j + cl (s 38 j)) = nI n) ∧ (t 39 (128 * j + cl (s 38 j)) = 0 ∨ t 39 (128 * j + cl (s 38 j)) = 1 ∨ t 39 (128 * j + cl (s 38 j)) = 2) ∧ (t 39 (128 * j + cl (s 38 j)) = 2 → ¬ s 27 j = 1 ∧ t 27 j = 1 ∧ t 40 (128 * j + cl (s 38 j)) = t 28 j ∧ t 41 (128 * j + cl (s 38 j)) = t 29 j) ∧ (t 27 j = 1 → s 27 j = 1 ∨ t 39 (128 * j + cl (s 38 j)) = 2))
theorem v_O_k {j : Nat} {s t : (Nat → Nat → Int32)} (H : kpK s t) : v_O j false s t := by
  refine ⟨?_, ?_, by intro e; cases e⟩
  · rw [H 27 rfl, H 28 rfl, H 29 rfl]; exact fun e => ⟨e, rfl, rfl⟩
  · intro _
    refine ⟨by rw [H 37 rfl], by rw [H 38 rfl], by rw [H 74 rfl], ?_, by rw [H 27 rfl]; exact id⟩
    intro f i h1 h2
    rw [H f (by unfold kp; exact decide_eq_true (.inr (.inl ⟨by omega, h2⟩)))]
theorem v_O_w {j : Nat} {o : Bool} {s t u : (Nat → Nat → Int32)} (H : v_O j o s t) (hk : kpK t u) : v_O j o s u := by
  have h39 : ∀ f, 39 ≤ f → f ≤ 42 → u f = t f := fun f h1 h2 => hk f (by unfold kp; exact decide_eq_true (.inr (.inl ⟨by omega, h2⟩)))
  obtain ⟨a, b, c⟩ := H
  refine ⟨by rw [hk 27 rfl, hk 28 rfl, hk 29 rfl]; exact a, ?_, ?_⟩
  · intro e
    obtain ⟨b1, b2, b3, b4, b5⟩ := b e
    refine ⟨by rw [hk 37 rfl]; exact b1, by rw [hk 38 rfl]; exact b2, by rw [hk 74 rfl]; exact b3, ?_, by rw [hk 27 rfl]; exact b5⟩
    intro f i h1 h2
    rw [h39 f h1 h2]; exact b4 f i h1 h2
  · intro e
    obtain ⟨b1, b2, b3, b4, b5, b6, b9, b7, b8⟩ := c e
    refine ⟨by rw [hk 37 rfl]; exact b1, by rw [hk 38 rfl]; exact b2, by rw [hk 74 rfl]; exact b3, ?_, ?_, ?_, by rw [hk 39 rfl]; exact b9, ?_, ?_⟩
    · intro f i h1 h2
      rw [h39 f h1 h2]; exact b4 f i h1 h2
    · rw [hk 42 rfl]; exact b5
    · rw [hk 39 rfl, hk 40 rfl]; exact b6
    · rw [hk 39 rfl, hk 27 rfl, hk 40 rfl, hk 41 rfl, hk 28 rfl, hk 29 rfl]; exact b7
    · rw [hk 39 rfl, hk 27 rfl]; exact b8
theorem kp_tr {s t u : (Nat → Nat → Int32)} (a : kpK s t) (b : kpK t u) : kpK s u := fun f hf => (b f hf).trans (a f hf)
theorem v_O_puts {j : Nat} {s t : (Nat → Nat → Int32)} {c a b : Int32} (h37 : t 37 = s 37) (h38 : t 38 = s 38) (hK : ∀ f, 39 ≤ f → f ≤ 42 → t f = s f) (h1 : c = 1 → ∃ n, n ≤ 32 ∧ a = nI n) (h0 : c = 0 ∨ c = 1 ∨ c = 2) (h2 : c = 2 → ¬ s 27 j = 1 ∧ t 27 j = 1 ∧ a = t 28 j ∧ b = t 29 j) (h3 : ¬ c = 2 → t 27 j = s 27 j ∧ t 28 j = s 28 j ∧ t 29 j = s 29 j) : v_O j true s (m_puts t j (128 * j + cl (s 38 j)) c a b) := by
  have e37 : m_put1 t j (128 * j + cl (s 38 j)) c a b 37 j = s 37 j + 1 := by
    unfold m_put1
    rw [u2_ne (by decide), u2_ne (by decide), u2_ne (by decide), u2_ss, h37]
  have e38 : m_put1 t j (128 * j + cl (s 38 j)) c a b 38 = s 38 := by
    unfold m_put1
    rw [u2_ne (by decide), u2_ne (by decide), u2_ne (by decide), u2_ne (by decide), h38]
  have e27 : m_puts t j (128 * j + cl (s 38 j)) c a b 27 = t 27 := by
    unfold m_puts m_put1
    rw [u2_ne (by decide), u2_ne (by decide), u2_ne (by decide), u2_ne (by decide), u2_ne (by decide), u2_ne (by decide), u2_ne (by decide)]
  have e28 : m_puts t j (128 * j + cl (s 38 j)) c a b 28 = t 28 := by
    unfold m_puts m_put1
    rw [u2_ne (by decide), u2_ne (by decide), u2_ne (by decide), u2_ne (by decide), u2_ne (by decide), u2_ne (by decide), u2_ne (by decide)]
  have e29 : m_puts t j (128 * j + cl (s 38 j)) c a b 29 = t 29 := by
    unfold m_puts m_put1
    rw [u2_ne (by decide), u2_ne (by decide), u2_ne (by decide), u2_ne (by decide), u2_ne (by decide), u2_ne (by decide), u2_ne (by decide)]
  have e41 : m_puts t j (128 * j + cl (s 38 j)) c a b 41 (128 * j + cl (s 38 j)) = b := by
    unfold m_puts m_put1
    rw [u2_ne (by decide), u2_ne (by decide), u2_ne (by decide), u2_ss]
  have e39 : m_puts t j (128 * j + cl (s 38 j)) c a b 39 (128 * j + cl (s 38 j)) = c := by
    unfold m_puts m_put1
    rw [u2_ne (by decide), u2_ne (by decide), u2_ne (by decide), u2_ne (by decide), u2_ne (by decide), u2_ss]
  have e40 : m_puts t j (128 * j + cl (s 38 j)) c a b 40 (128 * j + cl (s 38 j)) = a := by
    unfold m_puts m_put1
    rw [u2_ne (by decide), u2_ne (by decide), u2_ne (by decide), u2_ne (by decide), u2_ss]
  refine ⟨?_, (by intro e; cases e), fun _ => ⟨?_, ?_, ?_, ?_, ?_, ?_, ?_, ?_, ?_⟩⟩
  · rw [e27, e28, e29]
    by_cases hc : c = 2
    · exact fun e => absurd e (h2 hc).1
    · rw [(h3 hc).1]; exact fun e => ⟨e, (h3 hc).2⟩
  · unfold m_puts
    rw [u2_ne (by decide), u2_ne (by decide), u2_ne (by decide), e37]
  · unfold m_puts
    rw [u2_ne (by decide), u2_ss, u2_ne (by decide), e38]
  · unfold m_puts; rw [u2_ss]
  · intro f i g1 g2 hi
    have q : ∀ {x : (Nat → Nat → Int32)} {F : Nat} {v : Int32}, u2 x F (128 * j + cl (s 38 j)) v f i = x f i := by
      intro x F v
      by_cases e : f = F
      · subst e; exact u2_sn hi
      · rw [u2_ne e]
    unfold m_puts m_put1
    rw [u2_ne (by omega), u2_ne (by omega), q, q, q, q, u2_ne (by omega), hK f g1 g2]
  · unfold m_puts
    rw [u2_ne (by decide), u2_ne (by decide), u2_ss, e37]
  · rw [e39, e40]; exact h1
  · rw [e39]; exact h0
  · rw [e39, e27, e40, e41, e28, e29]; exact h2
  · rw [e39, e27]
    by_cases hc : c = 2
    · exact fun _ => .inr hc
    · rw [(h3 hc).1]; exact .inl
theorem sg_n {x : Int32} (h1 : ¬ x < 1) (h2 : ¬ 32 < x) : ∃ n, n ≤ 32 ∧ x = nI n := by
  have a := Int32.not_lt.mp h2
  have b := Int32.not_lt.mp h1
  have a : x.toInt ≤ 32 := by simpa [Int32.le_iff_toInt_le] using a
  have b : 1 ≤ x.toInt := by simpa [Int32.le_iff_toInt_le] using b
  refine ⟨x.toInt.toNat, by omega, ?_⟩
  apply Int32.toInt_inj.mp
  unfold nI
  rw [Int32.toInt_ofNat_of_lt (by omega)]; omega
theorem v_O_wdev {j p n i : Nat} {s : (Nat → Nat → Int32)} {v : Int32} : ∃ o, v_O j o s (m_wdev s j (cl (s 38 j)) p n i v) ∧ (o = true → i = 12 ∨ i = 24 ∨ i = 32) := by
  unfold m_wdev
  by_cases e : i = 4
  · rw [if_pos e]; exact ⟨false, v_O_k (kp_u kp_rf rfl), by intro e; cases e⟩
  rw [if_neg e]
  by_cases e : i = 12
  · rw [if_pos e]; exact ⟨true, v_O_puts rfl rfl (fun _ _ _ => rfl) (by intro e; exact absurd e (by decide)) (.inl rfl) (by intro e; exact absurd e (by decide)) (fun _ => ⟨rfl, rfl, rfl⟩), fun _ => .inl e⟩
  rw [if_neg e]
  by_cases e : i = 16
  · rw [if_pos e]; exact ⟨false, v_O_k (kp_u kp_rf rfl), by intro e; cases e⟩
  rw [if_neg e]
  by_cases e : i = 20
  · rw [if_pos e]; exact ⟨false, v_O_k (kp_u kp_rf rfl), by intro e; cases e⟩
  rw [if_neg e]
  by_cases e : i = 24
  · rw [if_pos e]
    unfold m_asks
    by_cases e0 : v = 0
    · rw [if_pos e0]
      by_cases e1 : s 27 j = 2
      · rw [if_pos e1]
        refine ⟨false, ⟨?_, fun _ => ⟨?_, ?_, ?_, ?_, ?_⟩, by intro e; cases e⟩, by intro e; cases e⟩
        · rw [e1]; intro e; exact absurd e (by decide)
        · rw [u2_ne (by decide)]
        · rw [u2_ne (by decide)]
        · rw [u2_ne (by decide)]
        · intro f i h1 h2; rw [u2_ne (by omega)]
        · rw [u2_ss]; intro e; exact absurd e (by decide)
      · rw [if_neg e1]; exact ⟨false, v_O_k kp_rf, by intro e; cases e⟩
    rw [if_neg e0]
    by_cases e1 : m_agood s j v = true
    · rw [if_pos e1]
      have g := of_decide_eq_true e1
      refine ⟨true, v_O_puts ?_ ?_ ?_ (by intro e; exact absurd e (by decide)) (.inr (.inr rfl)) (fun _ => ⟨g.2.1, ?_, ?_, ?_⟩) (fun h => absurd rfl h), fun _ => .inr (.inl e)⟩
      · rw [m_askl_ne (by decide) (by decide), m_ask0_ne (by decide) (by decide) (by decide) (by decide)]
      · rw [m_askl_ne (by decide) (by decide), m_ask0_ne (by decide) (by decide) (by decide) (by decide)]
      · intro f h1 h2
        rw [m_askl_ne (by omega) (by omega), m_ask0_ne (by omega) (by omega) (by omega) (by omega)]
      · rw [m_askl_ne (by decide) (by decide)]
        unfold m_ask0
        rw [u2_ne (by decide), u2_ne (by decide), u2_ne (by decide), u2_ss]
      · rw [m_askl_ne (by decide) (by decide)]
        unfold m_ask0
        rw [u2_ne (by decide), u2_ne (by decide), u2_ss]
      · rw [m_askl_ne (by decide) (by decide)]
        unfold m_ask0
        rw [u2_ne (by decide), u2_ss]
    · rw [if_neg e1]; exact ⟨false, v_O_k kp_rf, by intro e; cases e⟩
  rw [if_neg e]
  by_cases e : i = 28
  · rw [if_pos e]; exact ⟨false, v_O_k (kp_u kp_rf rfl), by intro e; cases e⟩
  rw [if_neg e]
  by_cases e : i = 32
  · rw [if_pos e]
    by_cases g : m_sgood s j v
    · rw [if_pos g]
      refine ⟨true, v_O_puts ?_ ?_ ?_ (fun _ => sg_n g.1 g.2.1) (.inr (.inl rfl)) (by intro e; exact absurd e (by decide)) ?_, fun _ => .inr (.inr e)⟩
      · rw [m_wpk_ne (by decide)]
      · rw [m_wpk_ne (by decide)]
      · intro f h1 h2; rw [m_wpk_ne (by omega)]
      · intro _; rw [m_wpk_ne (by decide), m_wpk_ne (by decide), m_wpk_ne (by decide)]; exact ⟨rfl, rfl, rfl⟩
    · rw [if_neg g]; exact ⟨false, v_O_k kp_rf, by intro e; cases e⟩
  rw [if_neg e]
  by_cases e : i = 36
  · rw [if_pos e]
    refine ⟨false, v_O_k ?_, by intro e; cases e⟩
    unfold m_receives
    by_cases e : p = 0 ∨ ¬ (0 ≤ v ∧ v ≤ s 4 0 - nI n)
    · rw [if_pos e]; exact kp_rf
    rw [if_neg e]
    intro f hf
    have h0 : f ≠ 34 ∧ f ≠ 36 ∧ f ≠ 35 ∧ f ≠ 15 ∧ f ≠ 63 := by
      unfold kp at hf; have := of_decide_eq_true hf; omega
    rw [m_recs_ne h0.1 h0.2.1, u2_ne h0.2.2.1, m_recw_ne h0.2.2.2.1 h0.2.2.2.2]
  rw [if_neg e]
  by_cases e : i = 40
  · rw [if_pos e]; exact ⟨false, v_O_k (kp_u kp_rf rfl), by intro e; cases e⟩
  rw [if_neg e]; exact ⟨false, v_O_k kp_rf, by intro e; cases e⟩
theorem v_O_stores {j p n : Nat} {s : (Nat → Nat → Int32)} {w a v : Int32} : ∃ o, v_O j o s (m_stores s j (cl (s 38 j)) p n w a v) ∧ (o = true → m_f3 w = 2 ∧ (a = 65548 ∨ a = 65560 ∨ a = 65568)) := by
  unfold m_stores
  by_cases e : ¬ m_f3 w ≤ 2
  · rw [if_pos e]; exact ⟨false, v_O_k (kp_trap kp_rf), by intro e; cases e⟩
  have e3 := Classical.not_not.mp e
  rw [if_neg e]
  by_cases e : ¬ a &&& (m_sn w - 1) = 0
  · rw [if_pos e]; exact ⟨false, v_O_k (kp_trap kp_rf), by intro e; cases e⟩
  rw [if_neg e]
  by_cases e : m_sn w = 4 ∧ m_isDev a = true
  · rw [if_pos e]
    obtain ⟨o, h1, h2⟩ := v_O_wdev (j := j) (p := p) (n := n) (i := (a - 65536).toNatClampNeg) (s := s) (v := v)
    refine ⟨o, v_O_w h1 (kp_u kp_rf rfl), ?_⟩
    intro ho
    obtain ⟨t, t1, t2, t3, t4⟩ := m_dev_t e.2
    have hf : m_f3 w = 2 := by
      have es := e.1
      unfold m_sn at es
      rcases v_f3 w with e | e | e | e | e | e | e | e <;> rw [e] at e3 es ⊢
      · exact absurd es (by decide)
      · exact absurd es (by decide)
      · exact absurd e3 (by decide)
      · exact absurd e3 (by decide)
      · exact absurd e3 (by decide)
      · exact absurd e3 (by decide)
      · exact absurd e3 (by decide)
    have ha : a = nI t + 65536 := by rw [← t3, Int32.sub_add_cancel]
    refine ⟨hf, ?_⟩
    rw [t4] at h2
    rcases h2 ho with e | e | e <;> (subst e; rw [ha]; decide)
  rw [if_neg e]
  by_cases e : ¬ (0 ≤ a ∧ a ≤ s 4 0 - m_sn w)
  · rw [if_pos e]; exact ⟨false, v_O_k (kp_trap kp_rf), by intro e; cases e⟩
  rw [if_neg e]
  refine ⟨false, v_O_k ?_, by intro e; cases e⟩
  unfold m_next
  apply kp_u _ rfl
  intro f hf
  have h0 : f ≠ 15 ∧ f ≠ 63 := by
    unfold kp at hf; have := of_decide_eq_true hf; omega
  rw [m_stl_ne h0.1 h0.2]
theorem v_O_op {j : Nat} {s : (Nat → Nat → Int32)} {τ : (Nat → Nat → Int64)} {w : Int32} : ∃ o, v_O j o s (m_op s τ j w) ∧ (o = true → w &&& 127 = 35 ∧ m_f3 w = 2 ∧ (m_outA s j w = 65548 ∨ m_outA s j w = 65560 ∨ m_outA s j w = 65568)) := by
  unfold m_op
  by_cases e : w &&& 127 = 55
  · rw [if_pos e]; exact ⟨false, v_O_k (kp_goesOn kp_rf), by intro e; cases e⟩
  rw [if_neg e]
  by_cases e : w &&& 127 = 23
  · rw [if_pos e]; exact ⟨false, v_O_k (kp_goesOn kp_rf), by intro e; cases e⟩
  rw [if_neg e]
  by_cases e : w &&& 127 = 111
  · rw [if_pos e]; exact ⟨false, v_O_k (kp_jumps kp_rf), by intro e; cases e⟩
  rw [if_neg e]
  by_cases e : w &&& 127 = 103
  · rw [if_pos e]
    by_cases e : m_f3 w = 0
    · rw [if_pos e]; exact ⟨false, v_O_k (kp_jumps kp_rf), by intro e; cases e⟩
    · rw [if_neg e]; exact ⟨false, v_O_k (kp_trap kp_rf), by intro e; cases e⟩
  rw [if_neg e]
  by_cases e : w &&& 127 = 99
  · rw [if_pos e]; exact ⟨false, v_O_k (kp_branch kp_rf), by intro e; cases e⟩
  rw [if_neg e]
  by_cases e : w &&& 127 = 3
  · rw [if_pos e]; exact ⟨false, v_O_k (kp_loads kp_rf), by intro e; cases e⟩
  rw [if_neg e]
  by_cases e : w &&& 127 = 35
  · rw [if_pos e]
    obtain ⟨o, h1, h2⟩ := v_O_stores (j := j) (p := cl (s 35 j)) (n := cl (s 34 (4 * j))) (s := s) (w := w) (a := m_ra s j w + (m_sl (m_sr w 25) 5 ||| nI (m_rd w))) (v := m_rb s j w)
    refine ⟨o, h1, fun ho => ⟨e, (h2 ho).1, ?_⟩⟩
    have : m_outA s j w = m_ra s j w + (m_sl (m_sr w 25) 5 ||| nI (m_rd w)) := by
      unfold m_outA m_ra m_rd; rw [m_n5_e]
    rw [this]; exact (h2 ho).2
  rw [if_neg e]
  by_cases e : w &&& 127 = 19
  · rw [if_pos e]; exact ⟨false, v_O_k (kp_reckons kp_rf), by intro e; cases e⟩
  rw [if_neg e]
  by_cases e : w &&& 127 = 51
  · rw [if_pos e]; exact ⟨false, v_O_k (kp_reckons kp_rf), by intro e; cases e⟩
  rw [if_neg e]
  by_cases e : w &&& 127 = 15
  · rw [if_pos e]; exact ⟨false, v_O_k (kp_u kp_rf rfl), by intro e; cases e⟩
  rw [if_neg e]
  by_cases e : w &&& 127 = 115
  · rw [if_pos e]; exact ⟨false, v_O_k (kp_system kp_rf), by intro e; cases e⟩
  rw [if_neg e]; exact ⟨false, v_O_k (kp_trap kp_rf), by intro e; cases e⟩
theorem v_O_s20 {j : Nat} {o : Bool} {s t : (Nat → Nat → Int32)} (H : v_O j o (u2 s 20 j 0) t) : v_O j o s t := by
  exact (show v_O j o s t from by
    obtain ⟨a, b, c⟩ := H
    rw [u2_ne (show (27 : Nat) ≠ 20 by decide), u2_ne (show (28 : Nat) ≠ 20 by decide), u2_ne (show (29 : Nat) ≠ 20 by decide)] at a
    refine ⟨a, ?_, ?_⟩
    · intro e
      obtain ⟨b1, b2, b3, b4, b5⟩ := b e
      rw [u2_ne (by decide)] at b1 b2 b3 b5
      exact ⟨b1, b2, b3, fun f i h1 h2 => by have := b4 f i h1 h2; rwa [u2_ne (by omega)] at this, b5⟩
    · intro e
      obtain ⟨b1, b2, b3, b4, b5, b6, b9, b7, b8⟩ := c e
      rw [u2_ne (show (38 : Nat) ≠ 20 by decide)] at b2 b4 b5 b6 b7 b8 b9
      rw [u2_ne (show (37 : Nat) ≠ 20 by decide)] at b1 b5
      rw [u2_ne (show (27 : Nat) ≠ 20 by decide)] at b7 b8
      exact ⟨b1, b2, b3, fun f i h1 h2 h3 => by have := b4 f i h1 h2 h3; rwa [u2_ne (by omega)] at this, b5, b6, b9, b7, b8⟩)
theorem v_O_stx {j : Nat} {s : (Nat → Nat → Int32)} {τ : (Nat → Nat → Int64)} : ∃ o, v_O j o s (m_stx s τ j) ∧ (o = true → m_irq s j = false ∧ m_isOut (u2 s 20 j 0) j = true) := by
  unfold m_stx
  by_cases e : m_irq s j = true
  · rw [if_pos e]; exact ⟨false, v_O_k (kp_trap (kp_u kp_rf rfl)), by intro e; cases e⟩
  rw [if_neg e]
  unfold m_exec
  by_cases f : 0 ≤ u2 s 20 j 0 17 j ∧ u2 s 20 j 0 17 j ≤ u2 s 20 j 0 4 0 - 4
  · rw [if_pos f]
    obtain ⟨o, h1, h2⟩ := v_O_op (j := j) (s := u2 s 20 j 0) (τ := τ) (w := m_word (u2 s 20 j 0) j (u2 s 20 j 0 17 j).toNatClampNeg)
    refine ⟨o, v_O_s20 h1, fun ho => ⟨by simpa using e, ?_⟩⟩
    have := h2 ho
    unfold m_isOut
    rw [Bool.and_eq_true]
    exact ⟨decide_eq_true f, decide_eq_true ⟨⟨this.1, this.2.1⟩, this.2.2⟩⟩
  · rw [if_neg f]; exact ⟨false, v_O_k (kp_trap (kp_u kp_rf rfl)), by intro e; cases e⟩
