theorem w_set {pg j i : Nat} {u0 s u : (Nat → Nat → Int32)} {v w : Int32} (H : w_W pg j u0 s u) (hi : i < 32) (hv : w = v) : w_W pg j u0 (m_set s j i v) (m_set u j i w) := by
  unfold m_set
  by_cases e : i = 0
  · rw [if_pos e, if_pos e]; exact H
  · rw [if_neg e, if_neg e]; exact w_W_x H hi hv
theorem w_trap {pg j : Nat} {u0 s u : (Nat → Nat → Int32)} {c d v w : Int32} (H : w_W pg j u0 s u) (hc : d = c) (hv : w = v) : w_W pg j u0 (m_trap s j c v) (m_trap u j d w) := by
  subst hc; subst hv
  have H1 := w_W_c (i := 4) H (by decide) (congrArg (m_mask 4) (w_g1 17 H.1 rfl)) (fun _ => w_mask _ (.inr rfl))
  have H2 := w_W_c (i := 5) H1 (by decide) (rfl : m_mask 5 d = _) (by omega)
  have H3 := w_W_c (i := 6) H2 (by decide) (rfl : m_mask 6 w = _) (by omega)
  have H4 := w_W_c (i := 0) H3 (by decide) (congrArg (fun x => m_mask 0 ((x &&& 8) <<< ((4 : Int32) &&& 31))) (w_gc (i := 0) H3.1 (by decide))) (by omega)
  exact w_W_17 H4 (w_gc (i := 2) H4.1 (by decide)) H4.2.2.2.1.2.1
theorem w_next {pg j : Nat} {u0 s u : (Nat → Nat → Int32)} (H : w_W pg j u0 s u) : w_W pg j u0 (u2 s 17 j (s 17 j + 4)) (u2 u 17 j (u 17 j + 4)) := w_W_17 H (by rw [w_g1 17 H.1 rfl]) (w_al_p4 H.2.2.2.1.1)
theorem w_goesOn {pg j i : Nat} {u0 s u : (Nat → Nat → Int32)} {v w : Int32} (H : w_W pg j u0 s u) (hi : i < 32) (hv : w = v) : w_W pg j u0 (m_goesOn s j i v) (m_goesOn u j i w) := w_next (w_set H hi hv)
theorem w_jumps {pg j i : Nat} {u0 s u : (Nat → Nat → Int32)} {v w : Int32} (H : w_W pg j u0 s u) (hi : i < 32) (hv : w = v) : w_W pg j u0 (m_jumps s j i v) (m_jumps u j i w) := by
  subst hv
  unfold m_jumps
  by_cases e : w &&& 3 = 0
  · rw [if_pos e, if_pos e]; exact w_W_17 (w_set H hi (by rw [w_g1 17 H.1 rfl])) rfl (w_al_3 e)
  · rw [if_neg e, if_neg e]; exact w_trap H rfl rfl
theorem w_branch {pg j : Nat} {u0 s u : (Nat → Nat → Int32)} {w a b c d : Int32} (H : w_W pg j u0 s u) (h1 : c = a) (h2 : d = b) : w_W pg j u0 (m_branch s j w a b) (m_branch u j w c d) := by
  subst h1; subst h2
  unfold m_branch
  rw [w_g1 17 H.1 rfl]
  by_cases e : m_f3 w = 2 ∨ m_f3 w = 3
  · rw [if_pos e, if_pos e]; exact w_trap H rfl rfl
  rw [if_neg e, if_neg e]
  by_cases e : m_bit w c d = false
  · rw [if_pos e, if_pos e]; exact w_W_17 H rfl (w_al_p4 H.2.2.2.1.1)
  rw [if_neg e, if_neg e]
  by_cases e : (s 17 j + m_bto w) &&& 3 = 0
  · rw [if_pos e, if_pos e]; exact w_W_17 H rfl (w_al_3 e)
  rw [if_neg e, if_neg e]; exact w_trap H rfl rfl
theorem w_reckons {pg j : Nat} {u0 s u : (Nat → Nat → Int32)} {w a b c d : Int32} {n : Bool} (H : w_W pg j u0 s u) (h1 : c = a) (h2 : d = b) : w_W pg j u0 (m_reckons s j w a b n) (m_reckons u j w c d n) := by
  subst h1; subst h2
  unfold m_reckons
  by_cases e : m_rgood w n = true
  · rw [if_pos e, if_pos e]; exact w_goesOn H (m_n5_lt _) rfl
  rw [if_neg e, if_neg e]; exact w_trap H rfl rfl
theorem w_pending {S j : Nat} {s u : (Nat → Nat → Int32)} (H : w_E S j s u) : m_pending u j = m_pending s j := by
  simp only [m_pending, m_late, m_some, w_g1 22 H rfl, w_g1 21 H rfl, w_g1 33 H rfl, w_g1 35 H rfl, w_g1 27 H rfl]
theorem w_cval {S j : Nat} {s u : (Nat → Nat → Int32)} {τ υ : (Nat → Nat → Int64)} {n : Int32} (H : w_E S j s u) (hc : υ 19 j = τ 19 j) : m_cval u υ j n = m_cval s τ j n := by
  unfold m_cval
  by_cases e : ¬ m_ck n = 7
  · rw [if_pos e, if_pos e]; exact w_gc H (by have := m_ck_le n; omega)
  rw [if_neg e, if_neg e, w_pending H, hc]
theorem w_register {pg j : Nat} {u0 s u : (Nat → Nat → Int32)} {τ υ : (Nat → Nat → Int64)} {w a b : Int32} (H : w_W pg j u0 s u) (hc : υ 19 j = τ 19 j) (h1 : b = a) : w_W pg j u0 (m_register s τ j w a) (m_register u υ j w b) := by
  subst h1
  unfold m_register
  by_cases e : m_cbad w = true
  · rw [if_pos e, if_pos e]; exact w_trap H rfl rfl
  rw [if_neg e, if_neg e]
  refine w_goesOn ?_ (m_n5_lt _) (w_cval H.1 hc)
  by_cases f : m_cwr w = true
  · rw [if_pos f, if_pos f]
    have h7 : ¬ m_ck (m_ur w 20) = 7 := by
      intro h7
      unfold m_cbad at e
      have e := mt (decide_eq_true (p := _)) e
      apply e
      by_cases r : m_ro (m_ur w 20) = false
      · exact .inr (.inl ⟨h7, r⟩)
      · exact .inr (.inr ⟨by simpa using r, f⟩)
    refine w_W_c H (by have := m_ck_le (m_ur w 20); omega) (by rw [w_cval H.1 hc]) (fun q => w_mask _ q)
  · rw [if_neg f, if_neg f]; exact H
theorem w_system {pg j : Nat} {u0 s u : (Nat → Nat → Int32)} {τ υ : (Nat → Nat → Int64)} {w a b : Int32} (H : w_W pg j u0 s u) (hc : υ 19 j = τ 19 j) (h1 : b = a) : w_W pg j u0 (m_system s τ j w a) (m_system u υ j w b) := by
  unfold m_system
  by_cases e : w = 115
  · rw [if_pos e, if_pos e]; exact w_trap H rfl rfl
  rw [if_neg e, if_neg e]
  by_cases e : w = 1048691
  · rw [if_pos e, if_pos e]; exact w_trap H rfl (w_g1 17 H.1 rfl)
  rw [if_neg e, if_neg e]
  by_cases e : w = 807403635
  · rw [if_pos e, if_pos e]
    have H1 := w_W_17 H (w_gc (i := 4) H.1 (by decide)) H.2.2.2.1.2.2
    exact w_W_c (i := 0) H1 (by decide) (congrArg (fun x => m_mask 0 (m_sr (x &&& 128) 4 ||| 128)) (w_gc (i := 0) H1.1 (by decide))) (by omega)
  rw [if_neg e, if_neg e]
  by_cases e : w = 273678451
  · rw [if_pos e, if_pos e]; exact w_next (w_W_1 20 H rfl rfl)
  rw [if_neg e, if_neg e]; exact w_register H hc h1
theorem w_word {S j a : Nat} {s u : (Nat → Nat → Int32)} (H : w_E S j s u) (hS : S ≤ 4096) (h : a + 4 ≤ S) : m_word u j a = m_word s j a := by
  unfold m_word
  rw [w_gm H hS (by omega : a < S), w_gm H hS (by omega : a + 1 < S), w_gm H hS (by omega : a + 2 < S), w_gm H hS (by omega : a + 3 < S)]
theorem w_write {pg j a : Nat} {u0 s u : (Nat → Nat → Int32)} {v w : Int32} (H : w_W pg j u0 s u) (ha : a < 256 * pg) (hp : pg ≤ 16) (hv : w = v) : w_W pg j u0 (m_write s j a v) (k_write u j a w) := by
  subst hv
  obtain ⟨e, k, p, al, d, b, F⟩ := H
  have ns : ∀ f, f ≠ 15 → f ≠ 63 → m_write s j a w f = s f := fun f h1 h2 => m_write_ne h1 h2
  have nu : ∀ f, f ≠ 15 → f ≠ 105 → k_write u j a w f = u f := fun f h1 h2 => by unfold k_write; rw [u2_ne h2, u2_ne h1]
  have s15 : m_write s j a w 15 = u2 s 15 (4096 * j + a) w.toInt8.toInt32 15 := by
    unfold m_write
    split
    · rw [u2_ne (by decide)]
    · rfl
  have u15 : k_write u j a w 15 = u2 u 15 (4096 * j + a) w.toInt8.toInt32 15 := by unfold k_write; rw [u2_ne (by decide)]
  refine ⟨?_, ?_, ?_, ?_, ?_, ?_, ?_⟩
  · intro f i hf hi h15
    by_cases q : f = 15
    · subst q
      rw [s15, u15]
      exact w_E_u (f := 15) (i := a) (v := w.toInt8.toInt32) e 15 i hf hi h15
    · have h63 : f ≠ 63 ∧ f ≠ 105 := by constructor <;> (intro q; subst q; cases hf)
      rw [ns f q h63.1, nu f q h63.2]; exact e f i hf hi h15
  · unfold w_K; rw [ns 33 (by decide) (by decide), ns 32 (by decide) (by decide), nu 101 (by decide) (by decide), nu 100 (by decide) (by decide)]; exact k
  · unfold w_P; rw [ns 35 (by decide) (by decide), ns 34 (by decide) (by decide), ns 36 (by decide) (by decide), nu 104 (by decide) (by decide), nu 102 (by decide) (by decide), nu 103 (by decide) (by decide)]; exact p
  · unfold w_A; rw [ns 17 (by decide) (by decide), ns 18 (by decide) (by decide)]; exact al
  · intro hj q hq
    rw [ns 61 (by decide) (by decide)] at hj
    unfold m_write k_write
    rw [if_pos hj]
    by_cases q2 : q = a / 256
    · subst q2; rw [u2_ss, u2_ss]
    · rw [u2_sn (by omega), u2_sn q2, u2_ne (by decide), u2_ne (by decide)]; exact d hj q hq
  · unfold k_write
    exact (b.u2 (fun _ => byt_n _)).u2 (fun q => absurd q (by decide))
  · unfold k_write
    refine w_F_u (w_F_u F ⟨.inl ⟨by decide, by decide⟩, ?_, ?_⟩) ⟨.inr ⟨by decide, by decide⟩, ?_, ?_⟩
    · show 4096 * j ≤ _; omega
    · show _ < 4096 * j + 4096; omega
    · show 16 * j ≤ _; omega
    · show _ < 16 * j + 16; omega
theorem w_stl {pg j A : Nat} {u0 s u : (Nat → Nat → Int32)} {v : Int32} (H : w_W pg j u0 s u) (hp : pg ≤ 16) : ∀ i, i ≤ 4 → A + i ≤ 256 * pg → w_W pg j u0 (m_stl s j A v i) (k_stl u j A v i)
  | 0, _, _ => H
  | i + 1, h4, hi => w_write (w_stl (A := A) H hp i (by omega) (by omega)) (by omega) hp rfl
