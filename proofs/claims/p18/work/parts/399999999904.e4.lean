theorem w_W_s {pg j : Nat} {u0 s s' u : (Nat → Nat → Int32)} (H : w_W pg j u0 s u) (e : ∀ f, f ≤ 36 ∨ f = 61 ∨ f = 63 → s' f = s f) : w_W pg j u0 s' u := by
  obtain ⟨a, k, p, al, d, b, F⟩ := H
  refine ⟨?_, ?_, ?_, ?_, ?_, b, F⟩
  · intro f i hf hi h15
    have : f ≤ 36 := by
      have : f ∈ [15, 16, 17, 18, 20, 21, 22, 23, 24, 25, 26, 27, 28, 29, 30, 31, 33, 35] := by unfold w_f at hf; simpa using hf
      simp at this; omega
    rw [e f (.inl this)]; exact a f i hf hi h15
  · unfold w_K; rw [e 33 (by omega), e 32 (by omega)]; exact k
  · unfold w_P; rw [e 35 (by omega), e 34 (by omega), e 36 (by omega)]; exact p
  · unfold w_A; rw [e 17 (by omega), e 18 (by omega)]; exact al
  · unfold w_D; rw [e 61 (by omega), e 63 (by omega)]; exact d
theorem w_W_o {pg j f i : Nat} {u0 s u : (Nat → Nat → Int32)} {v : Int32} (H : w_W pg j u0 s u) (hf : f = 106 ∨ f = 107 ∨ f = 108) (hb : f = 108 → v.toInt8.toInt32 = v) (hi : i < w_s f) : w_W pg j u0 s (u2 u f (w_s f * j + i) v) := by
  obtain ⟨a, k, p, al, d, b, F⟩ := H
  refine ⟨?_, ?_, ?_, al, ?_, b.u2 (fun q => ?_), w_F_u F ⟨.inr ⟨by omega, by omega⟩, by omega, by omega⟩⟩
  · intro g l hg hl h15
    have : g ≠ f := by
      intro q; subst q
      rcases hf with q | q | q <;> (subst q; cases hg)
    rw [u2_ne this]; exact a g l hg hl h15
  · unfold w_K; rw [u2_ne (by omega), u2_ne (by omega)]; exact k
  · unfold w_P; rw [u2_ne (by omega), u2_ne (by omega), u2_ne (by omega)]; exact p
  · unfold w_D; rw [u2_ne (by omega)]; exact d
  · rcases hf with e | e | e
    · subst e; exact absurd q (by decide)
    · subst e; exact absurd q (by decide)
    · exact hb e
theorem w_W_106 {pg j : Nat} {u0 s u : (Nat → Nat → Int32)} {v : Int32} (H : w_W pg j u0 s u) : w_W pg j u0 s (u2 u 106 j v) := by
  have := w_W_o (f := 106) (i := 0) (v := v) H (.inl rfl) (fun q => absurd q (by decide)) (by decide)
  rwa [show w_s 106 * j + 0 = j by show 1 * j + 0 = j; omega] at this
theorem w_W_107 {pg j : Nat} {u0 s u : (Nat → Nat → Int32)} {v : Int32} (H : w_W pg j u0 s u) : w_W pg j u0 s (u2 u 107 j v) := by
  have := w_W_o (f := 107) (i := 0) (v := v) H (.inr (.inl rfl)) (fun q => absurd q (by decide)) (by decide)
  rwa [show w_s 107 * j + 0 = j by show 1 * j + 0 = j; omega] at this
theorem w_W_cp {pg j A N : Nat} {u0 s u : (Nat → Nat → Int32)} (H : w_W pg j u0 s u) (hN : N ≤ 32) : w_W pg j u0 s (k_cp u 15 A 108 (32 * j + 0) N) := by
  obtain ⟨a, k, p, al, d, b, F⟩ := H
  have ne : ∀ f, f ≠ 108 → k_cp u 15 A 108 (32 * j + 0) N f = u f := fun f h => k_cp_ne h
  refine ⟨?_, ?_, ?_, al, ?_, b.cp (fun _ => rfl), ?_⟩
  · intro g l hg hl h15
    rw [ne g (by intro q; subst q; cases hg)]; exact a g l hg hl h15
  · unfold w_K; rw [ne 101 (by decide), ne 100 (by decide)]; exact k
  · unfold w_P; rw [ne 104 (by decide), ne 102 (by decide), ne 103 (by decide)]; exact p
  · unfold w_D; rw [ne 105 (by decide)]; exact d
  · intro f i
    by_cases q : f = 108
    · subst q
      by_cases q2 : 32 * j + 0 ≤ i ∧ i < 32 * j + 0 + N
      · right; exact ⟨.inr ⟨by decide, by decide⟩, by show 32 * j ≤ i; omega, by show i < 32 * j + 32; omega⟩
      · rw [k_cp_out (by omega)]; exact F 108 i
    · rw [ne f q]; exact F f i
def w_O (j : Nat) (o : Bool) (q : Nat) (s u : (Nat → Nat → Int32)) : Prop := (o = false → u 106 j = 0) ∧ (o = true → u 106 j = s 39 (128 * j + q) + 1 ∧ (s 39 (128 * j + q) = 0 → u 107 j = 1 ∧ u 108 (32 * j) &&& 255 = s 40 (128 * j + q)) ∧ (s 39 (128 * j + q) = 1 → u 107 j = s 40 (128 * j + q) ∧ ∀ t, t < cl (s 40 (128 * j + q)) → u 108 (32 * j + t) = s 43 (64 * (128 * j + q) + t)) ∧ (s 39 (128 * j + q) = 2 → u 107 j = 0))
theorem wpk_v {s : (Nat → Nat → Int32)} {j q A : Nat} : ∀ n t, t < n → m_wpk s j q A n 43 (64 * (128 * j + q) + t) = (s 15 (4096 * j + A + t)).toInt8.toInt32
  | 0, t, h => absurd h (by omega)
  | n + 1, t, h => by
    unfold m_wpk
    by_cases e : t = n
    · subst e; rw [u2_ss, m_wpk_ne (by decide)]
    · rw [u2_sn (by omega)]; exact wpk_v n t (by omega)
theorem askl_v {s : (Nat → Nat → Int32)} {j q A : Nat} : ∀ n t, t < n → m_askl s j q A n 31 (64 * j + t) = (s 15 (4096 * j + A + t)).toInt8.toInt32
  | 0, t, h => absurd h (by omega)
  | n + 1, t, h => by
    unfold m_askl
    rw [u2_ne (by decide)]
    by_cases e : t = n
    · subst e; rw [u2_ss, m_askl_ne (by decide) (by decide)]
    · rw [u2_sn (by omega)]; exact askl_v n t (by omega)
theorem askl_o {s : (Nat → Nat → Int32)} {j q A x : Nat} : ∀ n, n ≤ 64 → ¬ (64 * j ≤ x ∧ x < 64 * j + 64) → m_askl s j q A n 31 x = s 31 x
  | 0, _, _ => rfl
  | n + 1, h, hx => by unfold m_askl; rw [u2_ne (by decide), u2_sn (by omega), askl_o n (by omega) hx]
theorem puts_ne {s : (Nat → Nat → Int32)} {j k f : Nat} {t a b : Int32} (h : f < 37 ∨ f = 43 ∨ (43 < f ∧ f ≠ 74)) : m_puts s j k t a b f = s f := by
  unfold m_puts m_put1
  rw [u2_ne (by omega), u2_ne (by omega), u2_ne (by omega), u2_ne (by omega), u2_ne (by omega), u2_ne (by omega), u2_ne (by omega)]
theorem puts_39 {s : (Nat → Nat → Int32)} {j k : Nat} {t a b : Int32} : m_puts s j k t a b 39 k = t ∧ m_puts s j k t a b 40 k = a ∧ m_puts s j k t a b 41 k = b := by
  refine ⟨?_, ?_, ?_⟩
  · unfold m_puts m_put1; rw [u2_ne (by decide), u2_ne (by decide), u2_ne (by decide), u2_ne (by decide), u2_ne (by decide), u2_ss]
  · unfold m_puts m_put1; rw [u2_ne (by decide), u2_ne (by decide), u2_ne (by decide), u2_ne (by decide), u2_ss]
  · unfold m_puts m_put1; rw [u2_ne (by decide), u2_ne (by decide), u2_ne (by decide), u2_ss]
theorem byte_and (v : Int32) : v.toInt8.toInt32 &&& 255 = v &&& 255 := by
  apply Int32.toBitVec_inj.mp
  rw [Int32.toBitVec_and, Int32.toBitVec_and, Int8.toBitVec_toInt32, Int32.toBitVec_toInt8]
  apply BitVec.eq_of_getLsbD_eq
  intro i hi
  rw [BitVec.getLsbD_and, BitVec.getLsbD_and]
  have e : (Int32.toBitVec 255) = 255#32 := by decide
  rw [e]
  by_cases h : i < 8
  · rw [BitVec.getLsbD_signExtend, decide_eq_true hi, Bool.true_and, if_pos h, BitVec.getLsbD_signExtend, decide_eq_true h, Bool.true_and, if_pos hi]
  · have : ∀ i, i < 32 → ¬ i < 8 → (255#32).getLsbD i = false := by decide
    rw [this i hi h, Bool.and_false, Bool.and_false]
theorem w_agood {pg j : Nat} {u0 s u : (Nat → Nat → Int32)} {v : Int32} (H : w_W pg j u0 s u) (h4 : s 4 0 = nI (256 * pg)) : k_agood u pg j v = m_agood s j v := by
  simp only [k_agood, m_agood, k_in, w_g1 27 H.1 rfl, w_g1 23 H.1 rfl, w_g1 24 H.1 rfl, h4, decide_eq_true_eq]
theorem w_asks {pg j q : Nat} {u0 s u : (Nat → Nat → Int32)} {v : Int32} (H : w_W pg j u0 s u) (hB : v_B (256 * pg) j s) (h106 : u 106 j = 0) (hq : q = cl (s 38 j)) : ∃ o, v_O j o s (m_asks s j q v) ∧ w_W pg j u0 (m_asks s j q v) (k_diskS u pg j v) ∧ w_O j o q (m_asks s j q v) (k_diskS u pg j v) := by
  subst hq
  have h4 := hB.1
  unfold m_asks k_diskS
  by_cases e0 : v = 0
  · rw [if_pos e0]
    have ng : ¬ k_agood u pg j v = true := by
      rw [w_agood H h4]; intro h; unfold m_agood at h; have := (of_decide_eq_true h).1; rw [e0] at this; exact absurd this (by decide)
    by_cases e1 : s 27 j = 2
    · rw [if_pos e1, if_pos ⟨e0, by rw [w_g1 27 H.1 rfl]; exact e1⟩]
      refine ⟨false, ⟨?_, fun _ => ⟨?_, ?_, ?_, ?_, ?_⟩, by intro e; cases e⟩, w_W_1 27 H rfl rfl, ⟨fun _ => by rw [u2_ne (by decide)]; exact h106, by intro e; cases e⟩⟩
      · rw [e1]; intro e; exact absurd e (by decide)
      · rw [u2_ne (by decide)]
      · rw [u2_ne (by decide)]
      · rw [u2_ne (by decide)]
      · intro f i h1 h2; rw [u2_ne (by omega)]
      · rw [u2_ss]; intro e; exact absurd e (by decide)
    · rw [if_neg e1, if_neg (fun h => e1 (by rw [← w_g1 27 H.1 rfl]; exact h.2)), if_neg ng]
      exact ⟨false, v_O_k kp_rf, H, fun _ => h106, by intro e; cases e⟩
  rw [if_neg e0, if_neg (show ¬ (v = 0 ∧ u 27 j = 2) from fun h => e0 h.1)]
  by_cases e1 : m_agood s j v = true
  · rw [if_pos e1, if_pos (by rw [w_agood H h4]; exact e1)]
    have g := e1
    unfold m_agood at g
    have g := of_decide_eq_true g
    have g5 := g.2.2.2.2
    rw [h4] at g5
    have hA : cl (s 24 j) + 64 ≤ 256 * pg := v_inN hB.2.2.1 (by have := hB.2.1; omega) g5
    refine ⟨true, ?_, ?_, ?_⟩
    · refine v_O_puts ?_ ?_ ?_ (by intro e; exact absurd e (by decide)) (.inr (.inr rfl)) (fun _ => ⟨g.2.1, ?_, ?_, ?_⟩) (fun h => absurd rfl h)
      · rw [m_askl_ne (by decide) (by decide), m_ask0_ne (by decide) (by decide) (by decide) (by decide)]
      · rw [m_askl_ne (by decide) (by decide), m_ask0_ne (by decide) (by decide) (by decide) (by decide)]
      · intro f h1 h2
        rw [m_askl_ne (by omega) (by omega), m_ask0_ne (by omega) (by omega) (by omega) (by omega)]
      · rw [m_askl_ne (by decide) (by decide)]; unfold m_ask0; rw [u2_ne (by decide), u2_ne (by decide), u2_ne (by decide), u2_ss]
      · rw [m_askl_ne (by decide) (by decide)]; unfold m_ask0; rw [u2_ne (by decide), u2_ne (by decide), u2_ss]
      · rw [m_askl_ne (by decide) (by decide)]; unfold m_ask0; rw [u2_ne (by decide), u2_ss]
    · unfold k_dk1
      apply w_W_107
      apply w_W_106
      have H0 : w_W pg j u0 (m_ask0 s j v) (k_dk0 u j v) := by
        unfold m_ask0 k_dk0
        exact w_W_1 30 (w_W_1 29 (w_W_1 28 (w_W_1 27 H rfl rfl) rfl rfl) rfl (w_g1 23 H.1 rfl)) rfl (w_g1 24 H.1 rfl)
      have H1 : w_W pg j u0 (m_askl (m_ask0 s j v) j (cl (s 38 j)) (s 24 j).toNatClampNeg 64) (k_cp (k_dk0 u j v) 15 (4096 * j + cl (u 24 j)) 31 (64 * j + 0) 64) := by
        obtain ⟨a, k, p, al, d, b, F⟩ := H0
        have ns : ∀ f, f ≠ 31 → f ≠ 43 → m_askl (m_ask0 s j v) j (cl (s 38 j)) (s 24 j).toNatClampNeg 64 f = m_ask0 s j v f := fun f h1 h2 => m_askl_ne h1 h2 64
        have nu : ∀ f, f ≠ 31 → k_cp (k_dk0 u j v) 15 (4096 * j + cl (u 24 j)) 31 (64 * j + 0) 64 f = k_dk0 u j v f := fun f h => k_cp_ne h
        refine ⟨?_, ?_, ?_, ?_, ?_, b.cp (fun _ => rfl), ?_⟩
        · intro f i hf hi h15
          by_cases q : f = 31
          · subst q
            have hi : i < 64 := hi
            rw [show v_s 31 = 64 from rfl, askl_v 64 i hi, show 64 * j + i = 64 * j + 0 + i from rfl, k_cp_in hi, w_g1 24 H.1 rfl]
            have e15 : k_dk0 u j v 15 = u 15 := by unfold k_dk0; rw [u2_ne (by decide), u2_ne (by decide), u2_ne (by decide), u2_ne (by decide)]
            have f15 : m_ask0 s j v 15 = s 15 := m_ask0_ne (by decide) (by decide) (by decide) (by decide)
            rw [e15, f15, show 4096 * j + cl (s 24 j) + i = 4096 * j + (cl (s 24 j) + i) by omega, w_gm H.1 hB.2.2.1 (by omega)]
            have := hB.2.2.2.2.2.2.2.2 15 (4096 * j + (cl (s 24 j) + i)) (by omega)
            unfold byt at this
            exact this.symm
          · have : f ≠ 43 := by intro q; subst q; cases hf
            rw [ns f q this, nu f q]; exact a f i hf hi h15
        · unfold w_K; rw [ns 33 (by decide) (by decide), ns 32 (by decide) (by decide), nu 101 (by decide), nu 100 (by decide)]; exact k
        · unfold w_P; rw [ns 35 (by decide) (by decide), ns 34 (by decide) (by decide), ns 36 (by decide) (by decide), nu 104 (by decide), nu 102 (by decide), nu 103 (by decide)]; exact p
        · unfold w_A; rw [ns 17 (by decide) (by decide), ns 18 (by decide) (by decide)]; exact al
        · unfold w_D; rw [ns 61 (by decide) (by decide), ns 63 (by decide) (by decide), nu 105 (by decide)]; exact d
        · intro f i
          by_cases q : f = 31
          · subst q
            by_cases q2 : 64 * j + 0 ≤ i ∧ i < 64 * j + 0 + 64
            · right; exact ⟨.inl ⟨by decide, by decide⟩, by show 64 * j ≤ i; omega, by show i < 64 * j + 64; omega⟩
            · rw [k_cp_out (by omega)]; exact F 31 i
          · rw [nu f q]; exact F f i
      exact w_W_s H1 (fun f hf => puts_ne (by omega))
    · refine ⟨(by intro e; cases e), fun _ => ?_⟩
      rw [puts_39.1]
      unfold k_dk1
      refine ⟨by rw [u2_ne (by decide), u2_ss]; rfl, fun h => absurd h (by decide), fun h => absurd h (by decide), fun _ => by rw [u2_ss]⟩
  · rw [if_neg e1, if_neg (by rw [w_agood H h4]; exact e1)]
    exact ⟨false, v_O_k kp_rf, H, fun _ => h106, by intro e; cases e⟩
