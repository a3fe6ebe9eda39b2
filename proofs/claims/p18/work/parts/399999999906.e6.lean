theorem f3_k (w : Int32) : k_f w < 8 ∧ m_f3 w = nI (k_f w) := ⟨k_f_lt w, k_f_e w⟩
theorem w_rdv {pg j t : Nat} {u0 s u : (Nat → Nat → Int32)} (H : w_W pg j u0 s u) (hB : v_B (256 * pg) j s) : k_rdv u j (cl (u 101 j)) (cl (u 33 j)) (cl (u 104 j)) t = m_rdv s j (cl (s 33 j)) t := by
  have hk := H.2.1.1.2
  have hpf := H.2.2.1.1.2
  have e8 : ¬ cl (s 33 j) = 0 → u 100 (16 * j + cl (u 101 j)) = s 32 (16 * j) := by
    intro h
    have := H.2.1.2 0 (by omega)
    rw [show (cl (u 101 j) + 0) % 16 = cl (u 101 j) by omega] at this
    rw [this]; rfl
  have e36 : ¬ s 35 j = 0 → u 102 (4 * j + cl (u 104 j)) = s 34 (4 * j) := by
    intro h
    have h35 := hB.2.2.2.2.1
    have : cl (s 35 j) ≠ 0 := by intro q; apply h; rw [h35.1, q]; rfl
    have := (H.2.2.1.2 0 (by omega)).1
    rw [show (cl (u 104 j) + 0) % 4 = cl (u 104 j) by omega] at this
    rw [this]; rfl
  unfold k_rdv m_rdv
  rw [w_g1 21 H.1 rfl, w_g1 22 H.1 rfl, w_g1 23 H.1 rfl, w_g1 24 H.1 rfl, w_g1 27 H.1 rfl, w_g1 25 H.1 rfl, w_g1 26 H.1 rfl, w_g1 35 H.1 rfl, w_g1 33 H.1 rfl]
  by_cases h0 : cl (s 33 j) = 0
  · rw [if_pos h0, if_pos h0]
    by_cases h1 : s 35 j = 0
    · rw [if_pos h1, if_pos h1]
    · rw [if_neg h1, if_neg h1, e36 h1]
  · rw [if_neg h0, if_neg h0, e8 h0]
    by_cases h1 : s 35 j = 0
    · rw [if_pos h1, if_pos h1]
    · rw [if_neg h1, if_neg h1, e36 h1]
theorem w_rds {pg j t : Nat} {u0 s u : (Nat → Nat → Int32)} (H : w_W pg j u0 s u) (hB : v_B (256 * pg) j s) : w_W pg j u0 (m_rds s j (cl (s 33 j)) t) (k_rds u j (cl (u 101 j)) (cl (u 33 j)) t) := by
  unfold m_rds k_rds
  rw [w_g1 33 H.1 rfl]
  by_cases e : t = 8
  · rw [if_pos e, if_pos e]
    by_cases h0 : cl (s 33 j) = 0
    · rw [if_pos h0, if_pos h0]; exact H
    · rw [if_neg h0, if_neg h0]; exact w_took H (by omega) (by have := hB.2.2.2.1.2; omega)
  · rw [if_neg e, if_neg e]; exact H
theorem dev_not_in {S : Nat} {a x : Int32} (hS : S ≤ 4096) (h : 65536 ≤ a) (hx : 0 ≤ x) (hx2 : x ≤ 64) : ¬ (0 ≤ a ∧ a ≤ nI S - x) := by
  rintro ⟨_, h2⟩
  have h1 : (65536 : Int) ≤ a.toInt := by simpa [Int32.le_iff_toInt_le] using h
  have h2 := Int32.le_iff_toInt_le.mp h2
  have hx' : 0 ≤ x.toInt := by simpa [Int32.le_iff_toInt_le] using hx
  have hx2' : x.toInt ≤ 64 := by simpa [Int32.le_iff_toInt_le] using hx2
  have e : (nI S - x).toInt = S - x.toInt := by
    unfold nI
    rw [Int32.toInt_sub, Int32.toInt_ofNat_of_lt (by omega)]
    exact Int.bmod_eq_of_le (by omega) (by omega)
  rw [e] at h2
  omega
theorem sz_ln {w : Int32} (h : ¬ (k_f w = 3 ∨ 5 < k_f w)) : m_ln w = nI (k_sz (k_f w)) ∧ (k_sz (k_f w) = 1 ∨ k_sz (k_f w) = 2 ∨ k_sz (k_f w) = 4) ∧ (k_sz (k_f w) = 4 ↔ m_ln w = 4) := by
  have hk := k_f_lt w
  unfold m_ln k_sz
  rw [k_f_e w]
  have : k_f w = 0 ∨ k_f w = 1 ∨ k_f w = 2 ∨ k_f w = 4 ∨ k_f w = 5 := by omega
  rcases this with e | e | e | e | e <;> rw [e] <;> decide
theorem w_lval {pg j a : Nat} {u0 s u : (Nat → Nat → Int32)} {w : Int32} (H : w_W pg j u0 s u) (hS : 256 * pg ≤ 4096) (h : ¬ (k_f w = 3 ∨ 5 < k_f w)) (ha : a + k_sz (k_f w) ≤ 256 * pg) : k_lval u j (k_f w) a = m_lval s j w a := by
  have hk := k_f_lt w
  unfold k_lval m_lval
  rw [k_f_e w]
  unfold k_sz at ha
  have : k_f w = 0 ∨ k_f w = 1 ∨ k_f w = 2 ∨ k_f w = 4 ∨ k_f w = 5 := by omega
  have g : ∀ x, x < 256 * pg → m_by u j x = m_by s j x := fun x hx => by unfold m_by; rw [w_gm H.1 hS hx]
  rcases this with e | e | e | e | e <;> rw [e] at ha ⊢
  · rw [if_pos rfl, if_pos (by decide), g a (by simp at ha; omega)]
  · rw [if_neg (by decide), if_pos rfl, if_neg (by decide), if_pos (by decide), g a (by simp at ha; omega), g (a + 1) (by simp at ha; omega)]
  · rw [if_neg (by decide), if_neg (by decide), if_pos rfl, if_neg (by decide), if_neg (by decide), if_pos (by decide)]
    exact w_word H.1 hS (by simp at ha; omega)
  · rw [if_neg (by decide), if_neg (by decide), if_neg (by decide), if_pos rfl, if_neg (by decide), if_neg (by decide), if_neg (by decide), if_pos (by decide), g a (by simp at ha; omega)]
  · rw [if_neg (by decide), if_neg (by decide), if_neg (by decide), if_neg (by decide), if_neg (by decide), if_neg (by decide), if_neg (by decide), if_neg (by decide), g a (by simp at ha; omega), g (a + 1) (by simp at ha; omega)]
theorem bad_f3 {w : Int32} : (m_f3 w = 3 ∨ ¬ m_f3 w ≤ 5) ↔ (k_f w = 3 ∨ 5 < k_f w) := by
  have hk := k_f_lt w
  rw [k_f_e w]
  have : k_f w = 0 ∨ k_f w = 1 ∨ k_f w = 2 ∨ k_f w = 3 ∨ k_f w = 4 ∨ k_f w = 5 ∨ k_f w = 6 ∨ k_f w = 7 := by omega
  rcases this with e | e | e | e | e | e | e | e <;> rw [e] <;> decide
theorem w_loads {pg j : Nat} {u0 s u : (Nat → Nat → Int32)} {w a b : Int32} (H : w_W pg j u0 s u) (hB : v_B (256 * pg) j s) (h1 : b = a) : w_W pg j u0 (m_loads s j (cl (s 33 j)) w a) (k_loads u pg j (cl (u 101 j)) (cl (u 33 j)) (cl (u 104 j)) (k_f w) w b) := by
  subst h1
  have hS := hB.2.2.1
  unfold m_loads k_loads
  by_cases e : k_f w = 3 ∨ 5 < k_f w
  · rw [if_pos e, if_pos (bad_f3.mpr e)]; exact w_trap H rfl rfl
  have e3 := e
  rw [if_neg e, if_neg (fun h => e (bad_f3.mp h))]
  obtain ⟨z1, z2, z3⟩ := sz_ln e
  rw [z1]
  by_cases e : ¬ b &&& (nI (k_sz (k_f w)) - 1) = 0
  · rw [if_pos e, if_pos e]; exact w_trap H rfl rfl
  have eal := Classical.not_not.mp e
  rw [if_neg e, if_neg e]
  by_cases ei : k_in pg b (nI (k_sz (k_f w))) = true
  · have ei' := ei
    unfold k_in at ei'
    have ei' := of_decide_eq_true ei'
    have hA : cl b + k_sz (k_f w) ≤ 256 * pg := v_inN hS (by have := hB.2.1; omega) ei'
    have nd : ¬ (nI (k_sz (k_f w)) = 4 ∧ m_isDev b = true) := by
      rintro ⟨_, h⟩
      unfold m_isDev at h
      have h := of_decide_eq_true h
      exact dev_not_in hS h.1 (x := nI (k_sz (k_f w))) (by rcases z2 with q | q | q <;> (rw [q]; decide)) (by rcases z2 with q | q | q <;> (rw [q]; decide)) ei'
    rw [if_pos ei, if_neg nd, if_neg (by rw [hB.1]; exact fun h => h ei')]
    exact w_goesOn H (m_n5_lt _) (w_lval H hS e3 hA)
  · have ei' : ¬ (0 ≤ b ∧ b ≤ nI (256 * pg) - nI (k_sz (k_f w))) := by
      intro h; apply ei; unfold k_in; exact decide_eq_true h
    rw [if_neg ei]
    by_cases ed : k_sz (k_f w) = 4 ∧ k_dev b = true
    · have hd : m_isDev b = true := by
        have := ed.2
        unfold k_dev at this
        have := of_decide_eq_true this
        unfold m_isDev
        rw [ed.1] at eal
        exact decide_eq_true ⟨this.1, this.2, eal⟩
      rw [if_pos ed, if_pos ⟨by rw [ed.1]; rfl, hd⟩]
      exact w_goesOn (w_rds H hB) (m_n5_lt _) (w_rdv H hB)
    · have nd : ¬ (nI (k_sz (k_f w)) = 4 ∧ m_isDev b = true) := by
        rintro ⟨h4, h⟩
        apply ed
        refine ⟨nIv_inj (b := 4) h4 (by omega) (by omega), ?_⟩
        unfold m_isDev at h
        have h := of_decide_eq_true h
        unfold k_dev; exact decide_eq_true ⟨h.1, h.2.1⟩
      rw [if_neg ed, if_neg nd, if_pos (by rw [hB.1]; exact ei')]
      exact w_trap H rfl rfl
theorem sz_sn {w : Int32} (h : ¬ 2 < k_f w) : m_sn w = nI (k_sz (k_f w)) ∧ (k_sz (k_f w) = 1 ∨ k_sz (k_f w) = 2 ∨ k_sz (k_f w) = 4) := by
  unfold m_sn k_sz
  rw [k_f_e w]
  have : k_f w = 0 ∨ k_f w = 1 ∨ k_f w = 2 := by omega
  rcases this with e | e | e <;> rw [e] <;> decide
theorem bad_s3 {w : Int32} : (¬ m_f3 w ≤ 2) ↔ 2 < k_f w := by
  have hk := k_f_lt w
  rw [k_f_e w]
  have : k_f w = 0 ∨ k_f w = 1 ∨ k_f w = 2 ∨ k_f w = 3 ∨ k_f w = 4 ∨ k_f w = 5 ∨ k_f w = 6 ∨ k_f w = 7 := by omega
  rcases this with e | e | e | e | e | e | e | e <;> rw [e] <;> decide
theorem w_O_next {j q : Nat} {o : Bool} {s u : (Nat → Nat → Int32)} (h : w_O j o q s u) : w_O j o q (m_next s j) (m_next u j) := by
  unfold m_next w_O at *
  simp only [u2_ne (show (106 : Nat) ≠ 17 by decide), u2_ne (show (107 : Nat) ≠ 17 by decide), u2_ne (show (108 : Nat) ≠ 17 by decide), u2_ne (show (39 : Nat) ≠ 17 by decide), u2_ne (show (40 : Nat) ≠ 17 by decide), u2_ne (show (43 : Nat) ≠ 17 by decide)]
  exact h
theorem tr_106 {u : (Nat → Nat → Int32)} {j : Nat} {c v : Int32} : m_trap u j c v 106 = u 106 := m_trap_ne (by decide) (by decide)
theorem w_stores {pg j q : Nat} {u0 s u : (Nat → Nat → Int32)} {w a b v c : Int32} (H : w_W pg j u0 s u) (hB : v_B (256 * pg) j s) (hp : pg ≤ 16) (h106 : u 106 j = 0) (hq : q = cl (s 38 j)) (h1 : b = a) (h2 : c = v) : ∃ o, v_O j o s (m_stores s j q (cl (s 35 j)) (cl (s 34 (4 * j))) w a v) ∧ w_W pg j u0 (m_stores s j q (cl (s 35 j)) (cl (s 34 (4 * j))) w a v) (k_stores u pg j (cl (u 104 j)) (cl (u 35 j)) (cl (u 102 (4 * j + cl (u 104 j)))) (k_f w) w b c) ∧ w_O j o q (m_stores s j q (cl (s 35 j)) (cl (s 34 (4 * j))) w a v) (k_stores u pg j (cl (u 104 j)) (cl (u 35 j)) (cl (u 102 (4 * j + cl (u 104 j)))) (k_f w) w b c) := by
  subst h1; subst h2
  have hS := hB.2.2.1
  have tr : ∀ x y : Int32, ∃ o, v_O j o s (m_trap s j x y) ∧ w_W pg j u0 (m_trap s j x y) (m_trap u j x y) ∧ w_O j o q (m_trap s j x y) (m_trap u j x y) := fun x y => ⟨false, v_O_k (kp_trap kp_rf), w_trap H rfl rfl, w_none (s := s) (u := u) (by rw [tr_106]; exact h106)⟩
  unfold m_stores k_stores
  by_cases e : 2 < k_f w
  · rw [if_pos e, if_pos (bad_s3.mpr e)]; exact tr _ _
  have e3 := e
  rw [if_neg e, if_neg (fun h => e (bad_s3.mp h))]
  obtain ⟨z1, z2⟩ := sz_sn e
  rw [z1]
  by_cases e : ¬ b &&& (nI (k_sz (k_f w)) - 1) = 0
  · rw [if_pos e, if_pos e]; exact tr _ _
  have eal := Classical.not_not.mp e
  rw [if_neg e, if_neg e]
  by_cases ei : k_in pg b (nI (k_sz (k_f w))) = true
  · have ei' := ei
    unfold k_in at ei'
    have ei' := of_decide_eq_true ei'
    have hA : cl b + k_sz (k_f w) ≤ 256 * pg := v_inN hS (by have := hB.2.1; omega) ei'
    have nd : ¬ (nI (k_sz (k_f w)) = 4 ∧ m_isDev b = true) := by
      rintro ⟨_, h⟩
      unfold m_isDev at h
      have h := of_decide_eq_true h
      exact dev_not_in hS h.1 (x := nI (k_sz (k_f w))) (by rcases z2 with q | q | q <;> (rw [q]; decide)) (by rcases z2 with q | q | q <;> (rw [q]; decide)) ei'
    rw [if_pos ei, if_neg nd, if_neg (by rw [hB.1]; exact fun h => h ei')]
    have en : (nI (k_sz (k_f w))).toNatClampNeg = k_sz (k_f w) := cl_nI (by omega)
    rw [en]
    refine ⟨false, v_O_k ?_, w_next (w_stl H hp _ (by omega) hA), w_none (s := s) (u := u) ?_⟩
    · unfold m_next
      apply kp_u _ rfl
      intro f hf
      have h0 : f ≠ 15 ∧ f ≠ 63 := by unfold kp at hf; have := of_decide_eq_true hf; omega
      rw [m_stl_ne h0.1 h0.2]
    · unfold m_next
      rw [u2_ne (by decide)]
      have : ∀ n, k_stl u j (cl b) c n 106 = u 106 := by
        intro n
        induction n with
        | zero => rfl
        | succ n ih => unfold k_stl k_write; rw [u2_ne (by decide), u2_ne (by decide), ih]
      rw [this]; exact h106
  · have ei' : ¬ (0 ≤ b ∧ b ≤ nI (256 * pg) - nI (k_sz (k_f w))) := by
      intro h; apply ei; unfold k_in; exact decide_eq_true h
    rw [if_neg ei]
    by_cases ed : k_sz (k_f w) = 4 ∧ k_dev b = true
    · have hd : m_isDev b = true := by
        have := ed.2
        unfold k_dev at this
        have := of_decide_eq_true this
        unfold m_isDev
        rw [ed.1] at eal
        exact decide_eq_true ⟨this.1, this.2, eal⟩
      rw [if_pos ed, if_pos ⟨by rw [ed.1]; rfl, hd⟩]
      obtain ⟨o, x1, x2, x3⟩ := w_wdev (t := (b - 65536).toNatClampNeg) (v := c) H hB hp h106 hq
      exact ⟨o, v_O_w x1 (kp_u kp_rf rfl), w_next x2, w_O_next x3⟩
    · have nd : ¬ (nI (k_sz (k_f w)) = 4 ∧ m_isDev b = true) := by
        rintro ⟨h4, h⟩
        apply ed
        refine ⟨nIv_inj (b := 4) h4 (by omega) (by omega), ?_⟩
        unfold m_isDev at h
        have h := of_decide_eq_true h
        unfold k_dev; exact decide_eq_true ⟨h.1, h.2.1⟩
      rw [if_neg ed, if_neg nd, if_pos (by rw [hB.1]; exact ei')]
      exact tr _ _
