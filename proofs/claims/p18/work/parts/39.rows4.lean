def m_isDev (a : Int32) : Bool := decide (65536 ≤ a ∧ a ≤ 65576 ∧ a &&& 3 = 0)
theorem rr_isDevice {G : xG} {ro : xR} {sv : Nat → Value} (hG : x_Good G ro sv) {d : Nat} {h : xH} {Q : xQ} {a : Int32} (hQ : Q (some (.int (cond (m_isDev a) 1 0))) h) : G d n_X12_isDevice 0 0 0 [(0, .int a)] [] h 0 0 Q := by
  have kN : m_isDev a = false → G d n_X12_isDevice 0 0 24 [(0, .int a)] [] h 0 0 Q := by
    intro e
    rw [e] at hQ
    repeat refine hG _ _ _ _ _ _ _ _ _ _ _ ?_
    exact ⟨rfl, by decide, by decide, hQ⟩
  repeat refine hG _ _ _ _ _ _ _ _ _ _ _ ?_
  refine ⟨fun q => kN (decide_eq_false (fun r => Int32.not_lt.mpr r.1 q)), fun q1 => ?_⟩
  repeat refine hG _ _ _ _ _ _ _ _ _ _ _ ?_
  refine ⟨fun q => kN (decide_eq_false (fun r => Int32.not_lt.mpr r.2.1 q)), fun q2 => ?_⟩
  repeat refine hG _ _ _ _ _ _ _ _ _ _ _ ?_
  refine ⟨fun q => kN (decide_eq_false (fun r => q r.2.2)), fun q3 => ?_⟩
  have e : m_isDev a = true := decide_eq_true ⟨Int32.not_lt.mp q1, Int32.not_lt.mp q2, q3⟩
  rw [e] at hQ
  repeat refine hG _ _ _ _ _ _ _ _ _ _ _ ?_
  exact ⟨rfl, by decide, by decide, hQ⟩
theorem rr_slotOf {G : xG} {ro : xR} {sv : Nat → Value} (hG : x_Good G ro sv) {d m j : Nat} {ra : Nat → Nat} {σ : Nat → Nat → Int32} {τ : Nat → Nat → Int64} {h : xH} {Q : xQ} (hR : RepR m ra σ τ h) (hj : j < 4) (hQ : Q (some (.int (64 * (nI 128 * nI j + σ 38 j)))) h) : G d n_X12_slotOf 0 0 0 [(0, .ref m), (1, .int (nI j))] [] h 0 0 Q := by
  have hin : vp_in (nI j) 4 := vp_in_nI hj (by decide)
  have hcl : (nI j).toNatClampNeg = j := nI_clamp (by omega)
  repeat refine hG _ _ _ _ _ _ _ _ _ _ _ ?_
  refine ⟨_, _, hR.1, r_at (by decide), ?_⟩
  repeat refine hG _ _ _ _ _ _ _ _ _ _ _ ?_
  refine ⟨_, _, Or.inl ⟨_, hR.2.1 38 rfl, rfl⟩, hin, ?_⟩
  rw [hcl]
  repeat refine hG _ _ _ _ _ _ _ _ _ _ _ ?_
  exact ⟨rfl, by decide, by decide, hQ⟩
def m_ck (n : Int32) : Nat := if n = 768 then 0 else if n = 772 then 1 else if n = 773 then 2 else if n = 832 then 3 else if n = 833 then 4 else if n = 834 then 5 else if n = 835 then 6 else 7
def m_cv (n : Int32) : Int32 := if m_ck n = 7 then -1 else nI (m_ck n)
theorem m_ck_le (n : Int32) : m_ck n ≤ 7 := by
  unfold m_ck
  repeat' split
  all_goals decide
theorem m_cv_7 {n : Int32} : m_cv n = -1 ↔ m_ck n = 7 := by
  have key : ∀ k, k < 7 → nI k ≠ -1 := by decide
  rw [m_cv]
  by_cases e : m_ck n = 7
  · rw [if_pos e]; exact ⟨fun _ => e, fun _ => rfl⟩
  · rw [if_neg e]
    have hl := m_ck_le n
    exact ⟨fun q => absurd q (key _ (by omega)), fun q => absurd q e⟩
theorem m_ck_83 {n : Int32} (h1 : 832 ≤ n) (h2 : n ≤ 835) : 3 + n - 832 = m_cv n := by
  have a1 : (832 : Int) ≤ n.toInt := Int32.le_iff_toInt_le.mp h1
  have a2 : n.toInt ≤ (835 : Int) := Int32.le_iff_toInt_le.mp h2
  rcases (by omega : n.toInt = 832 ∨ n.toInt = 833 ∨ n.toInt = 834 ∨ n.toInt = 835) with e | e | e | e
  · have : n = 832 := Int32.toInt_inj.mp e
    subst this; decide
  · have : n = 833 := Int32.toInt_inj.mp e
    subst this; decide
  · have : n = 834 := Int32.toInt_inj.mp e
    subst this; decide
  · have : n = 835 := Int32.toInt_inj.mp e
    subst this; decide
theorem m_ck_no {n : Int32} (h0 : n ≠ 768) (h1 : n ≠ 772) (h2 : n ≠ 773) (h3 : ¬ (832 ≤ n ∧ n ≤ 835)) : m_ck n = 7 := by
  rw [m_ck, if_neg h0, if_neg h1, if_neg h2, if_neg (fun q => h3 (by rw [q]; decide)), if_neg (fun q => h3 (by rw [q]; decide)), if_neg (fun q => h3 (by rw [q]; decide)), if_neg (fun q => h3 (by rw [q]; decide))]
def m_ro (n : Int32) : Bool := decide (n = 836 ∨ n = 3074 ∨ n = 3202)
def m_cwr (w : Int32) : Bool := decide (m_f3 w &&& 3 = 1 ∨ ¬ m_sr w 15 &&& 31 = 0)
def m_cbad (w : Int32) : Bool := decide (m_f3 w &&& 3 = 0 ∨ (m_ck (m_ur w 20) = 7 ∧ m_ro (m_ur w 20) = false) ∨ (m_ro (m_ur w 20) = true ∧ m_cwr w = true))
def m_cval (σ : Nat → Nat → Int32) (τ : Nat → Nat → Int64) (j : Nat) (n : Int32) : Int32 := if ¬ m_ck n = 7 then σ 18 (7 * j + m_ck n) else if n = 836 then m_pending σ j else if n = 3074 then (τ 19 j).toInt32 else (τ 19 j >>> ((32 : Int32).toInt64 &&& 63)).toInt32
def m_cwith (w a : Int32) : Int32 := if m_f3 w ≤ 3 then a else m_sr w 15 &&& 31
def m_cnew (w v u : Int32) : Int32 := if m_f3 w &&& 3 = 1 then u else if m_f3 w &&& 3 = 2 then v ||| u else v &&& (u ^^^ -1)
def m_register (σ : Nat → Nat → Int32) (τ : Nat → Nat → Int64) (j : Nat) (w a : Int32) : Nat → Nat → Int32 :=
  if m_cbad w = true then m_trap σ j 2 w
  else m_goesOn (if m_cwr w = true then u2 σ 18 (7 * j + m_ck (m_ur w 20)) (m_mask (m_ck (m_ur w 20)) (m_cnew w (m_cval σ τ j (m_ur w 20)) (m_cwith w a))) else σ) j (m_n5 (m_sr w 7)) (m_cval σ τ j (m_ur w 20))
theorem rr_register {G : xG} {ro : xR} {sv : Nat → Value} (hG : x_Good G ro sv) {d m j : Nat} {ra : Nat → Nat} {σ : Nat → Nat → Int32} {τ : Nat → Nat → Int64} {h : xH} {Q : xQ} {w a : Int32} (hR : RepR m ra σ τ h) (hj : j < 4) (hQ : ∀ h', RepR m ra (m_register σ τ j w a) τ h' → RF m ra h h' → Q none h') : G (d + 2) n_X12_register 0 0 0 [(0, .ref m), (1, .int (nI j)), (2, .int w), (3, .int a)] [] h 0 0 Q := by
  have hin : vp_in (nI j) 4 := vp_in_nI hj (by decide)
  have hcl : (nI j).toNatClampNeg = j := nI_clamp (by omega)
  have k301 : ∀ (σ1 : Nat → Nat → Int32) (h1 : xH) (v u : Int32), m_cbad w = false → RepR m ra σ1 τ h1 → RF m ra h h1 → v = m_cval σ τ j (m_ur w 20) → σ1 = (if m_cwr w = true then u2 σ 18 (7 * j + m_ck (m_ur w 20)) (m_mask (m_ck (m_ur w 20)) (m_cnew w (m_cval σ τ j (m_ur w 20)) (m_cwith w a))) else σ) → G (d + 2) n_X12_register 0 0 301 [(11, .int u), (10, .int v), (9, .int (cond (m_cwr w) 1 0)), (8, .int (cond (m_ro (m_ur w 20)) 1 0)), (7, .int (m_cv (m_ur w 20))), (6, .int (m_sr w 15 &&& 31)), (5, .int (m_ur w 20)), (4, .int (m_f3 w)), (0, .ref m), (1, .int (nI j)), (2, .int w), (3, .int a)] [] h1 0 0 Q := by
    intro σ1 h1 v u hb hR1 f1 hv hs
    rw [m_register, if_neg (by rw [hb]; decide), ← hv] at hQ
    rw [← hv] at hs
    rw [← hs] at hQ
    refine hG _ _ _ _ _ _ _ _ _ _ _ ?_
    refine hG _ _ _ _ _ _ _ _ _ _ _ ?_
    refine hG _ _ _ _ _ _ _ _ _ _ _ ?_
    refine hG _ _ _ _ _ _ _ _ _ _ _ ?_
    refine hG _ _ _ _ _ _ _ _ _ _ _ ?_
    refine hG _ _ _ _ _ _ _ _ _ _ _ ?_
    refine hG _ _ _ _ _ _ _ _ _ _ _ ?_
    refine hG _ _ _ _ _ _ _ _ _ _ _ ?_
    rw [show w >>> ((7 : Int32) &&& 31) &&& 31 = nI (m_n5 (m_sr w 7)) from m_n5_e _]
    repeat refine hG _ _ _ _ _ _ _ _ _ _ _ ?_
    refine ⟨⟨_, hR1.1⟩, 0, 0, by decide, by decide, rr_goesOn hG hR1 hj (m_n5_lt _) (fun h2 hR2 f2 => ?_)⟩
    repeat refine hG _ _ _ _ _ _ _ _ _ _ _ ?_
    exact ⟨by decide, by decide, hQ h2 hR2 (f1.tr f2)⟩
  have k251 : ∀ v u : Int32, m_cbad w = false → v = m_cval σ τ j (m_ur w 20) → u = m_cwith w a → G (d + 2) n_X12_register 0 0 251 [(10, .int v), (9, .int (cond (m_cwr w) 1 0)), (8, .int (cond (m_ro (m_ur w 20)) 1 0)), (7, .int (m_cv (m_ur w 20))), (6, .int (m_sr w 15 &&& 31)), (5, .int (m_ur w 20)), (4, .int (m_f3 w)), (0, .ref m), (1, .int (nI j)), (2, .int w), (3, .int a)] [.int u] h 0 0 Q := by
    intro v u hb hv hu
    repeat refine hG _ _ _ _ _ _ _ _ _ _ _ ?_
    refine ⟨fun q => ?_, fun q => ?_⟩
    · exact k301 σ h v u hb hR RF.rf hv (by rw [if_neg (by rw [c01_0.mp q]; decide)])
    · have hw := c01_t q
      have hck : ¬ m_ck (m_ur w 20) = 7 := fun e => of_decide_eq_false hb (by
        cases hr : m_ro (m_ur w 20) with
        | true => exact Or.inr (Or.inr ⟨rfl, hw⟩)
        | false => exact Or.inr (Or.inl ⟨e, rfl⟩))
      have hlt : m_ck (m_ur w 20) < 7 := by have := m_ck_le (m_ur w 20); omega
      have hcv : m_cv (m_ur w 20) = nI (m_ck (m_ur w 20)) := by rw [m_cv, if_neg hck]
      have kk : ∀ z : Int32, z = m_cnew w v u → G (d + 2) n_X12_register 0 0 298 [(11, .int u), (10, .int v), (9, .int (cond (m_cwr w) 1 0)), (8, .int (cond (m_ro (m_ur w 20)) 1 0)), (7, .int (m_cv (m_ur w 20))), (6, .int (m_sr w 15 &&& 31)), (5, .int (m_ur w 20)), (4, .int (m_f3 w)), (0, .ref m), (1, .int (nI j)), (2, .int w), (3, .int a)] [.int z, .int (m_cv (m_ur w 20)), .int (nI j), .ref m] h 0 0 Q := by
        intro z hz
        have k := k301
        rw [hcv] at k ⊢
        repeat refine hG _ _ _ _ _ _ _ _ _ _ _ ?_
        refine ⟨⟨_, hR.1⟩, 0, 0, by decide, by decide, rr_controlTo hG hR hj hlt (fun h2 hR2 f2 => ?_)⟩
        exact k _ h2 v u hb hR2 f2 hv (by rw [if_pos hw, hz, hv, hu])
      repeat refine hG _ _ _ _ _ _ _ _ _ _ _ ?_
      refine ⟨fun q => ?_, fun q => ?_⟩
      · repeat refine hG _ _ _ _ _ _ _ _ _ _ _ ?_
        refine ⟨fun q2 => ?_, fun q2 => ?_⟩
        · refine hG _ _ _ _ _ _ _ _ _ _ _ ?_
          refine hG _ _ _ _ _ _ _ _ _ _ _ ?_
          refine hG _ _ _ _ _ _ _ _ _ _ _ ?_
          refine hG _ _ _ _ _ _ _ _ _ _ _ ?_
          refine hG _ _ _ _ _ _ _ _ _ _ _ ?_
          exact kk _ (by rw [m_cnew, if_neg q, if_neg q2])
        · refine hG _ _ _ _ _ _ _ _ _ _ _ ?_
          refine hG _ _ _ _ _ _ _ _ _ _ _ ?_
          refine hG _ _ _ _ _ _ _ _ _ _ _ ?_
          refine hG _ _ _ _ _ _ _ _ _ _ _ ?_
          exact kk _ (by rw [m_cnew, if_neg q, if_pos q2])
      · refine hG _ _ _ _ _ _ _ _ _ _ _ ?_
        refine hG _ _ _ _ _ _ _ _ _ _ _ ?_
        exact kk _ (by rw [m_cnew, if_pos q])
  have k237 : ∀ v : Int32, m_cbad w = false → v = m_cval σ τ j (m_ur w 20) → G (d + 2) n_X12_register 0 0 237 [(9, .int (cond (m_cwr w) 1 0)), (8, .int (cond (m_ro (m_ur w 20)) 1 0)), (7, .int (m_cv (m_ur w 20))), (6, .int (m_sr w 15 &&& 31)), (5, .int (m_ur w 20)), (4, .int (m_f3 w)), (0, .ref m), (1, .int (nI j)), (2, .int w), (3, .int a)] [.int v] h 0 0 Q := by
    intro v hb hv
    repeat refine hG _ _ _ _ _ _ _ _ _ _ _ ?_
    refine ⟨fun q => ?_, fun q => ?_⟩
    · refine hG _ _ _ _ _ _ _ _ _ _ _ ?_
      exact k251 v _ hb hv (by rw [m_cwith, if_pos q])
    · refine hG _ _ _ _ _ _ _ _ _ _ _ ?_
      refine hG _ _ _ _ _ _ _ _ _ _ _ ?_
      exact k251 v _ hb hv (by rw [m_cwith, if_neg q])
  have k177 : m_cbad w = false → G (d + 2) n_X12_register 0 0 177 [(9, .int (cond (m_cwr w) 1 0)), (8, .int (cond (m_ro (m_ur w 20)) 1 0)), (7, .int (m_cv (m_ur w 20))), (6, .int (m_sr w 15 &&& 31)), (5, .int (m_ur w 20)), (4, .int (m_f3 w)), (0, .ref m), (1, .int (nI j)), (2, .int w), (3, .int a)] [] h 0 0 Q := by
    intro hb
    repeat refine hG _ _ _ _ _ _ _ _ _ _ _ ?_
    refine ⟨fun q => ?_, fun q => ?_⟩
    · have hck := m_cv_7.mp q
      repeat refine hG _ _ _ _ _ _ _ _ _ _ _ ?_
      refine ⟨fun q1 => ?_, fun q1 => ?_⟩
      · repeat refine hG _ _ _ _ _ _ _ _ _ _ _ ?_
        refine ⟨fun q2 => ?_, fun q2 => ?_⟩
        · repeat refine hG _ _ _ _ _ _ _ _ _ _ _ ?_
          refine ⟨_, _, hR.1, r_at (by decide), ?_⟩
          repeat refine hG _ _ _ _ _ _ _ _ _ _ _ ?_
          refine ⟨_, _, _, hR.2.1 19 rfl, rfl, hin, ?_⟩
          rw [hcl]
          refine hG _ _ _ _ _ _ _ _ _ _ _ ?_
          refine hG _ _ _ _ _ _ _ _ _ _ _ ?_
          refine hG _ _ _ _ _ _ _ _ _ _ _ ?_
          exact k237 _ hb (by rw [m_cval, if_neg (fun z => z hck), if_neg q1, if_neg q2])
        · repeat refine hG _ _ _ _ _ _ _ _ _ _ _ ?_
          refine ⟨_, _, hR.1, r_at (by decide), ?_⟩
          repeat refine hG _ _ _ _ _ _ _ _ _ _ _ ?_
          refine ⟨_, _, _, hR.2.1 19 rfl, rfl, hin, ?_⟩
          rw [hcl]
          refine hG _ _ _ _ _ _ _ _ _ _ _ ?_
          refine hG _ _ _ _ _ _ _ _ _ _ _ ?_
          exact k237 _ hb (by rw [m_cval, if_neg (fun z => z hck), if_neg q1, if_pos q2])
      · repeat refine hG _ _ _ _ _ _ _ _ _ _ _ ?_
        refine ⟨⟨_, hR.1⟩, 0, 0, by decide, by decide, rr_pending hG hR hj ?_⟩
        refine hG _ _ _ _ _ _ _ _ _ _ _ ?_
        exact k237 _ hb (by rw [m_cval, if_neg (fun z => z hck), if_pos q1])
    · have hck : ¬ m_ck (m_ur w 20) = 7 := fun z => q (m_cv_7.mpr z)
      have hlt : m_ck (m_ur w 20) < 7 := by have := m_ck_le (m_ur w 20); omega
      have hcv : m_cv (m_ur w 20) = nI (m_ck (m_ur w 20)) := by rw [m_cv, if_neg hck]
      have k := k237
      rw [hcv] at k ⊢
      repeat refine hG _ _ _ _ _ _ _ _ _ _ _ ?_
      refine ⟨⟨_, hR.1⟩, 0, 0, by decide, by decide, rr_control hG hR hj hlt ?_⟩
      refine hG _ _ _ _ _ _ _ _ _ _ _ ?_
      exact k _ hb (by rw [m_cval, if_pos hck])
  have k139 : ∀ o : Bool, o = m_cwr w → G (d + 2) n_X12_register 0 0 139 [(8, .int (cond (m_ro (m_ur w 20)) 1 0)), (7, .int (m_cv (m_ur w 20))), (6, .int (m_sr w 15 &&& 31)), (5, .int (m_ur w 20)), (4, .int (m_f3 w)), (0, .ref m), (1, .int (nI j)), (2, .int w), (3, .int a)] [.int (cond o 1 0)] h 0 0 Q := by
    intro o ho
    subst ho
    have kB : m_cbad w = true → G (d + 2) n_X12_register 0 0 169 [(9, .int (cond (m_cwr w) 1 0)), (8, .int (cond (m_ro (m_ur w 20)) 1 0)), (7, .int (m_cv (m_ur w 20))), (6, .int (m_sr w 15 &&& 31)), (5, .int (m_ur w 20)), (4, .int (m_f3 w)), (0, .ref m), (1, .int (nI j)), (2, .int w), (3, .int a)] [] h 0 0 Q := by
      intro e
      rw [m_register, if_pos e] at hQ
      repeat refine hG _ _ _ _ _ _ _ _ _ _ _ ?_
      refine ⟨⟨_, hR.1⟩, 0, 0, by decide, by decide, rr_trap hG hR hj (fun h1 hR1 f1 => ?_)⟩
      repeat refine hG _ _ _ _ _ _ _ _ _ _ _ ?_
      exact ⟨by decide, by decide, hQ h1 hR1 f1⟩
    repeat refine hG _ _ _ _ _ _ _ _ _ _ _ ?_
    refine ⟨fun q => kB (decide_eq_true (Or.inl q)), fun q0 => ?_⟩
    have k159 : ¬ (m_ck (m_ur w 20) = 7 ∧ m_ro (m_ur w 20) = false) → G (d + 2) n_X12_register 0 0 159 [(9, .int (cond (m_cwr w) 1 0)), (8, .int (cond (m_ro (m_ur w 20)) 1 0)), (7, .int (m_cv (m_ur w 20))), (6, .int (m_sr w 15 &&& 31)), (5, .int (m_ur w 20)), (4, .int (m_f3 w)), (0, .ref m), (1, .int (nI j)), (2, .int w), (3, .int a)] [] h 0 0 Q := by
      intro q1
      repeat refine hG _ _ _ _ _ _ _ _ _ _ _ ?_
      refine ⟨fun q => k177 (decide_eq_false (fun r => r.elim q0 (fun r => r.elim q1 (fun r => by rw [c01_0.mp q] at r; exact absurd r.1 (by decide))))), fun q2 => ?_⟩
      repeat refine hG _ _ _ _ _ _ _ _ _ _ _ ?_
      refine ⟨fun q => k177 (decide_eq_false (fun r => r.elim q0 (fun r => r.elim q1 (fun r => by rw [c01_0.mp q] at r; exact absurd r.2 (by decide))))), fun q3 => ?_⟩
      exact kB (decide_eq_true (Or.inr (Or.inr ⟨c01_t q2, c01_t q3⟩)))
    repeat refine hG _ _ _ _ _ _ _ _ _ _ _ ?_
    refine ⟨fun q => k159 (fun r => q (m_cv_7.mpr r.1)), fun q1 => ?_⟩
    repeat refine hG _ _ _ _ _ _ _ _ _ _ _ ?_
    refine ⟨fun q => kB (decide_eq_true (Or.inr (Or.inl ⟨m_cv_7.mp q1, c01_0.mp q⟩))), fun q => k159 (fun r => q (by rw [r.2]; rfl))⟩
  have k119 : ∀ o : Bool, o = m_ro (m_ur w 20) → G (d + 2) n_X12_register 0 0 119 [(7, .int (m_cv (m_ur w 20))), (6, .int (m_sr w 15 &&& 31)), (5, .int (m_ur w 20)), (4, .int (m_f3 w)), (0, .ref m), (1, .int (nI j)), (2, .int w), (3, .int a)] [.int (cond o 1 0)] h 0 0 Q := by
    intro o ho
    subst ho
    repeat refine hG _ _ _ _ _ _ _ _ _ _ _ ?_
    refine ⟨fun q => ?_, fun q1 => ?_⟩
    · refine hG _ _ _ _ _ _ _ _ _ _ _ ?_
      refine hG _ _ _ _ _ _ _ _ _ _ _ ?_
      exact k139 true (decide_eq_true (Or.inl q)).symm
    · repeat refine hG _ _ _ _ _ _ _ _ _ _ _ ?_
      refine ⟨fun q => ?_, fun q => ?_⟩
      · refine hG _ _ _ _ _ _ _ _ _ _ _ ?_
        exact k139 false (decide_eq_false (fun r => r.elim q1 (fun r => r q))).symm
      · refine hG _ _ _ _ _ _ _ _ _ _ _ ?_
        refine hG _ _ _ _ _ _ _ _ _ _ _ ?_
        exact k139 true (decide_eq_true (Or.inr q)).symm
  have k88 : ∀ z : Int32, z = m_cv (m_ur w 20) → G (d + 2) n_X12_register 0 0 88 [(6, .int (m_sr w 15 &&& 31)), (5, .int (m_ur w 20)), (4, .int (m_f3 w)), (0, .ref m), (1, .int (nI j)), (2, .int w), (3, .int a)] [.int z] h 0 0 Q := by
    intro z hz
    subst hz
    have kT : m_ro (m_ur w 20) = true → G (d + 2) n_X12_register 0 0 114 [(7, .int (m_cv (m_ur w 20))), (6, .int (m_sr w 15 &&& 31)), (5, .int (m_ur w 20)), (4, .int (m_f3 w)), (0, .ref m), (1, .int (nI j)), (2, .int w), (3, .int a)] [] h 0 0 Q := by
      intro e
      refine hG _ _ _ _ _ _ _ _ _ _ _ ?_
      refine hG _ _ _ _ _ _ _ _ _ _ _ ?_
      exact k119 true e.symm
    repeat refine hG _ _ _ _ _ _ _ _ _ _ _ ?_
    refine ⟨fun q => kT (decide_eq_true (Or.inl q)), fun q1 => ?_⟩
    repeat refine hG _ _ _ _ _ _ _ _ _ _ _ ?_
    refine ⟨fun q => kT (decide_eq_true (Or.inr (Or.inl q))), fun q2 => ?_⟩
    repeat refine hG _ _ _ _ _ _ _ _ _ _ _ ?_
    refine ⟨fun q => ?_, fun q => kT (decide_eq_true (Or.inr (Or.inr q)))⟩
    refine hG _ _ _ _ _ _ _ _ _ _ _ ?_
    exact k119 false (decide_eq_false (fun r => r.elim q1 (fun r => r.elim q2 q))).symm
  repeat refine hG _ _ _ _ _ _ _ _ _ _ _ ?_
  refine ⟨fun q0 => ?_, fun q0 => ?_⟩
  · repeat refine hG _ _ _ _ _ _ _ _ _ _ _ ?_
    refine ⟨fun q1 => ?_, fun q1 => ?_⟩
    · repeat refine hG _ _ _ _ _ _ _ _ _ _ _ ?_
      refine ⟨fun q2 => ?_, fun q2 => ?_⟩
      · have kN : ¬ (832 ≤ m_ur w 20 ∧ m_ur w 20 ≤ 835) → G (d + 2) n_X12_register 0 0 87 [(6, .int (m_sr w 15 &&& 31)), (5, .int (m_ur w 20)), (4, .int (m_f3 w)), (0, .ref m), (1, .int (nI j)), (2, .int w), (3, .int a)] [] h 0 0 Q := by
          intro e
          refine hG _ _ _ _ _ _ _ _ _ _ _ ?_
          exact k88 _ (m_cv_7.mpr (m_ck_no q0 q1 q2 e)).symm
        repeat refine hG _ _ _ _ _ _ _ _ _ _ _ ?_
        refine ⟨fun q => kN (fun r => Int32.not_lt.mpr r.1 q), fun q3 => ?_⟩
        repeat refine hG _ _ _ _ _ _ _ _ _ _ _ ?_
        refine ⟨fun q => kN (fun r => Int32.not_lt.mpr r.2 q), fun q4 => ?_⟩
        refine hG _ _ _ _ _ _ _ _ _ _ _ ?_
        refine hG _ _ _ _ _ _ _ _ _ _ _ ?_
        refine hG _ _ _ _ _ _ _ _ _ _ _ ?_
        refine hG _ _ _ _ _ _ _ _ _ _ _ ?_
        refine hG _ _ _ _ _ _ _ _ _ _ _ ?_
        refine hG _ _ _ _ _ _ _ _ _ _ _ ?_
        exact k88 _ (m_ck_83 (Int32.not_lt.mp q3) (Int32.not_lt.mp q4))
      · refine hG _ _ _ _ _ _ _ _ _ _ _ ?_
        refine hG _ _ _ _ _ _ _ _ _ _ _ ?_
        have q2 : m_ur w 20 = 773 := q2
        exact k88 2 (by rw [q2]; decide)
    · refine hG _ _ _ _ _ _ _ _ _ _ _ ?_
      refine hG _ _ _ _ _ _ _ _ _ _ _ ?_
      have q1 : m_ur w 20 = 772 := q1
      exact k88 1 (by rw [q1]; decide)
  · refine hG _ _ _ _ _ _ _ _ _ _ _ ?_
    refine hG _ _ _ _ _ _ _ _ _ _ _ ?_
    have q0 : m_ur w 20 = 768 := q0
    exact k88 0 (by rw [q0]; decide)
