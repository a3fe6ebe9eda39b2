abbrev m_ur (w k : Int32) : Int32 := (w.toUInt32 >>> (k.toUInt32 &&& Int32.toUInt32 31)).toInt32
def m_n5 (x : Int32) : Nat := x.toBitVec.toNat % 32
theorem m_n5_e (x : Int32) : x &&& 31 = nI (m_n5 x) := pk_and x 5 rfl
theorem m_n5_lt (x : Int32) : m_n5 x < 32 := Nat.mod_lt _ (by decide)
def m_n3 (x : Int32) : Nat := x.toBitVec.toNat % 8
theorem m_n3_e (x : Int32) : x &&& 7 = nI (m_n3 x) := pk_and x 3 rfl
theorem m_n3_lt (x : Int32) : m_n3 x < 8 := Nat.mod_lt _ (by decide)
def m_rgood (w : Int32) (n : Bool) : Bool := decide ((n = true ∧ ¬ (m_f3 w = 1 ∨ m_f3 w = 5)) ∨ m_ur w 25 = 0 ∨ (m_ur w 25 = 32 ∧ (m_f3 w = 5 ∨ (m_f3 w = 0 ∧ n = false))))
def m_rval (k : Nat) (g a b s : Int32) (n : Bool) : Int32 :=
  if k = 0 then (if n = false ∧ g = 32 then a - b else a + b) else
  if k = 1 then (a <<< (s &&& 31)) else
  if k = 2 then (if a < b then 1 else 0) else
  if k = 3 then (if a + -2147483648 < b + -2147483648 then 1 else 0) else
  if k = 4 then (a ^^^ b) else
  if k = 5 then (if g = 32 then a >>> (s &&& 31) else (a.toUInt32 >>> (s.toUInt32 &&& Int32.toUInt32 31)).toInt32) else
  if k = 6 then (a ||| b) else a &&& b
theorem m_rval0 {g a b s : Int32} {n : Bool} : m_rval 0 g a b s n = (if n = false ∧ g = 32 then a - b else a + b) := by rw [m_rval, if_pos rfl]
theorem m_rval1 {g a b s : Int32} {n : Bool} : m_rval 1 g a b s n = (a <<< (s &&& 31)) := by rw [m_rval, if_neg (by decide), if_pos rfl]
theorem m_rval2 {g a b s : Int32} {n : Bool} : m_rval 2 g a b s n = (if a < b then 1 else 0) := by rw [m_rval, if_neg (by decide), if_neg (by decide), if_pos rfl]
theorem m_rval3 {g a b s : Int32} {n : Bool} : m_rval 3 g a b s n = (if a + -2147483648 < b + -2147483648 then 1 else 0) := by rw [m_rval, if_neg (by decide), if_neg (by decide), if_neg (by decide), if_pos rfl]
theorem m_rval4 {g a b s : Int32} {n : Bool} : m_rval 4 g a b s n = (a ^^^ b) := by rw [m_rval, if_neg (by decide), if_neg (by decide), if_neg (by decide), if_neg (by decide), if_pos rfl]
theorem m_rval5 {g a b s : Int32} {n : Bool} : m_rval 5 g a b s n = (if g = 32 then a >>> (s &&& 31) else (a.toUInt32 >>> (s.toUInt32 &&& Int32.toUInt32 31)).toInt32) := by rw [m_rval, if_neg (by decide), if_neg (by decide), if_neg (by decide), if_neg (by decide), if_neg (by decide), if_pos rfl]
theorem m_rval6 {g a b s : Int32} {n : Bool} : m_rval 6 g a b s n = (a ||| b) := by rw [m_rval, if_neg (by decide), if_neg (by decide), if_neg (by decide), if_neg (by decide), if_neg (by decide), if_neg (by decide), if_pos rfl]
theorem m_rval7 {g a b s : Int32} {n : Bool} : m_rval 7 g a b s n = (a &&& b) := by rw [m_rval, if_neg (by decide), if_neg (by decide), if_neg (by decide), if_neg (by decide), if_neg (by decide), if_neg (by decide), if_neg (by decide)]
def m_rby (w b : Int32) (n : Bool) : Int32 := cond n (m_sr w 20 &&& 31) (b &&& 31)
def m_reckons (σ : Nat → Nat → Int32) (j : Nat) (w a b : Int32) (n : Bool) : Nat → Nat → Int32 :=
  if m_rgood w n = true then m_goesOn σ j (m_n5 (m_sr w 7)) (m_rval (m_n3 (m_sr w 12)) (m_ur w 25) a b (m_rby w b n) n) else m_trap σ j 2 w
theorem c01_t {b : Bool} (h : ¬ (cond b 1 0 : Int32) = 0) : b = true := by
  cases b with
  | true => rfl
  | false => exact absurd rfl h
theorem rr_reckons {G : xG} {ro : xR} {sv : Nat → Value} (hG : x_Good G ro sv) {d m j : Nat} {ra : Nat → Nat} {σ : Nat → Nat → Int32} {τ : Nat → Nat → Int64} {h : xH} {Q : xQ} {w a b : Int32} {n : Bool} (hR : RepR m ra σ τ h) (hj : j < 4) (hQ : ∀ h', RepR m ra (m_reckons σ j w a b n) τ h' → RF m ra h h' → Q none h') : G (d + 2) n_X12_reckons 0 0 0 [(0, .ref m), (1, .int (nI j)), (2, .int w), (3, .int a), (4, .int b), (5, .int (cond n 1 0))] [] h 0 0 Q := by
  have k279 : m_rgood w n = true → ∀ v y9 y8 y10 : Int32, v = m_rval (m_n3 (m_sr w 12)) (m_ur w 25) a b (m_rby w b n) n → G (d + 2) n_X12_reckons 0 0 279 [(11, .int v), (10, .int y10), (9, .int y9), (8, .int y8), (7, .int (m_ur w 25)), (6, .int (m_f3 w)), (0, .ref m), (1, .int (nI j)), (2, .int w), (3, .int a), (4, .int b), (5, .int (cond n 1 0))] [] h 0 0 Q := by
    intro hg v y9 y8 y10 hv
    rw [m_reckons, if_pos hg, ← hv] at hQ
    refine hG _ _ _ _ _ _ _ _ _ _ _ ?_
    refine hG _ _ _ _ _ _ _ _ _ _ _ ?_
    refine hG _ _ _ _ _ _ _ _ _ _ _ ?_
    refine hG _ _ _ _ _ _ _ _ _ _ _ ?_
    refine hG _ _ _ _ _ _ _ _ _ _ _ ?_
    refine hG _ _ _ _ _ _ _ _ _ _ _ ?_
    refine hG _ _ _ _ _ _ _ _ _ _ _ ?_
    refine hG _ _ _ _ _ _ _ _ _ _ _ ?_
    rw [show w >>> ((7 : Int32) &&& 31) &&& 31 = nI (m_n5 (m_sr w 7)) from m_n5_e _]
    repeat refine hG _ _ _ _ _ _ _ _ _ _ _ ?_
    refine ⟨⟨_, hR.1⟩, 0, 0, by decide, by decide, rr_goesOn hG hR hj (m_n5_lt _) (fun h1 hR1 f1 => ?_)⟩
    repeat refine hG _ _ _ _ _ _ _ _ _ _ _ ?_
    exact ⟨by decide, by decide, hQ h1 hR1 f1⟩
  have k112 : m_rgood w n = true → ∀ s y9 y8 : Int32, s = m_rby w b n → G (d + 2) n_X12_reckons 0 0 112 [(9, .int y9), (8, .int y8), (7, .int (m_ur w 25)), (6, .int (m_f3 w)), (0, .ref m), (1, .int (nI j)), (2, .int w), (3, .int a), (4, .int b), (5, .int (cond n 1 0))] [.int s] h 0 0 Q := by
    intro hg s y9 y8 hs
    have k := k279 hg
    rw [← hs] at k
    have hf : m_f3 w = nI (m_n3 (m_sr w 12)) := m_n3_e _
    have hl := m_n3_lt (m_sr w 12)
    generalize m_f3 w = f at hf k ⊢
    generalize m_n3 (m_sr w 12) = q at hf hl k
    generalize m_ur w 25 = g at k ⊢
    subst hf
    refine hG _ _ _ _ _ _ _ _ _ _ _ ?_
    refine hG _ _ _ _ _ _ _ _ _ _ _ ?_
    refine hG _ _ _ _ _ _ _ _ _ _ _ ?_
    rcases (by omega : q = 0 ∨ q = 1 ∨ q = 2 ∨ q = 3 ∨ q = 4 ∨ q = 5 ∨ q = 6 ∨ q = 7) with e | e | e | e | e | e | e | e <;> subst e
    · refine ⟨160, Or.inr ⟨by decide, by decide, 44, rfl, rfl⟩, ?_⟩
      repeat refine hG _ _ _ _ _ _ _ _ _ _ _ ?_
      have ka : ¬ (n = false ∧ g = 32) → G (d + 2) n_X12_reckons 0 0 179 [(10, .int s), (9, .int y9), (8, .int y8), (7, .int g), (6, .int (nI 0)), (0, .ref m), (1, .int (nI j)), (2, .int w), (3, .int a), (4, .int b), (5, .int (cond n 1 0))] [] h 0 0 Q := by
        intro hq
        refine hG _ _ _ _ _ _ _ _ _ _ _ ?_
        refine hG _ _ _ _ _ _ _ _ _ _ _ ?_
        refine hG _ _ _ _ _ _ _ _ _ _ _ ?_
        refine hG _ _ _ _ _ _ _ _ _ _ _ ?_
        refine hG _ _ _ _ _ _ _ _ _ _ _ ?_
        exact k _ _ _ _ (by rw [m_rval0, if_neg hq])
      refine ⟨fun q => ka (fun r => by rw [r.1] at q; exact q rfl), fun q => ?_⟩
      have hn := c01_0.mp q
      repeat refine hG _ _ _ _ _ _ _ _ _ _ _ ?_
      refine ⟨fun q => ka (fun r => q r.2), fun q => ?_⟩
      refine hG _ _ _ _ _ _ _ _ _ _ _ ?_
      refine hG _ _ _ _ _ _ _ _ _ _ _ ?_
      refine hG _ _ _ _ _ _ _ _ _ _ _ ?_
      refine hG _ _ _ _ _ _ _ _ _ _ _ ?_
      refine hG _ _ _ _ _ _ _ _ _ _ _ ?_
      refine hG _ _ _ _ _ _ _ _ _ _ _ ?_
      exact k _ _ _ _ (by rw [m_rval0, if_pos ⟨hn, q⟩])
    · refine ⟨188, Or.inr ⟨by decide, by decide, 72, rfl, rfl⟩, ?_⟩
      refine hG _ _ _ _ _ _ _ _ _ _ _ ?_
      refine hG _ _ _ _ _ _ _ _ _ _ _ ?_
      refine hG _ _ _ _ _ _ _ _ _ _ _ ?_
      refine hG _ _ _ _ _ _ _ _ _ _ _ ?_
      refine hG _ _ _ _ _ _ _ _ _ _ _ ?_
      exact k _ _ _ _ m_rval1.symm
    · refine ⟨197, Or.inr ⟨by decide, by decide, 81, rfl, rfl⟩, ?_⟩
      repeat refine hG _ _ _ _ _ _ _ _ _ _ _ ?_
      refine ⟨fun q => ?_, fun q => ?_⟩
      · refine hG _ _ _ _ _ _ _ _ _ _ _ ?_
        refine hG _ _ _ _ _ _ _ _ _ _ _ ?_
        refine hG _ _ _ _ _ _ _ _ _ _ _ ?_
        exact k _ _ _ _ (by rw [m_rval2, if_neg (Int32.not_lt.mpr q)])
      · refine hG _ _ _ _ _ _ _ _ _ _ _ ?_
        refine hG _ _ _ _ _ _ _ _ _ _ _ ?_
        refine hG _ _ _ _ _ _ _ _ _ _ _ ?_
        refine hG _ _ _ _ _ _ _ _ _ _ _ ?_
        exact k _ _ _ _ (by rw [m_rval2, if_pos (Int32.not_le.mp q)])
    · refine ⟨213, Or.inr ⟨by decide, by decide, 97, rfl, rfl⟩, ?_⟩
      repeat refine hG _ _ _ _ _ _ _ _ _ _ _ ?_
      refine ⟨0, 0, by decide, by decide, rr_isBelow hG ?_⟩
      by_cases hq : a + -2147483648 < b + -2147483648
      · rw [if_pos hq]
        repeat refine hG _ _ _ _ _ _ _ _ _ _ _ ?_
        refine ⟨fun q => absurd q (by decide), fun q => ?_⟩
        refine hG _ _ _ _ _ _ _ _ _ _ _ ?_
        refine hG _ _ _ _ _ _ _ _ _ _ _ ?_
        refine hG _ _ _ _ _ _ _ _ _ _ _ ?_
        refine hG _ _ _ _ _ _ _ _ _ _ _ ?_
        exact k 1 _ _ _ (by rw [m_rval3, if_pos hq])
      · rw [if_neg hq]
        repeat refine hG _ _ _ _ _ _ _ _ _ _ _ ?_
        refine ⟨fun q => ?_, fun q => absurd rfl q⟩
        refine hG _ _ _ _ _ _ _ _ _ _ _ ?_
        refine hG _ _ _ _ _ _ _ _ _ _ _ ?_
        refine hG _ _ _ _ _ _ _ _ _ _ _ ?_
        exact k 0 _ _ _ (by rw [m_rval3, if_neg hq])
    · refine ⟨232, Or.inr ⟨by decide, by decide, 116, rfl, rfl⟩, ?_⟩
      refine hG _ _ _ _ _ _ _ _ _ _ _ ?_
      refine hG _ _ _ _ _ _ _ _ _ _ _ ?_
      refine hG _ _ _ _ _ _ _ _ _ _ _ ?_
      refine hG _ _ _ _ _ _ _ _ _ _ _ ?_
      refine hG _ _ _ _ _ _ _ _ _ _ _ ?_
      exact k _ _ _ _ m_rval4.symm
    · refine ⟨241, Or.inr ⟨by decide, by decide, 125, rfl, rfl⟩, ?_⟩
      repeat refine hG _ _ _ _ _ _ _ _ _ _ _ ?_
      refine ⟨fun q => ?_, fun q => ?_⟩
      · refine hG _ _ _ _ _ _ _ _ _ _ _ ?_
        refine hG _ _ _ _ _ _ _ _ _ _ _ ?_
        refine hG _ _ _ _ _ _ _ _ _ _ _ ?_
        refine hG _ _ _ _ _ _ _ _ _ _ _ ?_
        refine hG _ _ _ _ _ _ _ _ _ _ _ ?_
        exact k _ _ _ _ (by rw [m_rval5, if_neg q])
      · refine hG _ _ _ _ _ _ _ _ _ _ _ ?_
        refine hG _ _ _ _ _ _ _ _ _ _ _ ?_
        refine hG _ _ _ _ _ _ _ _ _ _ _ ?_
        refine hG _ _ _ _ _ _ _ _ _ _ _ ?_
        refine hG _ _ _ _ _ _ _ _ _ _ _ ?_
        refine hG _ _ _ _ _ _ _ _ _ _ _ ?_
        exact k _ _ _ _ (by rw [m_rval5, if_pos q])
    · refine ⟨264, Or.inr ⟨by decide, by decide, 148, rfl, rfl⟩, ?_⟩
      refine hG _ _ _ _ _ _ _ _ _ _ _ ?_
      refine hG _ _ _ _ _ _ _ _ _ _ _ ?_
      refine hG _ _ _ _ _ _ _ _ _ _ _ ?_
      refine hG _ _ _ _ _ _ _ _ _ _ _ ?_
      refine hG _ _ _ _ _ _ _ _ _ _ _ ?_
      exact k _ _ _ _ m_rval6.symm
    · refine ⟨273, Or.inl ⟨Or.inr (by decide), rfl⟩, ?_⟩
      refine hG _ _ _ _ _ _ _ _ _ _ _ ?_
      refine hG _ _ _ _ _ _ _ _ _ _ _ ?_
      refine hG _ _ _ _ _ _ _ _ _ _ _ ?_
      refine hG _ _ _ _ _ _ _ _ _ _ _ ?_
      exact k _ _ _ _ m_rval7.symm
  have k77 : ∀ (o : Bool) (y8 : Int32), o = m_rgood w n → G (d + 2) n_X12_reckons 0 0 77 [(8, .int y8), (7, .int (m_ur w 25)), (6, .int (m_f3 w)), (0, .ref m), (1, .int (nI j)), (2, .int w), (3, .int a), (4, .int b), (5, .int (cond n 1 0))] [.int (cond o 1 0)] h 0 0 Q := by
    intro o y8 ho
    repeat refine hG _ _ _ _ _ _ _ _ _ _ _ ?_
    refine ⟨fun q => ?_, fun q => ?_⟩
    · have hg : m_rgood w n = true := by rw [← ho]; exact c01_t q
      have k := k112 hg
      repeat refine hG _ _ _ _ _ _ _ _ _ _ _ ?_
      refine ⟨fun q => ?_, fun q => ?_⟩
      · have hn := c01_0.mp q
        refine hG _ _ _ _ _ _ _ _ _ _ _ ?_
        refine hG _ _ _ _ _ _ _ _ _ _ _ ?_
        refine hG _ _ _ _ _ _ _ _ _ _ _ ?_
        exact k _ _ _ (by rw [m_rby, hn]; rfl)
      · have hn := c01_t q
        refine hG _ _ _ _ _ _ _ _ _ _ _ ?_
        refine hG _ _ _ _ _ _ _ _ _ _ _ ?_
        refine hG _ _ _ _ _ _ _ _ _ _ _ ?_
        refine hG _ _ _ _ _ _ _ _ _ _ _ ?_
        refine hG _ _ _ _ _ _ _ _ _ _ _ ?_
        refine hG _ _ _ _ _ _ _ _ _ _ _ ?_
        exact k _ _ _ (by rw [m_rby, hn]; rfl)
    · have hg : ¬ m_rgood w n = true := by rw [← ho, c01_0.mp q]; decide
      rw [m_reckons, if_neg hg] at hQ
      repeat refine hG _ _ _ _ _ _ _ _ _ _ _ ?_
      refine ⟨⟨_, hR.1⟩, 0, 0, by decide, by decide, rr_trap hG hR hj (fun h1 hR1 f1 => ?_)⟩
      repeat refine hG _ _ _ _ _ _ _ _ _ _ _ ?_
      exact ⟨by decide, by decide, hQ h1 hR1 f1⟩
  have kY : m_rgood w n = true → ∀ y8 : Int32, G (d + 2) n_X12_reckons 0 0 72 [(8, .int y8), (7, .int (m_ur w 25)), (6, .int (m_f3 w)), (0, .ref m), (1, .int (nI j)), (2, .int w), (3, .int a), (4, .int b), (5, .int (cond n 1 0))] [] h 0 0 Q := by
    intro e y8
    refine hG _ _ _ _ _ _ _ _ _ _ _ ?_
    refine hG _ _ _ _ _ _ _ _ _ _ _ ?_
    exact k77 true y8 e.symm
  have kN : m_rgood w n = false → ∀ y8 : Int32, G (d + 2) n_X12_reckons 0 0 76 [(8, .int y8), (7, .int (m_ur w 25)), (6, .int (m_f3 w)), (0, .ref m), (1, .int (nI j)), (2, .int w), (3, .int a), (4, .int b), (5, .int (cond n 1 0))] [] h 0 0 Q := by
    intro e y8
    refine hG _ _ _ _ _ _ _ _ _ _ _ ?_
    exact k77 false y8 e.symm
  have k32 : ∀ mv : Bool, mv = decide (m_f3 w = 1 ∨ m_f3 w = 5) → G (d + 2) n_X12_reckons 0 0 32 [(7, .int (m_ur w 25)), (6, .int (m_f3 w)), (0, .ref m), (1, .int (nI j)), (2, .int w), (3, .int a), (4, .int b), (5, .int (cond n 1 0))] [.int (cond mv 1 0)] h 0 0 Q := by
    intro mv hm
    have k44 : ¬ (n = true ∧ ¬ (m_f3 w = 1 ∨ m_f3 w = 5)) → G (d + 2) n_X12_reckons 0 0 44 [(8, .int (cond mv 1 0)), (7, .int (m_ur w 25)), (6, .int (m_f3 w)), (0, .ref m), (1, .int (nI j)), (2, .int w), (3, .int a), (4, .int b), (5, .int (cond n 1 0))] [] h 0 0 Q := by
      intro e0
      repeat refine hG _ _ _ _ _ _ _ _ _ _ _ ?_
      refine ⟨fun q => kY (decide_eq_true (Or.inr (Or.inl q))) _, fun q1 => ?_⟩
      repeat refine hG _ _ _ _ _ _ _ _ _ _ _ ?_
      refine ⟨fun q => kN (decide_eq_false (fun r => r.elim e0 (fun r => r.elim q1 (fun r => q r.1)))) _, fun q2 => ?_⟩
      repeat refine hG _ _ _ _ _ _ _ _ _ _ _ ?_
      refine ⟨fun q => kY (decide_eq_true (Or.inr (Or.inr ⟨q2, Or.inl q⟩))) _, fun q3 => ?_⟩
      repeat refine hG _ _ _ _ _ _ _ _ _ _ _ ?_
      refine ⟨fun q => kN (decide_eq_false (fun r => r.elim e0 (fun r => r.elim q1 (fun r => r.2.elim q3 (fun r => q r.1))))) _, fun q4 => ?_⟩
      repeat refine hG _ _ _ _ _ _ _ _ _ _ _ ?_
      refine ⟨fun q => kN (decide_eq_false (fun r => r.elim e0 (fun r => r.elim q1 (fun r => r.2.elim q3 (fun r => q (by rw [r.2]; rfl)))))) _, fun q => ?_⟩
      exact kY (decide_eq_true (Or.inr (Or.inr ⟨q2, Or.inr ⟨q4, c01_0.mp q⟩⟩))) _
    repeat refine hG _ _ _ _ _ _ _ _ _ _ _ ?_
    refine ⟨fun q => k44 (fun r => by rw [c01_0.mp q] at r; exact absurd r.1 (by decide)), fun q => ?_⟩
    have hn := c01_t q
    repeat refine hG _ _ _ _ _ _ _ _ _ _ _ ?_
    refine ⟨fun q => ?_, fun q => k44 (fun r => r.2 (of_decide_eq_true (hm.symm.trans (c01_t q))))⟩
    exact kY (decide_eq_true (Or.inl ⟨hn, of_decide_eq_false (hm.symm.trans (c01_0.mp q))⟩)) _
  repeat refine hG _ _ _ _ _ _ _ _ _ _ _ ?_
  refine ⟨fun q => ?_, fun q1 => ?_⟩
  · refine hG _ _ _ _ _ _ _ _ _ _ _ ?_
    refine hG _ _ _ _ _ _ _ _ _ _ _ ?_
    exact k32 true (decide_eq_true (Or.inl q)).symm
  · repeat refine hG _ _ _ _ _ _ _ _ _ _ _ ?_
    refine ⟨fun q => ?_, fun q => ?_⟩
    · refine hG _ _ _ _ _ _ _ _ _ _ _ ?_
      exact k32 false (decide_eq_false (fun r => r.elim q1 q)).symm
    · refine hG _ _ _ _ _ _ _ _ _ _ _ ?_
      refine hG _ _ _ _ _ _ _ _ _ _ _ ?_
      exact k32 true (decide_eq_true (Or.inr q)).symm
