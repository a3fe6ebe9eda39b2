theorem c01_0 {b : Bool} : (cond b 1 0 : Int32) = 0 ↔ b = false := by cases b <;> decide
def m_late (σ : Nat → Nat → Int32) (j : Nat) : Bool := decide (¬ σ 22 j = 0 ∧ σ 22 j + -2147483648 ≤ σ 21 j + -2147483648)
def m_some (σ : Nat → Nat → Int32) (j : Nat) : Bool := decide (0 < σ 33 j ∨ 0 < σ 35 j ∨ σ 27 j = 2)
def m_pending (σ : Nat → Nat → Int32) (j : Nat) : Int32 := (cond (m_late σ j) 128 0) ||| (cond (m_some σ j) 2048 0)
theorem rr_pending {G : xG} {ro : xR} {sv : Nat → Value} (hG : x_Good G ro sv) {d m j : Nat} {ra : Nat → Nat} {σ : Nat → Nat → Int32} {τ : Nat → Nat → Int64} {h : xH} {Q : xQ} (hR : RepR m ra σ τ h) (hj : j < 4) (hQ : Q (some (.int (m_pending σ j))) h) : G d n_X12_pending 0 0 0 [(0, .ref m), (1, .int (nI j))] [] h 0 0 Q := by
  have hin : vp_in (nI j) 4 := vp_in_nI hj (by decide)
  have hcl : (nI j).toNatClampNeg = j := nI_clamp (by omega)
  have k70 : ∀ b c : Bool, Q (some (.int ((cond b 128 0) ||| (cond c 2048 0)))) h → G d n_X12_pending 0 0 70 [(3, .int (cond c 1 0)), (2, .int (cond b 1 0)), (0, .ref m), (1, .int (nI j))] [] h 0 0 Q := by
    intro b c hq
    have k81 : ∀ v : Int32, Q (some (.int (v ||| (cond c 2048 0)))) h → G d n_X12_pending 0 0 81 [(3, .int (cond c 1 0)), (2, .int (cond b 1 0)), (0, .ref m), (1, .int (nI j))] [.int v] h 0 0 Q := by
      intro v hv
      repeat refine hG _ _ _ _ _ _ _ _ _ _ _ ?_
      refine ⟨fun hc => ?_, fun hc => ?_⟩
      · have hc := c01_0.mp hc
        subst hc
        repeat refine hG _ _ _ _ _ _ _ _ _ _ _ ?_
        exact ⟨rfl, by decide, by decide, hv⟩
      · have hc : c = true := by cases c with
          | true => rfl
          | false => exact absurd rfl hc
        subst hc
        repeat refine hG _ _ _ _ _ _ _ _ _ _ _ ?_
        exact ⟨rfl, by decide, by decide, hv⟩
    repeat refine hG _ _ _ _ _ _ _ _ _ _ _ ?_
    refine ⟨fun hc => ?_, fun hc => ?_⟩
    · have hc := c01_0.mp hc
      subst hc
      refine hG _ _ _ _ _ _ _ _ _ _ _ ?_
      exact k81 0 hq
    · have hc : b = true := by cases b with
        | true => rfl
        | false => exact absurd rfl hc
      subst hc
      refine hG _ _ _ _ _ _ _ _ _ _ _ ?_
      refine hG _ _ _ _ _ _ _ _ _ _ _ ?_
      exact k81 128 hq
  have k36 : ∀ b : Bool, b = m_late σ j → G d n_X12_pending 0 0 36 [(2, .int (cond b 1 0)), (0, .ref m), (1, .int (nI j))] [] h 0 0 Q := by
    intro b hb
    subst hb
    have kT : m_some σ j = true → G d n_X12_pending 0 0 64 [(2, .int (cond (m_late σ j) 1 0)), (0, .ref m), (1, .int (nI j))] [] h 0 0 Q := by
      intro e
      refine hG _ _ _ _ _ _ _ _ _ _ _ ?_
      refine hG _ _ _ _ _ _ _ _ _ _ _ ?_
      refine hG _ _ _ _ _ _ _ _ _ _ _ ?_
      exact k70 _ true (by rw [m_pending, e] at hQ; exact hQ)
    repeat refine hG _ _ _ _ _ _ _ _ _ _ _ ?_
    refine ⟨_, _, hR.1, r_at (by decide), ?_⟩
    repeat refine hG _ _ _ _ _ _ _ _ _ _ _ ?_
    refine ⟨_, _, Or.inl ⟨_, hR.2.1 33 rfl, rfl⟩, hin, ?_⟩
    rw [hcl]
    repeat refine hG _ _ _ _ _ _ _ _ _ _ _ ?_
    refine ⟨fun hc => kT (decide_eq_true (Or.inl hc)), fun h1 => ?_⟩
    repeat refine hG _ _ _ _ _ _ _ _ _ _ _ ?_
    refine ⟨_, _, hR.1, r_at (by decide), ?_⟩
    repeat refine hG _ _ _ _ _ _ _ _ _ _ _ ?_
    refine ⟨_, _, Or.inl ⟨_, hR.2.1 35 rfl, rfl⟩, hin, ?_⟩
    rw [hcl]
    repeat refine hG _ _ _ _ _ _ _ _ _ _ _ ?_
    refine ⟨fun hc => kT (decide_eq_true (Or.inr (Or.inl hc))), fun h2 => ?_⟩
    repeat refine hG _ _ _ _ _ _ _ _ _ _ _ ?_
    refine ⟨_, _, hR.1, r_at (by decide), ?_⟩
    repeat refine hG _ _ _ _ _ _ _ _ _ _ _ ?_
    refine ⟨_, _, Or.inl ⟨_, hR.2.1 27 rfl, rfl⟩, hin, ?_⟩
    rw [hcl]
    repeat refine hG _ _ _ _ _ _ _ _ _ _ _ ?_
    refine ⟨fun h3 => ?_, fun hc => kT (decide_eq_true (Or.inr (Or.inr hc)))⟩
    have e : m_some σ j = false := decide_eq_false (fun q => q.elim h1 (fun q => q.elim h2 h3))
    refine hG _ _ _ _ _ _ _ _ _ _ _ ?_
    refine hG _ _ _ _ _ _ _ _ _ _ _ ?_
    exact k70 _ false (by rw [m_pending, e] at hQ; exact hQ)
  repeat refine hG _ _ _ _ _ _ _ _ _ _ _ ?_
  refine ⟨_, _, hR.1, r_at (by decide), ?_⟩
  repeat refine hG _ _ _ _ _ _ _ _ _ _ _ ?_
  refine ⟨_, _, Or.inl ⟨_, hR.2.1 22 rfl, rfl⟩, hin, ?_⟩
  rw [hcl]
  repeat refine hG _ _ _ _ _ _ _ _ _ _ _ ?_
  refine ⟨fun h1 => ?_, fun h1 => ?_⟩
  · refine hG _ _ _ _ _ _ _ _ _ _ _ ?_
    refine hG _ _ _ _ _ _ _ _ _ _ _ ?_
    exact k36 false (decide_eq_false (fun q => q.1 h1)).symm
  · repeat refine hG _ _ _ _ _ _ _ _ _ _ _ ?_
    refine ⟨_, _, hR.1, r_at (by decide), ?_⟩
    repeat refine hG _ _ _ _ _ _ _ _ _ _ _ ?_
    refine ⟨_, _, Or.inl ⟨_, hR.2.1 21 rfl, rfl⟩, hin, ?_⟩
    rw [hcl]
    repeat refine hG _ _ _ _ _ _ _ _ _ _ _ ?_
    refine ⟨_, _, hR.1, r_at (by decide), ?_⟩
    repeat refine hG _ _ _ _ _ _ _ _ _ _ _ ?_
    refine ⟨_, _, Or.inl ⟨_, hR.2.1 22 rfl, rfl⟩, hin, ?_⟩
    rw [hcl]
    repeat refine hG _ _ _ _ _ _ _ _ _ _ _ ?_
    refine ⟨fun h2 => ?_, fun h2 => ?_⟩
    · refine hG _ _ _ _ _ _ _ _ _ _ _ ?_
      refine hG _ _ _ _ _ _ _ _ _ _ _ ?_
      exact k36 false (decide_eq_false (fun q => Int32.not_lt.mpr q.2 h2)).symm
    · refine hG _ _ _ _ _ _ _ _ _ _ _ ?_
      refine hG _ _ _ _ _ _ _ _ _ _ _ ?_
      refine hG _ _ _ _ _ _ _ _ _ _ _ ?_
      exact k36 true (decide_eq_true ⟨h1, Int32.not_lt.mp h2⟩).symm
abbrev m_sr (w k : Int32) : Int32 := w >>> (k &&& 31)
abbrev m_sl (w k : Int32) : Int32 := w <<< (k &&& 31)
abbrev m_f3 (w : Int32) : Int32 := m_sr w 12 &&& 7
abbrev m_bto (w : Int32) : Int32 := m_sl (m_sr w 31) 12 ||| (m_sl w 4 &&& 2048) ||| (m_sr w 20 &&& 2016) ||| (m_sr w 7 &&& 30)
def m_bis (w a b : Int32) : Bool := if m_f3 w < 2 then decide (a = b) else if m_f3 w < 6 then decide (a < b) else decide (a + -2147483648 < b + -2147483648)
def m_bit (w a b : Int32) : Bool := if m_f3 w &&& 1 = 1 then !m_bis w a b else m_bis w a b
def m_branch (σ : Nat → Nat → Int32) (j : Nat) (w a b : Int32) : Nat → Nat → Int32 :=
  if m_f3 w = 2 ∨ m_f3 w = 3 then m_trap σ j 2 w
  else if m_bit w a b = false then u2 σ 17 j (σ 17 j + 4)
  else if (σ 17 j + m_bto w) &&& 3 = 0 then u2 σ 17 j (σ 17 j + m_bto w) else m_trap σ j 0 (σ 17 j + m_bto w)
theorem rr_branch {G : xG} {ro : xR} {sv : Nat → Value} (hG : x_Good G ro sv) {d m j : Nat} {ra : Nat → Nat} {σ : Nat → Nat → Int32} {τ : Nat → Nat → Int64} {h : xH} {Q : xQ} {w a b : Int32} (hR : RepR m ra σ τ h) (hj : j < 4) (hQ : ∀ h', RepR m ra (m_branch σ j w a b) τ h' → RF m ra h h' → Q none h') : G (d + 2) n_X12_branch 0 0 0 [(0, .ref m), (1, .int (nI j)), (2, .int w), (3, .int a), (4, .int b)] [] h 0 0 Q := by
  have hin : vp_in (nI j) 4 := vp_in_nI hj (by decide)
  have hcl : (nI j).toNatClampNeg = j := nI_clamp (by omega)
  have kT : (m_f3 w = 2 ∨ m_f3 w = 3) → G (d + 2) n_X12_branch 0 0 21 [(5, .int (m_f3 w)), (0, .ref m), (1, .int (nI j)), (2, .int w), (3, .int a), (4, .int b)] [] h 0 0 Q := by
    intro e
    rw [m_branch, if_pos e] at hQ
    repeat refine hG _ _ _ _ _ _ _ _ _ _ _ ?_
    refine ⟨⟨_, hR.1⟩, 0, 0, by decide, by decide, rr_trap hG hR hj (fun h1 hR1 f1 => ?_)⟩
    repeat refine hG _ _ _ _ _ _ _ _ _ _ _ ?_
    exact ⟨by decide, by decide, hQ h1 hR1 f1⟩
  repeat refine hG _ _ _ _ _ _ _ _ _ _ _ ?_
  refine ⟨fun h1 => kT (Or.inl h1), fun h1 => ?_⟩
  repeat refine hG _ _ _ _ _ _ _ _ _ _ _ ?_
  refine ⟨fun h2 => ?_, fun h2 => kT (Or.inr h2)⟩
  have hne : ¬ (m_f3 w = 2 ∨ m_f3 w = 3) := fun q => q.elim h1 h2
  rw [m_branch, if_neg hne] at hQ
  have k98 : ∀ o : Bool, o = m_bit w a b → G (d + 2) n_X12_branch 0 0 98 [(6, .int (cond o 1 0)), (5, .int (m_f3 w)), (0, .ref m), (1, .int (nI j)), (2, .int w), (3, .int a), (4, .int b)] [] h 0 0 Q := by
    intro o ho
    rw [← ho] at hQ
    repeat refine hG _ _ _ _ _ _ _ _ _ _ _ ?_
    refine ⟨_, _, hR.1, r_at (by decide), ?_⟩
    repeat refine hG _ _ _ _ _ _ _ _ _ _ _ ?_
    refine ⟨_, _, Or.inl ⟨_, hR.2.1 17 rfl, rfl⟩, hin, ?_⟩
    rw [hcl]
    repeat refine hG _ _ _ _ _ _ _ _ _ _ _ ?_
    refine ⟨fun hc => ?_, fun hc => ?_⟩
    · have ho : o = true := by cases o with
        | true => rfl
        | false => exact absurd rfl hc
      subst ho
      rw [if_neg (by decide)] at hQ
      repeat refine hG _ _ _ _ _ _ _ _ _ _ _ ?_
      refine ⟨fun hc => ?_, fun hc => ?_⟩
      · rw [if_pos hc] at hQ
        repeat refine hG _ _ _ _ _ _ _ _ _ _ _ ?_
        refine ⟨_, _, hR.1, r_at (by decide), ?_⟩
        repeat refine hG _ _ _ _ _ _ _ _ _ _ _ ?_
        refine ⟨_, _, _, hR.2.1 17 rfl, rfl, hin, ?_⟩
        rintro h2 e2
        rw [hcl] at e2
        obtain ⟨q1, q2⟩ := r_seti (K := 17) hR rfl rfl e2
        repeat refine hG _ _ _ _ _ _ _ _ _ _ _ ?_
        exact ⟨by decide, by decide, hQ h2 q1 q2⟩
      · rw [if_neg hc] at hQ
        repeat refine hG _ _ _ _ _ _ _ _ _ _ _ ?_
        refine ⟨⟨_, hR.1⟩, 0, 0, by decide, by decide, rr_trap hG hR hj (fun h1 hR1 f1 => ?_)⟩
        repeat refine hG _ _ _ _ _ _ _ _ _ _ _ ?_
        exact ⟨by decide, by decide, hQ h1 hR1 f1⟩
    · have ho : o = false := c01_0.mp hc
      subst ho
      rw [if_pos rfl] at hQ
      repeat refine hG _ _ _ _ _ _ _ _ _ _ _ ?_
      refine ⟨_, _, hR.1, r_at (by decide), ?_⟩
      repeat refine hG _ _ _ _ _ _ _ _ _ _ _ ?_
      refine ⟨_, _, Or.inl ⟨_, hR.2.1 17 rfl, rfl⟩, hin, ?_⟩
      rw [hcl]
      repeat refine hG _ _ _ _ _ _ _ _ _ _ _ ?_
      refine ⟨_, _, _, hR.2.1 17 rfl, rfl, hin, ?_⟩
      rintro h2 e2
      rw [hcl] at e2
      obtain ⟨q1, q2⟩ := r_seti (K := 17) hR rfl rfl e2
      repeat refine hG _ _ _ _ _ _ _ _ _ _ _ ?_
      exact ⟨by decide, by decide, hQ h2 q1 q2⟩
  have k76 : ∀ o : Bool, o = m_bis w a b → G (d + 2) n_X12_branch 0 0 76 [(5, .int (m_f3 w)), (0, .ref m), (1, .int (nI j)), (2, .int w), (3, .int a), (4, .int b)] [.int (cond o 1 0)] h 0 0 Q := by
    intro o ho
    repeat refine hG _ _ _ _ _ _ _ _ _ _ _ ?_
    refine ⟨fun hc => ?_, fun hc => ?_⟩
    · exact k98 o (by rw [m_bit, if_neg hc, ho])
    · have hc : m_f3 w &&& 1 = 1 := hc
      have hk := k98 (!o) (by rw [m_bit, if_pos hc, ho])
      repeat refine hG _ _ _ _ _ _ _ _ _ _ _ ?_
      refine ⟨fun q => ?_, fun q => ?_⟩
      · have ho : o = true := by cases o with
          | true => rfl
          | false => exact absurd rfl q
        subst ho
        refine hG _ _ _ _ _ _ _ _ _ _ _ ?_
        refine hG _ _ _ _ _ _ _ _ _ _ _ ?_
        exact hk
      · have ho : o = false := c01_0.mp q
        subst ho
        refine hG _ _ _ _ _ _ _ _ _ _ _ ?_
        refine hG _ _ _ _ _ _ _ _ _ _ _ ?_
        refine hG _ _ _ _ _ _ _ _ _ _ _ ?_
        exact hk
  repeat refine hG _ _ _ _ _ _ _ _ _ _ _ ?_
  refine ⟨fun h3 => ?_, fun h3 => ?_⟩
  · have h3 : ¬ m_f3 w < 2 := Int32.not_lt.mpr h3
    repeat refine hG _ _ _ _ _ _ _ _ _ _ _ ?_
    refine ⟨fun h4 => ?_, fun h4 => ?_⟩
    · have h4 : ¬ m_f3 w < 6 := Int32.not_lt.mpr h4
      repeat refine hG _ _ _ _ _ _ _ _ _ _ _ ?_
      refine ⟨0, 0, by decide, by decide, rr_isBelow hG ?_⟩
      have hk := k76 (decide (a + -2147483648 < b + -2147483648)) (by rw [m_bis, if_neg h3, if_neg h4])
      rw [Bool.cond_decide] at hk
      exact hk
    · have h4 : m_f3 w < 6 := Int32.not_le.mp h4
      repeat refine hG _ _ _ _ _ _ _ _ _ _ _ ?_
      refine ⟨fun q => ?_, fun q => ?_⟩
      · refine hG _ _ _ _ _ _ _ _ _ _ _ ?_
        refine hG _ _ _ _ _ _ _ _ _ _ _ ?_
        exact k76 false (by rw [m_bis, if_neg h3, if_pos h4, decide_eq_false (Int32.not_lt.mpr q)])
      · refine hG _ _ _ _ _ _ _ _ _ _ _ ?_
        refine hG _ _ _ _ _ _ _ _ _ _ _ ?_
        exact k76 true (by rw [m_bis, if_neg h3, if_pos h4, decide_eq_true (Int32.not_le.mp q)])
  · have h3 : m_f3 w < 2 := Int32.not_le.mp h3
    repeat refine hG _ _ _ _ _ _ _ _ _ _ _ ?_
    refine ⟨fun q => ?_, fun q => ?_⟩
    · refine hG _ _ _ _ _ _ _ _ _ _ _ ?_
      refine hG _ _ _ _ _ _ _ _ _ _ _ ?_
      exact k76 false (by rw [m_bis, if_pos h3, decide_eq_false q])
    · refine hG _ _ _ _ _ _ _ _ _ _ _ ?_
      refine hG _ _ _ _ _ _ _ _ _ _ _ ?_
      exact k76 true (by rw [m_bis, if_pos h3, decide_eq_true q])
