def m_rdv (σ : Nat → Nat → Int32) (j q t : Nat) : Int32 := if t = 0 then σ 21 j else if t = 4 then σ 22 j else if t = 8 then (if q = 0 then -1 else σ 32 (16 * j)) else if t = 16 then σ 23 j else if t = 20 then σ 24 j else if t = 24 then σ 27 j else if t = 28 then σ 25 j else if t = 36 then (if σ 35 j = 0 then 0 else σ 34 (4 * j)) else if t = 40 then σ 26 j else 0
def m_rds (σ : Nat → Nat → Int32) (j q t : Nat) : Nat → Nat → Int32 := if t = 8 then (if q = 0 then σ else m_took σ j (q - 1)) else σ
theorem rr_readDevice {G : xG} {ro : xR} {sv : Nat → Value} (hG : x_Good G ro sv) {d m j q t : Nat} {ra : Nat → Nat} {σ : Nat → Nat → Int32} {τ : Nat → Nat → Int64} {h : xH} {Q : xQ} (hR : RepR m ra σ τ h) (hj : j < 4) (hq : σ 33 j = nI q) (hl : q ≤ 16) (ht : t ≤ 40) (h4 : t % 4 = 0) (hQ : ∀ h', RepR m ra (m_rds σ j q t) τ h' → RF m ra h h' → Q (some (.int (m_rdv σ j q t))) h') : G (d + 1) n_X12_readDevice 0 0 0 [(0, .ref m), (1, .int (nI j)), (2, .int (nI t))] [] h 0 0 Q := by
  have hin : vp_in (nI j) 4 := vp_in_nI hj (by decide)
  have hcl : (nI j).toNatClampNeg = j := nI_clamp (by omega)
  refine hG _ _ _ _ _ _ _ _ _ _ _ ?_
  refine hG _ _ _ _ _ _ _ _ _ _ _ ?_
  rcases (by omega : t = 0 ∨ t = 4 ∨ t = 8 ∨ t = 12 ∨ t = 16 ∨ t = 20 ∨ t = 24 ∨ t = 28 ∨ t = 32 ∨ t = 36 ∨ t = 40) with e | e | e | e | e | e | e | e | e | e | e <;> subst e
  · rw [m_rdv, if_pos rfl] at hQ
    rw [m_rds, if_neg (by decide)] at hQ
    refine ⟨84, by decide, ?_⟩
    repeat refine hG _ _ _ _ _ _ _ _ _ _ _ ?_
    refine ⟨_, _, hR.1, r_at (by decide), ?_⟩
    repeat refine hG _ _ _ _ _ _ _ _ _ _ _ ?_
    refine ⟨_, _, Or.inl ⟨_, hR.2.1 21 rfl, rfl⟩, hin, ?_⟩
    rw [hcl]
    repeat refine hG _ _ _ _ _ _ _ _ _ _ _ ?_
    exact ⟨rfl, by decide, by decide, hQ h hR RF.rf⟩
  · rw [m_rdv, if_neg (by decide), if_pos rfl] at hQ
    rw [m_rds, if_neg (by decide)] at hQ
    refine ⟨91, by decide, ?_⟩
    repeat refine hG _ _ _ _ _ _ _ _ _ _ _ ?_
    refine ⟨_, _, hR.1, r_at (by decide), ?_⟩
    repeat refine hG _ _ _ _ _ _ _ _ _ _ _ ?_
    refine ⟨_, _, Or.inl ⟨_, hR.2.1 22 rfl, rfl⟩, hin, ?_⟩
    rw [hcl]
    repeat refine hG _ _ _ _ _ _ _ _ _ _ _ ?_
    exact ⟨rfl, by decide, by decide, hQ h hR RF.rf⟩
  · rw [m_rdv, if_neg (by decide), if_neg (by decide), if_pos rfl] at hQ
    rw [m_rds, if_pos rfl] at hQ
    refine ⟨98, by decide, ?_⟩
    repeat refine hG _ _ _ _ _ _ _ _ _ _ _ ?_
    cases q with
    | zero =>
      rw [if_pos rfl, if_pos rfl] at hQ
      refine ⟨⟨_, hR.1⟩, 0, 0, by decide, by decide, rr_takeKey0 hG hR hj hq ?_⟩
      repeat refine hG _ _ _ _ _ _ _ _ _ _ _ ?_
      exact ⟨rfl, by decide, by decide, hQ h hR RF.rf⟩
    | succ q =>
      rw [if_neg (by omega), if_neg (by omega)] at hQ
      refine ⟨⟨_, hR.1⟩, 0, 0, by decide, by decide, rr_takeKey hG hR hj hq (by omega) (fun h1 hR1 f1 => ?_)⟩
      repeat refine hG _ _ _ _ _ _ _ _ _ _ _ ?_
      exact ⟨rfl, by decide, by decide, hQ h1 hR1 f1⟩
  · rw [m_rdv, if_neg (by decide), if_neg (by decide), if_neg (by decide), if_neg (by decide), if_neg (by decide), if_neg (by decide), if_neg (by decide), if_neg (by decide), if_neg (by decide)] at hQ
    rw [m_rds, if_neg (by decide)] at hQ
    refine ⟨161, by decide, ?_⟩
    repeat refine hG _ _ _ _ _ _ _ _ _ _ _ ?_
    exact ⟨rfl, by decide, by decide, hQ h hR RF.rf⟩
  · rw [m_rdv, if_neg (by decide), if_neg (by decide), if_neg (by decide), if_pos rfl] at hQ
    rw [m_rds, if_neg (by decide)] at hQ
    refine ⟨104, by decide, ?_⟩
    repeat refine hG _ _ _ _ _ _ _ _ _ _ _ ?_
    refine ⟨_, _, hR.1, r_at (by decide), ?_⟩
    repeat refine hG _ _ _ _ _ _ _ _ _ _ _ ?_
    refine ⟨_, _, Or.inl ⟨_, hR.2.1 23 rfl, rfl⟩, hin, ?_⟩
    rw [hcl]
    repeat refine hG _ _ _ _ _ _ _ _ _ _ _ ?_
    exact ⟨rfl, by decide, by decide, hQ h hR RF.rf⟩
  · rw [m_rdv, if_neg (by decide), if_neg (by decide), if_neg (by decide), if_neg (by decide), if_pos rfl] at hQ
    rw [m_rds, if_neg (by decide)] at hQ
    refine ⟨111, by decide, ?_⟩
    repeat refine hG _ _ _ _ _ _ _ _ _ _ _ ?_
    refine ⟨_, _, hR.1, r_at (by decide), ?_⟩
    repeat refine hG _ _ _ _ _ _ _ _ _ _ _ ?_
    refine ⟨_, _, Or.inl ⟨_, hR.2.1 24 rfl, rfl⟩, hin, ?_⟩
    rw [hcl]
    repeat refine hG _ _ _ _ _ _ _ _ _ _ _ ?_
    exact ⟨rfl, by decide, by decide, hQ h hR RF.rf⟩
  · rw [m_rdv, if_neg (by decide), if_neg (by decide), if_neg (by decide), if_neg (by decide), if_neg (by decide), if_pos rfl] at hQ
    rw [m_rds, if_neg (by decide)] at hQ
    refine ⟨118, by decide, ?_⟩
    repeat refine hG _ _ _ _ _ _ _ _ _ _ _ ?_
    refine ⟨_, _, hR.1, r_at (by decide), ?_⟩
    repeat refine hG _ _ _ _ _ _ _ _ _ _ _ ?_
    refine ⟨_, _, Or.inl ⟨_, hR.2.1 27 rfl, rfl⟩, hin, ?_⟩
    rw [hcl]
    repeat refine hG _ _ _ _ _ _ _ _ _ _ _ ?_
    exact ⟨rfl, by decide, by decide, hQ h hR RF.rf⟩
  · rw [m_rdv, if_neg (by decide), if_neg (by decide), if_neg (by decide), if_neg (by decide), if_neg (by decide), if_neg (by decide), if_pos rfl] at hQ
    rw [m_rds, if_neg (by decide)] at hQ
    refine ⟨125, by decide, ?_⟩
    repeat refine hG _ _ _ _ _ _ _ _ _ _ _ ?_
    refine ⟨_, _, hR.1, r_at (by decide), ?_⟩
    repeat refine hG _ _ _ _ _ _ _ _ _ _ _ ?_
    refine ⟨_, _, Or.inl ⟨_, hR.2.1 25 rfl, rfl⟩, hin, ?_⟩
    rw [hcl]
    repeat refine hG _ _ _ _ _ _ _ _ _ _ _ ?_
    exact ⟨rfl, by decide, by decide, hQ h hR RF.rf⟩
  · rw [m_rdv, if_neg (by decide), if_neg (by decide), if_neg (by decide), if_neg (by decide), if_neg (by decide), if_neg (by decide), if_neg (by decide), if_neg (by decide), if_neg (by decide)] at hQ
    rw [m_rds, if_neg (by decide)] at hQ
    refine ⟨161, by decide, ?_⟩
    repeat refine hG _ _ _ _ _ _ _ _ _ _ _ ?_
    exact ⟨rfl, by decide, by decide, hQ h hR RF.rf⟩
  · rw [m_rdv, if_neg (by decide), if_neg (by decide), if_neg (by decide), if_neg (by decide), if_neg (by decide), if_neg (by decide), if_neg (by decide), if_pos rfl] at hQ
    rw [m_rds, if_neg (by decide)] at hQ
    refine ⟨132, by decide, ?_⟩
    repeat refine hG _ _ _ _ _ _ _ _ _ _ _ ?_
    refine ⟨_, _, hR.1, r_at (by decide), ?_⟩
    repeat refine hG _ _ _ _ _ _ _ _ _ _ _ ?_
    refine ⟨_, _, Or.inl ⟨_, hR.2.1 35 rfl, rfl⟩, hin, ?_⟩
    rw [hcl]
    repeat refine hG _ _ _ _ _ _ _ _ _ _ _ ?_
    refine ⟨fun z => ?_, fun z => ?_⟩
    · rw [if_neg z] at hQ
      obtain ⟨i1, i2⟩ := ix_row (s := 4) (j := j) (i := 0) (n := 16) (by omega) (by decide)
      rw [show nI 4 * nI j + nI 0 = nI 4 * nI j from by rw [pk_mul, nI_add]; rfl] at i1 i2
      repeat refine hG _ _ _ _ _ _ _ _ _ _ _ ?_
      refine ⟨_, _, hR.1, r_at (by decide), ?_⟩
      repeat refine hG _ _ _ _ _ _ _ _ _ _ _ ?_
      refine ⟨_, _, Or.inl ⟨_, hR.2.1 34 rfl, rfl⟩, i1, ?_⟩
      rw [show ((4 : Int32) * nI j).toNatClampNeg = 4 * j from i2]
      repeat refine hG _ _ _ _ _ _ _ _ _ _ _ ?_
      exact ⟨rfl, by decide, by decide, hQ h hR RF.rf⟩
    · rw [if_pos z] at hQ
      repeat refine hG _ _ _ _ _ _ _ _ _ _ _ ?_
      exact ⟨rfl, by decide, by decide, hQ h hR RF.rf⟩
  · rw [m_rdv, if_neg (by decide), if_neg (by decide), if_neg (by decide), if_neg (by decide), if_neg (by decide), if_neg (by decide), if_neg (by decide), if_neg (by decide), if_pos rfl] at hQ
    rw [m_rds, if_neg (by decide)] at hQ
    refine ⟨154, by decide, ?_⟩
    repeat refine hG _ _ _ _ _ _ _ _ _ _ _ ?_
    refine ⟨_, _, hR.1, r_at (by decide), ?_⟩
    repeat refine hG _ _ _ _ _ _ _ _ _ _ _ ?_
    refine ⟨_, _, Or.inl ⟨_, hR.2.1 26 rfl, rfl⟩, hin, ?_⟩
    rw [hcl]
    repeat refine hG _ _ _ _ _ _ _ _ _ _ _ ?_
    exact ⟨rfl, by decide, by decide, hQ h hR RF.rf⟩
theorem m_inN {p s : Int32} {S n : Nat} (hs : s = nI S) (hS : S ≤ 4096) (hn : n ≤ S) (h0 : 0 ≤ p) (h1 : p ≤ s - nI n) : ∃ a, p = nI a ∧ a + n ≤ S := by
  obtain ⟨a, ha, e⟩ := nI_of (Int32.not_lt.mpr h0)
  have es : nI S - nI n = nI (S - n) := by
    have : nI S = nI (S - n) + nI n := by rw [nI_add]; congr 1; omega
    rw [this, Int32.add_sub_cancel]
  rw [hs, es, e] at h1
  have := (nI_leI ha (by omega)).mp h1
  exact ⟨a, e, by omega⟩
def m_outA (σ : Nat → Nat → Int32) (j : Nat) (w : Int32) : Int32 := σ 16 (32 * j + m_n5 (m_sr w 15)) + (m_sl (m_sr w 25) 5 ||| (m_sr w 7 &&& 31))
def m_isOut (σ : Nat → Nat → Int32) (j : Nat) : Bool := decide (0 ≤ σ 17 j ∧ σ 17 j ≤ σ 4 0 - 4) && decide ((m_word σ j (σ 17 j).toNatClampNeg &&& 127 = 35 ∧ m_f3 (m_word σ j (σ 17 j).toNatClampNeg) = 2) ∧ (m_outA σ j (m_word σ j (σ 17 j).toNatClampNeg) = 65548 ∨ m_outA σ j (m_word σ j (σ 17 j).toNatClampNeg) = 65560 ∨ m_outA σ j (m_word σ j (σ 17 j).toNatClampNeg) = 65568))
theorem rr_isOut {G : xG} {ro : xR} {sv : Nat → Value} (hG : x_Good G ro sv) {d m j S : Nat} {ra : Nat → Nat} {σ : Nat → Nat → Int32} {τ : Nat → Nat → Int64} {h : xH} {Q : xQ} (hR : RepR m ra σ τ h) (hj : j < 4) (hs : σ 4 0 = nI S) (hS : S ≤ 4096) (hS4 : 4 ≤ S) (hQ : Q (some (.int (cond (m_isOut σ j) 1 0))) h) : G (d + 2) n_X12_isOut 0 0 0 [(0, .ref m), (1, .int (nI j))] [] h 0 0 Q := by
  have hin : vp_in (nI j) 4 := vp_in_nI hj (by decide)
  have hcl : (nI j).toNatClampNeg = j := nI_clamp (by omega)
  repeat refine hG _ _ _ _ _ _ _ _ _ _ _ ?_
  refine ⟨_, _, hR.1, r_at (by decide), ?_⟩
  repeat refine hG _ _ _ _ _ _ _ _ _ _ _ ?_
  refine ⟨_, _, Or.inl ⟨_, hR.2.1 17 rfl, rfl⟩, hin, ?_⟩
  rw [hcl]
  repeat refine hG _ _ _ _ _ _ _ _ _ _ _ ?_
  refine ⟨⟨_, hR.1⟩, 0, 0, by decide, by decide, rr_isIn hG hR ?_⟩
  by_cases hp : 0 ≤ σ 17 j ∧ σ 17 j ≤ σ 4 0 - 4
  · rw [if_pos hp]
    obtain ⟨a, ea, la⟩ := m_inN (n := 4) hs hS hS4 hp.1 hp.2
    have eA : (σ 17 j).toNatClampNeg = a := by rw [ea]; exact nI_clamp (by omega)
    rw [m_isOut, decide_eq_true hp, Bool.true_and, eA] at hQ
    generalize hw : m_word σ j a = w at hQ
    repeat refine hG _ _ _ _ _ _ _ _ _ _ _ ?_
    refine ⟨fun _ => ?_, fun z => absurd z (by decide)⟩
    repeat refine hG _ _ _ _ _ _ _ _ _ _ _ ?_
    refine ⟨_, _, hR.1, r_at (by decide), ?_⟩
    repeat refine hG _ _ _ _ _ _ _ _ _ _ _ ?_
    refine ⟨_, _, Or.inl ⟨_, hR.2.1 17 rfl, rfl⟩, hin, ?_⟩
    rw [hcl, ea]
    repeat refine hG _ _ _ _ _ _ _ _ _ _ _ ?_
    refine ⟨⟨_, hR.1⟩, 0, 0, by decide, by decide, rr_word hG hR hj (by omega) ?_⟩
    rw [hw]
    have k48 : ¬ (w &&& 127 = 35 ∧ m_f3 w = 2) → G (d + 2) n_X12_isOut 0 0 48 [(2, .int w), (0, .ref m), (1, .int (nI j))] [] h 0 0 Q := by
      intro e
      rw [decide_eq_false (fun r => e r.1)] at hQ
      repeat refine hG _ _ _ _ _ _ _ _ _ _ _ ?_
      exact ⟨rfl, by decide, by decide, hQ⟩
    repeat refine hG _ _ _ _ _ _ _ _ _ _ _ ?_
    refine ⟨fun z => k48 (fun r => z r.1), fun z1 => ?_⟩
    repeat refine hG _ _ _ _ _ _ _ _ _ _ _ ?_
    refine ⟨fun z2 => ?_, fun z => k48 (fun r => z r.2)⟩
    refine hG _ _ _ _ _ _ _ _ _ _ _ ?_
    refine hG _ _ _ _ _ _ _ _ _ _ _ ?_
    refine hG _ _ _ _ _ _ _ _ _ _ _ ?_
    refine hG _ _ _ _ _ _ _ _ _ _ _ ?_
    refine hG _ _ _ _ _ _ _ _ _ _ _ ?_
    refine hG _ _ _ _ _ _ _ _ _ _ _ ?_
    refine hG _ _ _ _ _ _ _ _ _ _ _ ?_
    refine hG _ _ _ _ _ _ _ _ _ _ _ ?_
    rw [show w >>> ((15 : Int32) &&& 31) &&& 31 = nI (m_n5 (m_sr w 15)) from m_n5_e _]
    repeat refine hG _ _ _ _ _ _ _ _ _ _ _ ?_
    refine ⟨⟨_, hR.1⟩, 0, 0, by decide, by decide, rr_get hG hR hj (m_n5_lt _) ?_⟩
    have k99 : (m_outA σ j w = 65548 ∨ m_outA σ j w = 65560 ∨ m_outA σ j w = 65568) → G (d + 2) n_X12_isOut 0 0 99 [(3, .int (m_outA σ j w)), (2, .int w), (0, .ref m), (1, .int (nI j))] [] h 0 0 Q := by
      intro e
      rw [decide_eq_true (And.intro (And.intro z1 z2) e)] at hQ
      repeat refine hG _ _ _ _ _ _ _ _ _ _ _ ?_
      exact ⟨rfl, by decide, by decide, hQ⟩
    repeat refine hG _ _ _ _ _ _ _ _ _ _ _ ?_
    refine ⟨fun z => k99 (Or.inl z), fun y1 => ?_⟩
    repeat refine hG _ _ _ _ _ _ _ _ _ _ _ ?_
    refine ⟨fun z => k99 (Or.inr (Or.inl z)), fun y2 => ?_⟩
    repeat refine hG _ _ _ _ _ _ _ _ _ _ _ ?_
    refine ⟨fun y3 => ?_, fun z => k99 (Or.inr (Or.inr z))⟩
    rw [decide_eq_false (fun r => r.2.elim y1 (fun r => r.elim y2 y3))] at hQ
    repeat refine hG _ _ _ _ _ _ _ _ _ _ _ ?_
    exact ⟨rfl, by decide, by decide, hQ⟩
  · rw [if_neg hp]
    rw [m_isOut, decide_eq_false hp, Bool.false_and] at hQ
    repeat refine hG _ _ _ _ _ _ _ _ _ _ _ ?_
    refine ⟨fun z => absurd rfl z, fun _ => ?_⟩
    repeat refine hG _ _ _ _ _ _ _ _ _ _ _ ?_
    exact ⟨rfl, by decide, by decide, hQ⟩
