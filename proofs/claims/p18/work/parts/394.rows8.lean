def m_askl (σ : Nat → Nat → Int32) (j q A : Nat) : Nat → Nat → Nat → Int32
  | 0 => σ
  | i + 1 => u2 (u2 (m_askl σ j q A i) 31 (64 * j + i) (m_askl σ j q A i 15 (4096 * j + A + i)).toInt8.toInt32) 43 (64 * (128 * j + q) + i) (u2 (m_askl σ j q A i) 31 (64 * j + i) (m_askl σ j q A i 15 (4096 * j + A + i)).toInt8.toInt32 31 (64 * j + i)).toInt8.toInt32
theorem m_askl_ne {σ : Nat → Nat → Int32} {j q A K : Nat} (h1 : K ≠ 31) (h2 : K ≠ 43) : ∀ i, m_askl σ j q A i K = σ K
  | 0 => rfl
  | i + 1 => by rw [m_askl, u2_ne h2, u2_ne h1, m_askl_ne h1 h2 i]
def m_agood (σ : Nat → Nat → Int32) (j : Nat) (v : Int32) : Bool := decide ((v = 1 ∨ v = 2) ∧ ¬ σ 27 j = 1 ∧ 0 ≤ σ 23 j ∧ σ 23 j < 8 ∧ (0 ≤ σ 24 j ∧ σ 24 j ≤ σ 4 0 - 64))
def m_ask0 (σ : Nat → Nat → Int32) (j : Nat) (v : Int32) : Nat → Nat → Int32 := u2 (u2 (u2 (u2 σ 27 j 1) 28 j v) 29 j (σ 23 j)) 30 j (σ 24 j)
theorem m_ask0_ne {σ : Nat → Nat → Int32} {j : Nat} {v : Int32} {K : Nat} (h1 : K ≠ 27) (h2 : K ≠ 28) (h3 : K ≠ 29) (h4 : K ≠ 30) : m_ask0 σ j v K = σ K := by rw [m_ask0, u2_ne h4, u2_ne h3, u2_ne h2, u2_ne h1]
def m_asks (σ : Nat → Nat → Int32) (j q : Nat) (v : Int32) : Nat → Nat → Int32 :=
  if v = 0 then (if σ 27 j = 2 then u2 σ 27 j 0 else σ)
  else if m_agood σ j v = true then m_puts (m_askl (m_ask0 σ j v) j q (σ 24 j).toNatClampNeg 64) j (128 * j + q) 2 v (σ 23 j)
  else σ
theorem rr_asks {G : xG} {ro : xR} {sv : Nat → Value} (hG : x_Good G ro sv) {d m j q S : Nat} {ra : Nat → Nat} {σ : Nat → Nat → Int32} {τ : Nat → Nat → Int64} {h : xH} {Q : xQ} {v : Int32} (hR : RepR m ra σ τ h) (hj : j < 4) (hq : σ 38 j = nI q) (hl : q < 128) (hs : σ 4 0 = nI S) (hS : S ≤ 4096) (hS4 : 64 ≤ S) (hQ : ∀ h', RepR m ra (m_asks σ j q v) τ h' → RF m ra h h' → Q none h') : G (d + 1) n_X12_asks 0 0 0 [(0, .ref m), (1, .int (nI j)), (2, .int v)] [] h 0 0 Q := by
  have hin : vp_in (nI j) 4 := vp_in_nI hj (by decide)
  have hcl : (nI j).toNatClampNeg = j := nI_clamp (by omega)
  repeat refine hG _ _ _ _ _ _ _ _ _ _ _ ?_
  refine ⟨fun v0 => ?_, fun v0 => ?_⟩
  · have k82 : ∀ o : Bool, o = m_agood σ j v → G (d + 1) n_X12_asks 0 0 82 [(0, .ref m), (1, .int (nI j)), (2, .int v)] [.int (cond o 1 0)] h 0 0 Q := by
      intro o ho
      cases o with
      | false =>
        rw [m_asks, if_neg v0, if_neg (by rw [← ho]; decide)] at hQ
        repeat refine hG _ _ _ _ _ _ _ _ _ _ _ ?_
        refine ⟨fun z => absurd rfl z, fun _ => ?_⟩
        repeat refine hG _ _ _ _ _ _ _ _ _ _ _ ?_
        exact ⟨by decide, by decide, hQ h hR RF.rf⟩
      | true =>
        obtain ⟨g1, g2, g3, g4, g5⟩ := of_decide_eq_true ho.symm
        obtain ⟨A, eA, lA⟩ := m_inN (n := 64) hs hS hS4 g5.1 g5.2
        have cA : (σ 24 j).toNatClampNeg = A := by rw [eA]; exact nI_clamp (by omega)
        rw [m_asks, if_neg v0, if_pos ho.symm, cA] at hQ
        have loop : ∀ (r i : Nat) (hc : xH), i + r = 64 → RepR m ra (m_askl (m_ask0 σ j v) j q A i) τ hc → RF m ra h hc → G (d + 1) n_X12_asks 0 0 129 [(4, .int (nI i)), (3, .int 1), (0, .ref m), (1, .int (nI j)), (2, .int v)] [] hc 0 0 Q := by
          intro r
          induction r with
          | zero =>
            intro i hc hi hRc fc
            have hi : i = 64 := by omega
            subst hi
            repeat refine hG _ _ _ _ _ _ _ _ _ _ _ ?_
            refine ⟨fun _ => ?_, fun z => absurd (by decide) z⟩
            repeat refine hG _ _ _ _ _ _ _ _ _ _ _ ?_
            refine ⟨_, _, hRc.1, r_at (by decide), ?_⟩
            repeat refine hG _ _ _ _ _ _ _ _ _ _ _ ?_
            refine ⟨_, _, Or.inl ⟨_, hRc.2.1 23 rfl, rfl⟩, hin, ?_⟩
            rw [hcl, m_askl_ne (by decide) (by decide), m_ask0_ne (by decide) (by decide) (by decide) (by decide)]
            repeat refine hG _ _ _ _ _ _ _ _ _ _ _ ?_
            refine ⟨⟨_, hRc.1⟩, 0, 0, by decide, by decide, rr_puts hG (q := q) hRc hj (by rw [m_askl_ne (by decide) (by decide), m_ask0_ne (by decide) (by decide) (by decide) (by decide)]; exact hq) hl (fun h1 hR1 f1 => ?_)⟩
            repeat refine hG _ _ _ _ _ _ _ _ _ _ _ ?_
            exact ⟨by decide, by decide, hQ h1 hR1 (fc.tr f1)⟩
          | succ r ih =>
            intro i hc hi hRc fc
            obtain ⟨i1, i2⟩ := ix_row (s := 64) (j := j) (i := i) (n := 256) (by omega) (by decide)
            obtain ⟨i3, i4⟩ := ix_row (s := 4096) (j := j) (i := A + i) (n := 16384) (by omega) (by decide)
            rw [← nI_add A i, ← Int32.add_assoc] at i3 i4
            obtain ⟨i5, i6⟩ := ix_row (s := 64) (j := 128 * j + q) (i := i) (n := 32768) (by omega) (by decide)
            rw [← nI_add, ← pk_mul] at i5 i6
            repeat refine hG _ _ _ _ _ _ _ _ _ _ _ ?_
            refine ⟨fun z => absurd z (nI_ge (b := 64) (by omega) (by decide)), fun _ => ?_⟩
            repeat refine hG _ _ _ _ _ _ _ _ _ _ _ ?_
            refine ⟨_, _, hRc.1, r_at (by decide), ?_⟩
            repeat refine hG _ _ _ _ _ _ _ _ _ _ _ ?_
            refine ⟨_, _, hRc.1, r_at (by decide), ?_⟩
            repeat refine hG _ _ _ _ _ _ _ _ _ _ _ ?_
            refine ⟨_, _, hRc.1, r_at (by decide), ?_⟩
            repeat refine hG _ _ _ _ _ _ _ _ _ _ _ ?_
            refine ⟨_, _, Or.inl ⟨_, hRc.2.1 24 rfl, rfl⟩, hin, ?_⟩
            rw [hcl, m_askl_ne (K := 24) (by decide) (by decide), m_ask0_ne (K := 24) (by decide) (by decide) (by decide) (by decide), eA]
            repeat refine hG _ _ _ _ _ _ _ _ _ _ _ ?_
            refine ⟨_, _, _, hRc.2.1 15 rfl, Or.inl rfl, i3, ?_⟩
            rw [show ((4096 : Int32) * nI j + nI A + nI i).toNatClampNeg = 4096 * j + A + i from i4.trans (by omega)]
            repeat refine hG _ _ _ _ _ _ _ _ _ _ _ ?_
            refine ⟨_, _, _, .byte, hRc.2.1 31 rfl, rfl, Or.inl rfl, i1, ?_⟩
            rintro h1 e1
            have e1 : h1 = x_up hc (ra 31) (.inl (r_ty 31, r_len 31, .inl (upd (m_askl (m_ask0 σ j v) j q A i 31) (nI 64 * nI j + nI i).toNatClampNeg (vp_nar .byte (m_askl (m_ask0 σ j v) j q A i 15 (4096 * j + A + i)))))) := e1
            rw [i2, vp_nar_byte] at e1
            obtain ⟨hR1, f1⟩ := r_seti (K := 31) hRc rfl rfl e1
            repeat refine hG _ _ _ _ _ _ _ _ _ _ _ ?_
            refine ⟨_, _, hR1.1, r_at (by decide), ?_⟩
            repeat refine hG _ _ _ _ _ _ _ _ _ _ _ ?_
            refine ⟨⟨_, hR1.1⟩, 0, 0, by decide, by decide, rr_slotOf hG hR1 hj ?_⟩
            rw [u2_ne (by decide), m_askl_ne (K := 38) (by decide) (by decide), m_ask0_ne (K := 38) (by decide) (by decide) (by decide) (by decide), hq]
            repeat refine hG _ _ _ _ _ _ _ _ _ _ _ ?_
            refine ⟨_, _, hR1.1, r_at (by decide), ?_⟩
            repeat refine hG _ _ _ _ _ _ _ _ _ _ _ ?_
            refine ⟨_, _, _, hR1.2.1 31 rfl, Or.inl rfl, i1, ?_⟩
            rw [show ((64 : Int32) * nI j + nI i).toNatClampNeg = 64 * j + i from i2]
            repeat refine hG _ _ _ _ _ _ _ _ _ _ _ ?_
            refine ⟨_, _, _, .byte, hR1.2.1 43 rfl, rfl, Or.inl rfl, i5, ?_⟩
            rintro h2 e2
            have e2 : h2 = x_up h1 (ra 43) (.inl (r_ty 43, r_len 43, .inl (upd (u2 (m_askl (m_ask0 σ j v) j q A i) 31 (64 * j + i) (m_askl (m_ask0 σ j v) j q A i 15 (4096 * j + A + i)).toInt8.toInt32 43) (nI 64 * (nI 128 * nI j + nI q) + nI i).toNatClampNeg (vp_nar .byte (u2 (m_askl (m_ask0 σ j v) j q A i) 31 (64 * j + i) (m_askl (m_ask0 σ j v) j q A i 15 (4096 * j + A + i)).toInt8.toInt32 31 (64 * j + i)))))) := e2
            rw [i6, vp_nar_byte] at e2
            obtain ⟨hR2, f2⟩ := r_seti (K := 43) hR1 rfl rfl e2
            have k := ih (i + 1) h2 (by omega) hR2 (fc.tr (f1.tr f2))
            rw [nI_succ] at k
            refine hG _ _ _ _ _ _ _ _ _ _ _ ?_
            refine hG _ _ _ _ _ _ _ _ _ _ _ ?_
            exact k
        repeat refine hG _ _ _ _ _ _ _ _ _ _ _ ?_
        refine ⟨fun _ => ?_, fun z => absurd z (by decide)⟩
        repeat refine hG _ _ _ _ _ _ _ _ _ _ _ ?_
        refine ⟨_, _, hR.1, r_at (by decide), ?_⟩
        repeat refine hG _ _ _ _ _ _ _ _ _ _ _ ?_
        refine ⟨_, _, _, hR.2.1 27 rfl, rfl, hin, ?_⟩
        rintro h1 e1
        rw [hcl] at e1
        obtain ⟨hR1, f1⟩ := r_seti (K := 27) hR rfl rfl e1
        repeat refine hG _ _ _ _ _ _ _ _ _ _ _ ?_
        refine ⟨_, _, hR1.1, r_at (by decide), ?_⟩
        repeat refine hG _ _ _ _ _ _ _ _ _ _ _ ?_
        refine ⟨_, _, _, hR1.2.1 28 rfl, rfl, hin, ?_⟩
        rintro h2 e2
        rw [hcl] at e2
        obtain ⟨hR2, f2⟩ := r_seti (K := 28) hR1 rfl rfl e2
        repeat refine hG _ _ _ _ _ _ _ _ _ _ _ ?_
        refine ⟨_, _, hR2.1, r_at (by decide), ?_⟩
        repeat refine hG _ _ _ _ _ _ _ _ _ _ _ ?_
        refine ⟨_, _, hR2.1, r_at (by decide), ?_⟩
        repeat refine hG _ _ _ _ _ _ _ _ _ _ _ ?_
        refine ⟨_, _, Or.inl ⟨_, hR2.2.1 23 rfl, rfl⟩, hin, ?_⟩
        rw [hcl, u2_ne (by decide), u2_ne (by decide)]
        repeat refine hG _ _ _ _ _ _ _ _ _ _ _ ?_
        refine ⟨_, _, _, hR2.2.1 29 rfl, rfl, hin, ?_⟩
        rintro h3 e3
        rw [hcl] at e3
        obtain ⟨hR3, f3⟩ := r_seti (K := 29) hR2 rfl rfl e3
        repeat refine hG _ _ _ _ _ _ _ _ _ _ _ ?_
        refine ⟨_, _, hR3.1, r_at (by decide), ?_⟩
        repeat refine hG _ _ _ _ _ _ _ _ _ _ _ ?_
        refine ⟨_, _, hR3.1, r_at (by decide), ?_⟩
        repeat refine hG _ _ _ _ _ _ _ _ _ _ _ ?_
        refine ⟨_, _, Or.inl ⟨_, hR3.2.1 24 rfl, rfl⟩, hin, ?_⟩
        rw [hcl, u2_ne (by decide), u2_ne (by decide), u2_ne (by decide)]
        repeat refine hG _ _ _ _ _ _ _ _ _ _ _ ?_
        refine ⟨_, _, _, hR3.2.1 30 rfl, rfl, hin, ?_⟩
        rintro h4 e4
        rw [hcl] at e4
        obtain ⟨hR4, f4⟩ := r_seti (K := 30) hR3 rfl rfl e4
        refine hG _ _ _ _ _ _ _ _ _ _ _ ?_
        refine hG _ _ _ _ _ _ _ _ _ _ _ ?_
        exact loop 64 0 h4 (by omega) hR4 (f1.tr (f2.tr (f3.tr f4)))
    have kN : m_agood σ j v = false → G (d + 1) n_X12_asks 0 0 81 [(0, .ref m), (1, .int (nI j)), (2, .int v)] [] h 0 0 Q := by
      intro e
      refine hG _ _ _ _ _ _ _ _ _ _ _ ?_
      exact k82 false e.symm
    have k32 : (v = 1 ∨ v = 2) → G (d + 1) n_X12_asks 0 0 32 [(0, .ref m), (1, .int (nI j)), (2, .int v)] [] h 0 0 Q := by
      intro z1
      repeat refine hG _ _ _ _ _ _ _ _ _ _ _ ?_
      refine ⟨_, _, hR.1, r_at (by decide), ?_⟩
      repeat refine hG _ _ _ _ _ _ _ _ _ _ _ ?_
      refine ⟨_, _, Or.inl ⟨_, hR.2.1 27 rfl, rfl⟩, hin, ?_⟩
      rw [hcl]
      repeat refine hG _ _ _ _ _ _ _ _ _ _ _ ?_
      refine ⟨fun z => kN (decide_eq_false (fun r => r.2.1 z)), fun z2 => ?_⟩
      repeat refine hG _ _ _ _ _ _ _ _ _ _ _ ?_
      refine ⟨_, _, hR.1, r_at (by decide), ?_⟩
      repeat refine hG _ _ _ _ _ _ _ _ _ _ _ ?_
      refine ⟨_, _, Or.inl ⟨_, hR.2.1 23 rfl, rfl⟩, hin, ?_⟩
      rw [hcl]
      repeat refine hG _ _ _ _ _ _ _ _ _ _ _ ?_
      refine ⟨fun z => kN (decide_eq_false (fun r => Int32.not_lt.mpr r.2.2.1 z)), fun z3 => ?_⟩
      repeat refine hG _ _ _ _ _ _ _ _ _ _ _ ?_
      refine ⟨_, _, hR.1, r_at (by decide), ?_⟩
      repeat refine hG _ _ _ _ _ _ _ _ _ _ _ ?_
      refine ⟨_, _, Or.inl ⟨_, hR.2.1 23 rfl, rfl⟩, hin, ?_⟩
      rw [hcl]
      repeat refine hG _ _ _ _ _ _ _ _ _ _ _ ?_
      refine ⟨fun z => kN (decide_eq_false (fun r => Int32.not_lt.mpr z r.2.2.2.1)), fun z4 => ?_⟩
      repeat refine hG _ _ _ _ _ _ _ _ _ _ _ ?_
      refine ⟨_, _, hR.1, r_at (by decide), ?_⟩
      repeat refine hG _ _ _ _ _ _ _ _ _ _ _ ?_
      refine ⟨_, _, Or.inl ⟨_, hR.2.1 24 rfl, rfl⟩, hin, ?_⟩
      rw [hcl]
      repeat refine hG _ _ _ _ _ _ _ _ _ _ _ ?_
      refine ⟨⟨_, hR.1⟩, 0, 0, by decide, by decide, rr_isIn hG hR ?_⟩
      by_cases hi : 0 ≤ σ 24 j ∧ σ 24 j ≤ σ 4 0 - 64
      · rw [if_pos hi]
        repeat refine hG _ _ _ _ _ _ _ _ _ _ _ ?_
        refine ⟨fun z => absurd z (by decide), fun _ => ?_⟩
        refine hG _ _ _ _ _ _ _ _ _ _ _ ?_
        refine hG _ _ _ _ _ _ _ _ _ _ _ ?_
        exact k82 true (decide_eq_true ⟨z1, z2, Int32.not_lt.mp z3, Int32.not_le.mp z4, hi⟩).symm
      · rw [if_neg hi]
        repeat refine hG _ _ _ _ _ _ _ _ _ _ _ ?_
        exact ⟨fun _ => kN (decide_eq_false (fun r => hi r.2.2.2.2)), fun z => absurd rfl z⟩
    repeat refine hG _ _ _ _ _ _ _ _ _ _ _ ?_
    refine ⟨fun z => k32 (Or.inl z), fun z1 => ?_⟩
    repeat refine hG _ _ _ _ _ _ _ _ _ _ _ ?_
    exact ⟨fun z => kN (decide_eq_false (fun r => r.1.elim z1 z)), fun z => k32 (Or.inr z)⟩
  · rw [m_asks, if_pos v0] at hQ
    repeat refine hG _ _ _ _ _ _ _ _ _ _ _ ?_
    refine ⟨_, _, hR.1, r_at (by decide), ?_⟩
    repeat refine hG _ _ _ _ _ _ _ _ _ _ _ ?_
    refine ⟨_, _, Or.inl ⟨_, hR.2.1 27 rfl, rfl⟩, hin, ?_⟩
    rw [hcl]
    repeat refine hG _ _ _ _ _ _ _ _ _ _ _ ?_
    refine ⟨fun z => ?_, fun z => ?_⟩
    · rw [if_neg z] at hQ
      repeat refine hG _ _ _ _ _ _ _ _ _ _ _ ?_
      exact ⟨by decide, by decide, hQ h hR RF.rf⟩
    · rw [if_pos z] at hQ
      repeat refine hG _ _ _ _ _ _ _ _ _ _ _ ?_
      refine ⟨_, _, hR.1, r_at (by decide), ?_⟩
      repeat refine hG _ _ _ _ _ _ _ _ _ _ _ ?_
      refine ⟨_, _, _, hR.2.1 27 rfl, rfl, hin, ?_⟩
      rintro h1 e1
      rw [hcl] at e1
      obtain ⟨hR1, f1⟩ := r_seti (K := 27) hR rfl rfl e1
      repeat refine hG _ _ _ _ _ _ _ _ _ _ _ ?_
      exact ⟨by decide, by decide, hQ h1 hR1 f1⟩
