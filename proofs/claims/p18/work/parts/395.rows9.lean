theorem m_write_ne {σ : Nat → Nat → Int32} {j a K : Nat} {v : Int32} (h1 : K ≠ 15) (h2 : K ≠ 63) : m_write σ j a v K = σ K := by
  rw [m_write]
  split
  · rw [u2_ne h2, u2_ne h1]
  · rw [u2_ne h1]
def m_recw (σ : Nat → Nat → Int32) (j A : Nat) : Nat → Nat → Nat → Int32
  | 0 => σ
  | i + 1 => m_write (m_recw σ j A i) j (A + i) (m_recw σ j A i 36 (128 * j + i))
theorem m_recw_ne {σ : Nat → Nat → Int32} {j A K : Nat} (h1 : K ≠ 15) (h2 : K ≠ 63) : ∀ i, m_recw σ j A i K = σ K
  | 0 => rfl
  | i + 1 => by rw [m_recw, m_write_ne h1 h2, m_recw_ne h1 h2 i]
def m_recp (σ : Nat → Nat → Int32) (j i : Nat) : Nat → Nat → Nat → Int32
  | 0 => σ
  | k + 1 => u2 (m_recp σ j i k) 36 (128 * j + 32 * i + k) (m_recp σ j i k 36 (128 * j + 32 * i + 32 + k)).toInt8.toInt32
theorem m_recp_ne {σ : Nat → Nat → Int32} {j i K : Nat} (h1 : K ≠ 36) : ∀ k, m_recp σ j i k K = σ K
  | 0 => rfl
  | k + 1 => by rw [m_recp, u2_ne h1, m_recp_ne h1 k]
def m_recs (σ : Nat → Nat → Int32) (j : Nat) : Nat → Nat → Nat → Int32
  | 0 => σ
  | i + 1 => m_recp (u2 (m_recs σ j i) 34 (4 * j + i) (m_recs σ j i 34 (4 * j + i + 1))) j i 32
theorem m_recs_ne {σ : Nat → Nat → Int32} {j K : Nat} (h1 : K ≠ 34) (h2 : K ≠ 36) : ∀ i, m_recs σ j i K = σ K
  | 0 => rfl
  | i + 1 => by rw [m_recs, m_recp_ne h2, u2_ne h1, m_recs_ne h1 h2 i]
def m_receives (σ : Nat → Nat → Int32) (j q z : Nat) (to : Int32) : Nat → Nat → Int32 :=
  if q = 0 ∨ ¬ (0 ≤ to ∧ to ≤ σ 4 0 - nI z) then σ
  else m_recs (u2 (m_recw σ j to.toNatClampNeg z) 35 j (nI (q - 1))) j (q - 1)
theorem rr_receives {G : xG} {ro : xR} {sv : Nat → Value} (hG : x_Good G ro sv) {d m j q z S : Nat} {ra : Nat → Nat} {σ : Nat → Nat → Int32} {τ : Nat → Nat → Int64} {h : xH} {Q : xQ} {to : Int32} (hR : RepR m ra σ τ h) (hj : j < 4) (hq : σ 35 j = nI q) (hl : q ≤ 4) (hz : σ 34 (4 * j) = nI z) (hzl : z ≤ 32) (hs : σ 4 0 = nI S) (hS : S ≤ 4096) (hS4 : 64 ≤ S) (hQ : ∀ h', RepR m ra (m_receives σ j q z to) τ h' → RF m ra h h' → Q none h') : G (d + 1) n_X12_receives 0 0 0 [(0, .ref m), (1, .int (nI j)), (2, .int to)] [] h 0 0 Q := by
  have hin : vp_in (nI j) 4 := vp_in_nI hj (by decide)
  have hcl : (nI j).toNatClampNeg = j := nI_clamp (by omega)
  obtain ⟨p1, p2⟩ := ix_row (s := 4) (j := j) (i := 0) (n := 16) (by omega) (by decide)
  rw [show nI 4 * nI j + nI 0 = nI 4 * nI j from by rw [pk_mul, nI_add]; rfl] at p1 p2
  have p2 : ((4 : Int32) * nI j).toNatClampNeg = 4 * j := p2
  have k25 : (q = 0 ∨ ¬ (0 ≤ to ∧ to ≤ σ 4 0 - nI z)) → G (d + 1) n_X12_receives 0 0 25 [(0, .ref m), (1, .int (nI j)), (2, .int to)] [] h 0 0 Q := by
    intro e
    rw [m_receives, if_pos e] at hQ
    repeat refine hG _ _ _ _ _ _ _ _ _ _ _ ?_
    exact ⟨by decide, by decide, hQ h hR RF.rf⟩
  repeat refine hG _ _ _ _ _ _ _ _ _ _ _ ?_
  refine ⟨_, _, hR.1, r_at (by decide), ?_⟩
  repeat refine hG _ _ _ _ _ _ _ _ _ _ _ ?_
  refine ⟨_, _, Or.inl ⟨_, hR.2.1 35 rfl, rfl⟩, hin, ?_⟩
  rw [hcl, hq]
  repeat refine hG _ _ _ _ _ _ _ _ _ _ _ ?_
  refine ⟨fun e => k25 (Or.inl ((nI_eq (b := 0) (by omega) (by decide)).mp e)), fun q0 => ?_⟩
  have q0 : ¬ q = 0 := fun e => q0 (by rw [e]; rfl)
  repeat refine hG _ _ _ _ _ _ _ _ _ _ _ ?_
  refine ⟨_, _, hR.1, r_at (by decide), ?_⟩
  repeat refine hG _ _ _ _ _ _ _ _ _ _ _ ?_
  refine ⟨_, _, Or.inl ⟨_, hR.2.1 34 rfl, rfl⟩, p1, ?_⟩
  rw [p2, hz]
  repeat refine hG _ _ _ _ _ _ _ _ _ _ _ ?_
  refine ⟨⟨_, hR.1⟩, 0, 0, by decide, by decide, rr_isIn hG hR ?_⟩
  by_cases hi : 0 ≤ to ∧ to ≤ σ 4 0 - nI z
  · rw [if_pos hi]
    obtain ⟨A, eA, lA⟩ := m_inN (n := z) hs hS (by omega) hi.1 hi.2
    have cA : to.toNatClampNeg = A := by rw [eA]; exact nI_clamp (by omega)
    rw [m_receives, if_neg (fun r => r.elim q0 (fun r => r hi)), cA] at hQ
    subst eA
    have kp : ∀ (r k i : Nat) (σc : Nat → Nat → Int32) (hc : xH) (Q' : Prop), i < 3 → k + r = 32 → RepR m ra (m_recp σc j i k) τ hc → RF m ra h hc → (∀ h', RepR m ra (m_recp σc j i 32) τ h' → RF m ra h h' → G (d + 1) n_X12_receives 0 0 165 [(4, .int (nI 32)), (3, .int (nI i)), (0, .ref m), (1, .int (nI j)), (2, .int (nI A))] [] h' 0 0 Q) → G (d + 1) n_X12_receives 0 0 113 [(4, .int (nI k)), (3, .int (nI i)), (0, .ref m), (1, .int (nI j)), (2, .int (nI A))] [] hc 0 0 Q := by
      intro r
      induction r with
      | zero =>
        intro k i σc hc Q' hi3 hk hRc fc hN
        have hk : k = 32 := by omega
        subst hk
        repeat refine hG _ _ _ _ _ _ _ _ _ _ _ ?_
        exact ⟨fun _ => hN hc hRc fc, fun y => absurd (by decide) y⟩
      | succ r ih =>
        intro k i σc hc Q' hi3 hk hRc fc hN
        obtain ⟨i1, i2⟩ := ix_row (s := 128) (j := j) (i := 32 * i + k) (n := 512) (by omega) (by decide)
        rw [← nI_add (32 * i) k, ← pk_mul 32 i, ← Int32.add_assoc] at i1 i2
        obtain ⟨i3, i4⟩ := ix_row (s := 128) (j := j) (i := 32 * i + 32 + k) (n := 512) (by omega) (by decide)
        rw [← nI_add (32 * i + 32) k, ← nI_add (32 * i) 32, ← pk_mul 32 i, ← Int32.add_assoc, ← Int32.add_assoc] at i3 i4
        repeat refine hG _ _ _ _ _ _ _ _ _ _ _ ?_
        refine ⟨fun y => absurd y (nI_ge (b := 32) (by omega) (by decide)), fun _ => ?_⟩
        repeat refine hG _ _ _ _ _ _ _ _ _ _ _ ?_
        refine ⟨_, _, hRc.1, r_at (by decide), ?_⟩
        repeat refine hG _ _ _ _ _ _ _ _ _ _ _ ?_
        refine ⟨_, _, hRc.1, r_at (by decide), ?_⟩
        repeat refine hG _ _ _ _ _ _ _ _ _ _ _ ?_
        refine ⟨_, _, _, hRc.2.1 36 rfl, Or.inl rfl, i3, ?_⟩
        rw [show ((128 : Int32) * nI j + 32 * nI i + 32 + nI k).toNatClampNeg = 128 * j + 32 * i + 32 + k from i4.trans (by omega)]
        repeat refine hG _ _ _ _ _ _ _ _ _ _ _ ?_
        refine ⟨_, _, _, .byte, hRc.2.1 36 rfl, rfl, Or.inl rfl, i1, ?_⟩
        rintro h1 e1
        have e1 : h1 = x_up hc (ra 36) (.inl (r_ty 36, r_len 36, .inl (upd (m_recp σc j i k 36) (nI 128 * nI j + nI 32 * nI i + nI k).toNatClampNeg (vp_nar .byte (m_recp σc j i k 36 (128 * j + 32 * i + 32 + k)))))) := e1
        rw [i2, vp_nar_byte, show 128 * j + (32 * i + k) = 128 * j + 32 * i + k by omega] at e1
        obtain ⟨hR1, f1⟩ := r_seti (K := 36) hRc rfl rfl e1
        have y := ih (k + 1) i σc h1 Q' hi3 (by omega) hR1 (fc.tr f1) hN
        rw [nI_succ] at y
        refine hG _ _ _ _ _ _ _ _ _ _ _ ?_
        refine hG _ _ _ _ _ _ _ _ _ _ _ ?_
        exact y
    have ks : ∀ (r i : Nat) (E : xL) (hc : xH), (E = [] ∨ E = [(4, .int (nI 32))]) → i + r = q - 1 → RepR m ra (m_recs (u2 (m_recw σ j A z) 35 j (nI (q - 1))) j i) τ hc → RF m ra h hc → G (d + 1) n_X12_receives 0 0 78 ((3, .int (nI i)) :: (E ++ [(0, .ref m), (1, .int (nI j)), (2, .int (nI A))])) [] hc 0 0 Q := by
      intro r
      induction r with
      | zero =>
        intro i E hc hE hi' hRc fc
        have hi' : i = q - 1 := by omega
        subst hi'
        rcases hE with e | e <;> subst e <;> (
          repeat refine hG _ _ _ _ _ _ _ _ _ _ _ ?_
          refine ⟨_, _, hRc.1, r_at (by decide), ?_⟩
          repeat refine hG _ _ _ _ _ _ _ _ _ _ _ ?_
          refine ⟨_, _, Or.inl ⟨_, hRc.2.1 35 rfl, rfl⟩, hin, ?_⟩
          rw [hcl, m_recs_ne (K := 35) (by decide) (by decide), u2_ss]
          repeat refine hG _ _ _ _ _ _ _ _ _ _ _ ?_
          refine ⟨fun _ => ?_, fun y => absurd (Int32.le_refl _) y⟩
          repeat refine hG _ _ _ _ _ _ _ _ _ _ _ ?_
          exact ⟨by decide, by decide, hQ hc hRc fc⟩)
      | succ r ih =>
        intro i E hc hE hi' hRc fc
        obtain ⟨i1, i2⟩ := ix_row (s := 4) (j := j) (i := i) (n := 16) (by omega) (by decide)
        obtain ⟨i3, i4⟩ := ix_row (s := 4) (j := j) (i := i + 1) (n := 16) (by omega) (by decide)
        rw [nI_succ i, ← Int32.add_assoc] at i3 i4
        have hN : ∀ h', RepR m ra (m_recs (u2 (m_recw σ j A z) 35 j (nI (q - 1))) j (i + 1)) τ h' → RF m ra h h' → G (d + 1) n_X12_receives 0 0 165 [(4, .int (nI 32)), (3, .int (nI i)), (0, .ref m), (1, .int (nI j)), (2, .int (nI A))] [] h' 0 0 Q := by
          intro h' hR' f'
          have y := ih (i + 1) _ h' (Or.inr rfl) (by omega) hR' f'
          rw [nI_succ] at y
          refine hG _ _ _ _ _ _ _ _ _ _ _ ?_
          refine hG _ _ _ _ _ _ _ _ _ _ _ ?_
          exact y
        rcases hE with e | e <;> subst e <;> (
          repeat refine hG _ _ _ _ _ _ _ _ _ _ _ ?_
          refine ⟨_, _, hRc.1, r_at (by decide), ?_⟩
          repeat refine hG _ _ _ _ _ _ _ _ _ _ _ ?_
          refine ⟨_, _, Or.inl ⟨_, hRc.2.1 35 rfl, rfl⟩, hin, ?_⟩
          rw [hcl, m_recs_ne (K := 35) (by decide) (by decide), u2_ss]
          repeat refine hG _ _ _ _ _ _ _ _ _ _ _ ?_
          refine ⟨fun y => absurd y (nI_ge (by omega) (by omega)), fun _ => ?_⟩
          repeat refine hG _ _ _ _ _ _ _ _ _ _ _ ?_
          refine ⟨_, _, hRc.1, r_at (by decide), ?_⟩
          repeat refine hG _ _ _ _ _ _ _ _ _ _ _ ?_
          refine ⟨_, _, hRc.1, r_at (by decide), ?_⟩
          repeat refine hG _ _ _ _ _ _ _ _ _ _ _ ?_
          refine ⟨_, _, Or.inl ⟨_, hRc.2.1 34 rfl, rfl⟩, i3, ?_⟩
          rw [show ((4 : Int32) * nI j + nI i + 1).toNatClampNeg = 4 * j + i + 1 from i4]
          repeat refine hG _ _ _ _ _ _ _ _ _ _ _ ?_
          refine ⟨_, _, _, hRc.2.1 34 rfl, rfl, i1, ?_⟩
          rintro h1 e1
          have e1 : h1 = x_up hc (ra 34) (.inl (r_ty 34, r_len 34, .inl (upd (m_recs (u2 (m_recw σ j A z) 35 j (nI (q - 1))) j i 34) (nI 4 * nI j + nI i).toNatClampNeg (m_recs (u2 (m_recw σ j A z) 35 j (nI (q - 1))) j i 34 (4 * j + i + 1))))) := e1
          rw [i2] at e1
          obtain ⟨hR1, f1⟩ := r_seti (K := 34) hRc rfl rfl e1
          refine hG _ _ _ _ _ _ _ _ _ _ _ ?_
          refine hG _ _ _ _ _ _ _ _ _ _ _ ?_
          exact kp 32 0 i _ h1 True (by omega) (by omega) hR1 (fc.tr f1) hN)
    have kw : ∀ (r i : Nat) (hc : xH), i + r = z → RepR m ra (m_recw σ j A i) τ hc → RF m ra h hc → G (d + 1) n_X12_receives 0 0 28 [(3, .int (nI i)), (0, .ref m), (1, .int (nI j)), (2, .int (nI A))] [] hc 0 0 Q := by
      intro r
      induction r with
      | zero =>
        intro i hc hi' hRc fc
        have hi' : i = z := by omega
        subst hi'
        repeat refine hG _ _ _ _ _ _ _ _ _ _ _ ?_
        refine ⟨_, _, hRc.1, r_at (by decide), ?_⟩
        repeat refine hG _ _ _ _ _ _ _ _ _ _ _ ?_
        refine ⟨_, _, Or.inl ⟨_, hRc.2.1 34 rfl, rfl⟩, p1, ?_⟩
        rw [p2, m_recw_ne (K := 34) (by decide) (by decide), hz]
        repeat refine hG _ _ _ _ _ _ _ _ _ _ _ ?_
        refine ⟨fun _ => ?_, fun y => absurd (Int32.le_refl _) y⟩
        repeat refine hG _ _ _ _ _ _ _ _ _ _ _ ?_
        refine ⟨_, _, hRc.1, r_at (by decide), ?_⟩
        repeat refine hG _ _ _ _ _ _ _ _ _ _ _ ?_
        refine ⟨_, _, Or.inl ⟨_, hRc.2.1 35 rfl, rfl⟩, hin, ?_⟩
        rw [hcl, m_recw_ne (K := 35) (by decide) (by decide), hq]
        repeat refine hG _ _ _ _ _ _ _ _ _ _ _ ?_
        refine ⟨_, _, _, hRc.2.1 35 rfl, rfl, hin, ?_⟩
        rintro h1 e1
        rw [hcl, show nI q - 1 = nI (q - 1) from by
          obtain ⟨q', rfl⟩ : ∃ q', q = q' + 1 := ⟨q - 1, by omega⟩
          exact nI_pred q'] at e1
        obtain ⟨hR1, f1⟩ := r_seti (K := 35) hRc rfl rfl e1
        refine hG _ _ _ _ _ _ _ _ _ _ _ ?_
        refine hG _ _ _ _ _ _ _ _ _ _ _ ?_
        exact ks (q - 1) 0 [] h1 (Or.inl rfl) (by omega) hR1 (fc.tr f1)
      | succ r ih =>
        intro i hc hi' hRc fc
        obtain ⟨i1, i2⟩ := ix_row (s := 128) (j := j) (i := i) (n := 512) (by omega) (by decide)
        repeat refine hG _ _ _ _ _ _ _ _ _ _ _ ?_
        refine ⟨_, _, hRc.1, r_at (by decide), ?_⟩
        repeat refine hG _ _ _ _ _ _ _ _ _ _ _ ?_
        refine ⟨_, _, Or.inl ⟨_, hRc.2.1 34 rfl, rfl⟩, p1, ?_⟩
        rw [p2, m_recw_ne (K := 34) (by decide) (by decide), hz]
        repeat refine hG _ _ _ _ _ _ _ _ _ _ _ ?_
        refine ⟨fun y => absurd y (nI_ge (by omega) (by omega)), fun _ => ?_⟩
        repeat refine hG _ _ _ _ _ _ _ _ _ _ _ ?_
        refine ⟨_, _, hRc.1, r_at (by decide), ?_⟩
        repeat refine hG _ _ _ _ _ _ _ _ _ _ _ ?_
        refine ⟨_, _, _, hRc.2.1 36 rfl, Or.inl rfl, i1, ?_⟩
        rw [show ((128 : Int32) * nI j + nI i).toNatClampNeg = 128 * j + i from i2]
        repeat refine hG _ _ _ _ _ _ _ _ _ _ _ ?_
        rw [show nI A + nI i = nI (A + i) from nI_add A i]
        refine ⟨⟨_, hRc.1⟩, 0, 0, by decide, by decide, rr_write hG hRc hj (by omega) (fun h1 hR1 f1 => ?_)⟩
        have y := ih (i + 1) h1 (by omega) hR1 (fc.tr f1)
        rw [nI_succ] at y
        refine hG _ _ _ _ _ _ _ _ _ _ _ ?_
        refine hG _ _ _ _ _ _ _ _ _ _ _ ?_
        exact y
    repeat refine hG _ _ _ _ _ _ _ _ _ _ _ ?_
    refine ⟨fun _ => ?_, fun y => absurd y (by decide)⟩
    refine hG _ _ _ _ _ _ _ _ _ _ _ ?_
    refine hG _ _ _ _ _ _ _ _ _ _ _ ?_
    exact kw z 0 h (by omega) hR RF.rf
  · rw [if_neg hi]
    repeat refine hG _ _ _ _ _ _ _ _ _ _ _ ?_
    exact ⟨fun y => absurd rfl y, fun _ => k25 (Or.inr hi)⟩
