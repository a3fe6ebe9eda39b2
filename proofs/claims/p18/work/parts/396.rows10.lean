def m_wpk (σ : Nat → Nat → Int32) (j q A : Nat) : Nat → Nat → Nat → Int32
  | 0 => σ
  | i + 1 => u2 (m_wpk σ j q A i) 43 (64 * (128 * j + q) + i) (m_wpk σ j q A i 15 (4096 * j + A + i)).toInt8.toInt32
theorem m_wpk_ne {σ : Nat → Nat → Int32} {j q A K : Nat} (h1 : K ≠ 43) : ∀ i, m_wpk σ j q A i K = σ K
  | 0 => rfl
  | i + 1 => by rw [m_wpk, u2_ne h1, m_wpk_ne h1 i]
abbrev m_sgood (σ : Nat → Nat → Int32) (j : Nat) (v : Int32) : Prop := ¬ σ 25 j < 1 ∧ ¬ 32 < σ 25 j ∧ (0 ≤ v ∧ v ≤ σ 4 0 - σ 25 j)
def m_wdev (σ : Nat → Nat → Int32) (j q p z t : Nat) (v : Int32) : Nat → Nat → Int32 := if t = 4 then u2 σ 22 j v else if t = 12 then m_puts σ j (128 * j + q) 0 (v &&& 255) 0 else if t = 16 then u2 σ 23 j v else if t = 20 then u2 σ 24 j v else if t = 24 then m_asks σ j q v else if t = 28 then u2 σ 25 j v else if t = 32 then (if m_sgood σ j v then m_puts (m_wpk σ j q v.toNatClampNeg (σ 25 j).toNatClampNeg) j (128 * j + q) 1 (σ 25 j) 0 else σ) else if t = 36 then m_receives σ j p z v else if t = 40 then u2 σ 26 j v else σ
theorem rr_writeDevice {G : xG} {ro : xR} {sv : Nat → Value} (hG : x_Good G ro sv) {d m j q p z t S : Nat} {ra : Nat → Nat} {σ : Nat → Nat → Int32} {τ : Nat → Nat → Int64} {h : xH} {Q : xQ} {v : Int32} (hR : RepR m ra σ τ h) (hj : j < 4) (hq : σ 38 j = nI q) (hl : q < 128) (hp : σ 35 j = nI p) (hpl : p ≤ 4) (hz : σ 34 (4 * j) = nI z) (hzl : z ≤ 32) (hs : σ 4 0 = nI S) (hS : S ≤ 4096) (hS4 : 64 ≤ S) (ht : t ≤ 40) (h4 : t % 4 = 0) (hQ : ∀ h', RepR m ra (m_wdev σ j q p z t v) τ h' → RF m ra h h' → Q none h') : G (d + 2) n_X12_writeDevice 0 0 0 [(0, .ref m), (1, .int (nI j)), (2, .int (nI t)), (3, .int v)] [] h 0 0 Q := by
  have hin : vp_in (nI j) 4 := vp_in_nI hj (by decide)
  have hcl : (nI j).toNatClampNeg = j := nI_clamp (by omega)
  refine hG _ _ _ _ _ _ _ _ _ _ _ ?_
  refine hG _ _ _ _ _ _ _ _ _ _ _ ?_
  rcases (by omega : t = 0 ∨ t = 4 ∨ t = 8 ∨ t = 12 ∨ t = 16 ∨ t = 20 ∨ t = 24 ∨ t = 28 ∨ t = 32 ∨ t = 36 ∨ t = 40) with e | e | e | e | e | e | e | e | e | e | e <;> subst e
  · rw [m_wdev, if_neg (by decide), if_neg (by decide), if_neg (by decide), if_neg (by decide), if_neg (by decide), if_neg (by decide), if_neg (by decide), if_neg (by decide), if_neg (by decide)] at hQ
    refine ⟨269, by decide, ?_⟩
    repeat refine hG _ _ _ _ _ _ _ _ _ _ _ ?_
    exact ⟨by decide, by decide, hQ h hR RF.rf⟩
  · rw [m_wdev, if_pos rfl] at hQ
    refine ⟨84, by decide, ?_⟩
    repeat refine hG _ _ _ _ _ _ _ _ _ _ _ ?_
    refine ⟨_, _, hR.1, r_at (by decide), ?_⟩
    repeat refine hG _ _ _ _ _ _ _ _ _ _ _ ?_
    refine ⟨_, _, _, hR.2.1 22 rfl, rfl, hin, ?_⟩
    rintro h1 e1
    rw [hcl] at e1
    obtain ⟨hR1, f1⟩ := r_seti (K := 22) hR rfl rfl e1
    repeat refine hG _ _ _ _ _ _ _ _ _ _ _ ?_
    exact ⟨by decide, by decide, hQ h1 hR1 f1⟩
  · rw [m_wdev, if_neg (by decide), if_neg (by decide), if_neg (by decide), if_neg (by decide), if_neg (by decide), if_neg (by decide), if_neg (by decide), if_neg (by decide), if_neg (by decide)] at hQ
    refine ⟨269, by decide, ?_⟩
    repeat refine hG _ _ _ _ _ _ _ _ _ _ _ ?_
    exact ⟨by decide, by decide, hQ h hR RF.rf⟩
  · rw [m_wdev, if_neg (by decide), if_pos rfl] at hQ
    refine ⟨94, by decide, ?_⟩
    repeat refine hG _ _ _ _ _ _ _ _ _ _ _ ?_
    refine ⟨⟨_, hR.1⟩, 0, 0, by decide, by decide, rr_puts hG hR hj hq hl (fun h1 hR1 f1 => ?_)⟩
    repeat refine hG _ _ _ _ _ _ _ _ _ _ _ ?_
    exact ⟨by decide, by decide, hQ h1 hR1 f1⟩
  · rw [m_wdev, if_neg (by decide), if_neg (by decide), if_pos rfl] at hQ
    refine ⟨109, by decide, ?_⟩
    repeat refine hG _ _ _ _ _ _ _ _ _ _ _ ?_
    refine ⟨_, _, hR.1, r_at (by decide), ?_⟩
    repeat refine hG _ _ _ _ _ _ _ _ _ _ _ ?_
    refine ⟨_, _, _, hR.2.1 23 rfl, rfl, hin, ?_⟩
    rintro h1 e1
    rw [hcl] at e1
    obtain ⟨hR1, f1⟩ := r_seti (K := 23) hR rfl rfl e1
    repeat refine hG _ _ _ _ _ _ _ _ _ _ _ ?_
    exact ⟨by decide, by decide, hQ h1 hR1 f1⟩
  · rw [m_wdev, if_neg (by decide), if_neg (by decide), if_neg (by decide), if_pos rfl] at hQ
    refine ⟨119, by decide, ?_⟩
    repeat refine hG _ _ _ _ _ _ _ _ _ _ _ ?_
    refine ⟨_, _, hR.1, r_at (by decide), ?_⟩
    repeat refine hG _ _ _ _ _ _ _ _ _ _ _ ?_
    refine ⟨_, _, _, hR.2.1 24 rfl, rfl, hin, ?_⟩
    rintro h1 e1
    rw [hcl] at e1
    obtain ⟨hR1, f1⟩ := r_seti (K := 24) hR rfl rfl e1
    repeat refine hG _ _ _ _ _ _ _ _ _ _ _ ?_
    exact ⟨by decide, by decide, hQ h1 hR1 f1⟩
  · rw [m_wdev, if_neg (by decide), if_neg (by decide), if_neg (by decide), if_neg (by decide), if_pos rfl] at hQ
    refine ⟨129, by decide, ?_⟩
    repeat refine hG _ _ _ _ _ _ _ _ _ _ _ ?_
    refine ⟨⟨_, hR.1⟩, 0, 0, by decide, by decide, rr_asks hG hR hj hq hl hs hS hS4 (fun h1 hR1 f1 => ?_)⟩
    repeat refine hG _ _ _ _ _ _ _ _ _ _ _ ?_
    exact ⟨by decide, by decide, hQ h1 hR1 f1⟩
  · rw [m_wdev, if_neg (by decide), if_neg (by decide), if_neg (by decide), if_neg (by decide), if_neg (by decide), if_pos rfl] at hQ
    refine ⟨138, by decide, ?_⟩
    repeat refine hG _ _ _ _ _ _ _ _ _ _ _ ?_
    refine ⟨_, _, hR.1, r_at (by decide), ?_⟩
    repeat refine hG _ _ _ _ _ _ _ _ _ _ _ ?_
    refine ⟨_, _, _, hR.2.1 25 rfl, rfl, hin, ?_⟩
    rintro h1 e1
    rw [hcl] at e1
    obtain ⟨hR1, f1⟩ := r_seti (K := 25) hR rfl rfl e1
    repeat refine hG _ _ _ _ _ _ _ _ _ _ _ ?_
    exact ⟨by decide, by decide, hQ h1 hR1 f1⟩
  · rw [m_wdev, if_neg (by decide), if_neg (by decide), if_neg (by decide), if_neg (by decide), if_neg (by decide), if_neg (by decide), if_pos rfl] at hQ
    refine ⟨148, by decide, ?_⟩
    have kN : ¬ m_sgood σ j v → G (d + 2) n_X12_writeDevice 0 0 269 [(0, .ref m), (1, .int (nI j)), (2, .int (nI 32)), (3, .int v)] [] h 0 0 Q := by
      intro e
      rw [if_neg e] at hQ
      repeat refine hG _ _ _ _ _ _ _ _ _ _ _ ?_
      exact ⟨by decide, by decide, hQ h hR RF.rf⟩
    repeat refine hG _ _ _ _ _ _ _ _ _ _ _ ?_
    refine ⟨_, _, hR.1, r_at (by decide), ?_⟩
    repeat refine hG _ _ _ _ _ _ _ _ _ _ _ ?_
    refine ⟨_, _, Or.inl ⟨_, hR.2.1 25 rfl, rfl⟩, hin, ?_⟩
    rw [hcl]
    repeat refine hG _ _ _ _ _ _ _ _ _ _ _ ?_
    refine ⟨fun y => kN (fun r => r.1 y), fun y1 => ?_⟩
    repeat refine hG _ _ _ _ _ _ _ _ _ _ _ ?_
    refine ⟨_, _, hR.1, r_at (by decide), ?_⟩
    repeat refine hG _ _ _ _ _ _ _ _ _ _ _ ?_
    refine ⟨_, _, Or.inl ⟨_, hR.2.1 25 rfl, rfl⟩, hin, ?_⟩
    rw [hcl]
    repeat refine hG _ _ _ _ _ _ _ _ _ _ _ ?_
    refine ⟨fun y => kN (fun r => r.2.1 y), fun y2 => ?_⟩
    repeat refine hG _ _ _ _ _ _ _ _ _ _ _ ?_
    refine ⟨_, _, hR.1, r_at (by decide), ?_⟩
    repeat refine hG _ _ _ _ _ _ _ _ _ _ _ ?_
    refine ⟨_, _, Or.inl ⟨_, hR.2.1 25 rfl, rfl⟩, hin, ?_⟩
    rw [hcl]
    repeat refine hG _ _ _ _ _ _ _ _ _ _ _ ?_
    refine ⟨⟨_, hR.1⟩, 0, 0, by decide, by decide, rr_isIn hG hR ?_⟩
    by_cases hi : 0 ≤ v ∧ v ≤ σ 4 0 - σ 25 j
    · rw [if_pos hi]
      have hg : m_sgood σ j v := ⟨y1, y2, hi⟩
      obtain ⟨N, hN, eN⟩ := nI_of2 (x := σ 25 j) (M := 32) (n := 32) rfl (fun y => y1 (Int32.lt_trans y (by decide))) (Int32.not_lt.mp y2)
      obtain ⟨A, eA, lA⟩ := m_inN (n := N) hs hS (by omega) hi.1 (by rw [← eN]; exact hi.2)
      have cA : v.toNatClampNeg = A := by rw [eA]; exact nI_clamp (by omega)
      have cN : (σ 25 j).toNatClampNeg = N := by rw [eN]; exact nI_clamp (by omega)
      rw [if_pos hg, cA, cN] at hQ
      subst eA
      have loop : ∀ (r i : Nat) (hc : xH), i + r = N → RepR m ra (m_wpk σ j q A i) τ hc → RF m ra h hc → G (d + 2) n_X12_writeDevice 0 0 189 [(4, .int (nI i)), (0, .ref m), (1, .int (nI j)), (2, .int (nI 32)), (3, .int (nI A))] [] hc 0 0 Q := by
        intro r
        induction r with
        | zero =>
          intro i hc hi' hRc fc
          have hi' : i = N := by omega
          subst hi'
          repeat refine hG _ _ _ _ _ _ _ _ _ _ _ ?_
          refine ⟨_, _, hRc.1, r_at (by decide), ?_⟩
          repeat refine hG _ _ _ _ _ _ _ _ _ _ _ ?_
          refine ⟨_, _, Or.inl ⟨_, hRc.2.1 25 rfl, rfl⟩, hin, ?_⟩
          rw [hcl, m_wpk_ne (K := 25) (by decide), eN]
          repeat refine hG _ _ _ _ _ _ _ _ _ _ _ ?_
          refine ⟨fun _ => ?_, fun y => absurd (Int32.le_refl _) y⟩
          repeat refine hG _ _ _ _ _ _ _ _ _ _ _ ?_
          refine ⟨_, _, hRc.1, r_at (by decide), ?_⟩
          repeat refine hG _ _ _ _ _ _ _ _ _ _ _ ?_
          refine ⟨_, _, Or.inl ⟨_, hRc.2.1 25 rfl, rfl⟩, hin, ?_⟩
          rw [hcl, m_wpk_ne (K := 25) (by decide)]
          repeat refine hG _ _ _ _ _ _ _ _ _ _ _ ?_
          refine ⟨⟨_, hRc.1⟩, 0, 0, by decide, by decide, rr_puts hG (q := q) hRc hj (by rw [m_wpk_ne (by decide)]; exact hq) hl (fun h1 hR1 f1 => ?_)⟩
          repeat refine hG _ _ _ _ _ _ _ _ _ _ _ ?_
          exact ⟨by decide, by decide, hQ h1 hR1 (fc.tr f1)⟩
        | succ r ih =>
          intro i hc hi' hRc fc
          obtain ⟨i3, i4⟩ := ix_row (s := 4096) (j := j) (i := A + i) (n := 16384) (by omega) (by decide)
          rw [← nI_add A i, ← Int32.add_assoc] at i3 i4
          obtain ⟨i5, i6⟩ := ix_row (s := 64) (j := 128 * j + q) (i := i) (n := 32768) (by omega) (by decide)
          rw [← nI_add, ← pk_mul] at i5 i6
          repeat refine hG _ _ _ _ _ _ _ _ _ _ _ ?_
          refine ⟨_, _, hRc.1, r_at (by decide), ?_⟩
          repeat refine hG _ _ _ _ _ _ _ _ _ _ _ ?_
          refine ⟨_, _, Or.inl ⟨_, hRc.2.1 25 rfl, rfl⟩, hin, ?_⟩
          rw [hcl, m_wpk_ne (K := 25) (by decide), eN]
          repeat refine hG _ _ _ _ _ _ _ _ _ _ _ ?_
          refine ⟨fun y => absurd y (nI_ge (by omega) (by omega)), fun _ => ?_⟩
          repeat refine hG _ _ _ _ _ _ _ _ _ _ _ ?_
          refine ⟨_, _, hRc.1, r_at (by decide), ?_⟩
          repeat refine hG _ _ _ _ _ _ _ _ _ _ _ ?_
          refine ⟨⟨_, hRc.1⟩, 0, 0, by decide, by decide, rr_slotOf hG hRc hj ?_⟩
          rw [m_wpk_ne (K := 38) (by decide), hq]
          repeat refine hG _ _ _ _ _ _ _ _ _ _ _ ?_
          refine ⟨_, _, hRc.1, r_at (by decide), ?_⟩
          repeat refine hG _ _ _ _ _ _ _ _ _ _ _ ?_
          refine ⟨_, _, _, hRc.2.1 15 rfl, Or.inl rfl, i3, ?_⟩
          rw [show ((4096 : Int32) * nI j + nI A + nI i).toNatClampNeg = 4096 * j + A + i from i4.trans (by omega)]
          repeat refine hG _ _ _ _ _ _ _ _ _ _ _ ?_
          refine ⟨_, _, _, .byte, hRc.2.1 43 rfl, rfl, Or.inl rfl, i5, ?_⟩
          rintro h1 e1
          have e1 : h1 = x_up hc (ra 43) (.inl (r_ty 43, r_len 43, .inl (upd (m_wpk σ j q A i 43) (nI 64 * (nI 128 * nI j + nI q) + nI i).toNatClampNeg (vp_nar .byte (m_wpk σ j q A i 15 (4096 * j + A + i)))))) := e1
          rw [i6, vp_nar_byte] at e1
          obtain ⟨hR1, f1⟩ := r_seti (K := 43) hRc rfl rfl e1
          have y := ih (i + 1) h1 (by omega) hR1 (fc.tr f1)
          rw [nI_succ] at y
          refine hG _ _ _ _ _ _ _ _ _ _ _ ?_
          refine hG _ _ _ _ _ _ _ _ _ _ _ ?_
          exact y
      repeat refine hG _ _ _ _ _ _ _ _ _ _ _ ?_
      refine ⟨fun _ => ?_, fun y => absurd y (by decide)⟩
      refine hG _ _ _ _ _ _ _ _ _ _ _ ?_
      refine hG _ _ _ _ _ _ _ _ _ _ _ ?_
      exact loop N 0 h (by omega) hR RF.rf
    · rw [if_neg hi]
      repeat refine hG _ _ _ _ _ _ _ _ _ _ _ ?_
      refine ⟨fun y => absurd rfl y, fun _ => ?_⟩
      refine hG _ _ _ _ _ _ _ _ _ _ _ ?_
      exact kN (fun r => hi r.2.2)
  · rw [m_wdev, if_neg (by decide), if_neg (by decide), if_neg (by decide), if_neg (by decide), if_neg (by decide), if_neg (by decide), if_neg (by decide), if_pos rfl] at hQ
    refine ⟨250, by decide, ?_⟩
    repeat refine hG _ _ _ _ _ _ _ _ _ _ _ ?_
    refine ⟨⟨_, hR.1⟩, 0, 0, by decide, by decide, rr_receives hG hR hj hp hpl hz hzl hs hS hS4 (fun h1 hR1 f1 => ?_)⟩
    repeat refine hG _ _ _ _ _ _ _ _ _ _ _ ?_
    exact ⟨by decide, by decide, hQ h1 hR1 f1⟩
  · rw [m_wdev, if_neg (by decide), if_neg (by decide), if_neg (by decide), if_neg (by decide), if_neg (by decide), if_neg (by decide), if_neg (by decide), if_neg (by decide), if_pos rfl] at hQ
    refine ⟨259, by decide, ?_⟩
    repeat refine hG _ _ _ _ _ _ _ _ _ _ _ ?_
    refine ⟨_, _, hR.1, r_at (by decide), ?_⟩
    repeat refine hG _ _ _ _ _ _ _ _ _ _ _ ?_
    refine ⟨_, _, _, hR.2.1 26 rfl, rfl, hin, ?_⟩
    rintro h1 e1
    rw [hcl] at e1
    obtain ⟨hR1, f1⟩ := r_seti (K := 26) hR rfl rfl e1
    repeat refine hG _ _ _ _ _ _ _ _ _ _ _ ?_
    exact ⟨by decide, by decide, hQ h1 hR1 f1⟩
