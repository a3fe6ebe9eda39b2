abbrev m_sn (w : Int32) : Int32 := (1 : Int32) <<< (m_f3 w &&& 31)
def m_stl (σ : Nat → Nat → Int32) (j A : Nat) (v : Int32) : Nat → Nat → Nat → Int32
  | 0 => σ
  | i + 1 => m_write (m_stl σ j A v i) j (A + i) (v >>> ((8 * nI i) &&& 31))
theorem m_stl_ne {σ : Nat → Nat → Int32} {j A K : Nat} {v : Int32} (h1 : K ≠ 15) (h2 : K ≠ 63) : ∀ i, m_stl σ j A v i K = σ K
  | 0 => rfl
  | i + 1 => by rw [m_stl, m_write_ne h1 h2, m_stl_ne h1 h2 i]
theorem m_trap_ne {σ : Nat → Nat → Int32} {j K : Nat} {c v : Int32} (h1 : K ≠ 17) (h2 : K ≠ 18) : m_trap σ j c v K = σ K := by
  unfold m_trap
  simp only [u2_ne h1, u2_ne h2]
def m_next (σ : Nat → Nat → Int32) (j : Nat) : Nat → Nat → Int32 := u2 σ 17 j (σ 17 j + 4)
def m_stores (σ : Nat → Nat → Int32) (j q p z : Nat) (w a v : Int32) : Nat → Nat → Int32 :=
  if ¬ m_f3 w ≤ 2 then m_trap σ j 2 w
  else if ¬ a &&& (m_sn w - 1) = 0 then m_trap σ j 6 a
  else if m_sn w = 4 ∧ m_isDev a = true then m_next (m_wdev σ j q p z (a - 65536).toNatClampNeg v) j
  else if ¬ (0 ≤ a ∧ a ≤ σ 4 0 - m_sn w) then m_trap σ j 7 a
  else m_next (m_stl σ j a.toNatClampNeg v (m_sn w).toNatClampNeg) j
theorem m_sn_n {w : Int32} (h : m_f3 w ≤ 2) : ∃ n, n ≤ 4 ∧ m_sn w = nI n := by
  have hf : m_f3 w = nI (m_n3 (m_sr w 12)) := m_n3_e _
  have hl3 := m_n3_lt (m_sr w 12)
  unfold m_sn
  generalize m_f3 w = f at hf h ⊢
  generalize m_n3 (m_sr w 12) = k at hf hl3
  subst hf
  have hk := (nI_leI (a := k) (b := 2) (by omega) (by decide)).mp h
  rcases (by omega : k = 0 ∨ k = 1 ∨ k = 2) with e | e | e <;> subst e
  · exact ⟨1, by decide, by decide⟩
  · exact ⟨2, by decide, by decide⟩
  · exact ⟨4, by decide, by decide⟩
theorem rr_stores {G : xG} {ro : xR} {sv : Nat → Value} (hG : x_Good G ro sv) {d m j q p z S : Nat} {ra : Nat → Nat} {σ : Nat → Nat → Int32} {τ : Nat → Nat → Int64} {h : xH} {Q : xQ} {w a v : Int32} (hR : RepR m ra σ τ h) (hj : j < 4) (hq : σ 38 j = nI q) (hl : q < 128) (hp : σ 35 j = nI p) (hpl : p ≤ 4) (hz : σ 34 (4 * j) = nI z) (hzl : z ≤ 32) (hs : σ 4 0 = nI S) (hS : S ≤ 4096) (hS4 : 64 ≤ S) (hQ : ∀ h', RepR m ra (m_stores σ j q p z w a v) τ h' → RF m ra h h' → Q none h') : G (d + 3) n_X12_stores 0 0 0 [(0, .ref m), (1, .int (nI j)), (2, .int w), (3, .int a), (4, .int v)] [] h 0 0 Q := by
  have hin : vp_in (nI j) 4 := vp_in_nI hj (by decide)
  have hcl : (nI j).toNatClampNeg = j := nI_clamp (by omega)
  repeat refine hG _ _ _ _ _ _ _ _ _ _ _ ?_
  refine ⟨fun z1 => ?_, fun z1 => ?_⟩
  · have z1 : m_f3 w ≤ 2 := z1
    have g1 : ¬ ¬ m_f3 w ≤ 2 := fun r => r z1
    have n1 : ¬ 2 < m_f3 w := Int32.not_lt.mpr z1
    repeat refine hG _ _ _ _ _ _ _ _ _ _ _ ?_
    refine ⟨fun z2 => ?_, fun z2 => ?_⟩
    · have z2 : a &&& (m_sn w - 1) = 0 := z2
      have g2 : ¬ ¬ a &&& (m_sn w - 1) = 0 := fun r => r z2
      have eB : m_stores σ j q p z w a v = (if m_sn w = 4 ∧ m_isDev a = true then m_next (m_wdev σ j q p z (a - 65536).toNatClampNeg v) j else if ¬ (0 ≤ a ∧ a ≤ σ 4 0 - m_sn w) then m_trap σ j 7 a else m_next (m_stl σ j a.toNatClampNeg v (m_sn w).toNatClampNeg) j) := by
        rw [m_stores, if_neg g1, if_neg g2]
      have k171 : ∀ (E : xL) (σ1 : Nat → Nat → Int32) (h1 : xH) (y7 : Int32), (E = [] ∨ E = [(7, .int y7)]) → m_stores σ j q p z w a v = m_next σ1 j → RepR m ra σ1 τ h1 → RF m ra h h1 → G (d + 3) n_X12_stores 0 0 171 (E ++ [(6, .int (m_sn w)), (5, .int (m_f3 w)), (0, .ref m), (1, .int (nI j)), (2, .int w), (3, .int a), (4, .int v)]) [] h1 0 0 Q := by
        intro E σ1 h1 y7 hE e hR1 f1
        rw [e] at hQ
        rcases hE with e | e <;> subst e <;> (
          repeat refine hG _ _ _ _ _ _ _ _ _ _ _ ?_
          refine ⟨_, _, hR1.1, r_at (by decide), ?_⟩
          repeat refine hG _ _ _ _ _ _ _ _ _ _ _ ?_
          refine ⟨_, _, Or.inl ⟨_, hR1.2.1 17 rfl, rfl⟩, hin, ?_⟩
          rw [hcl]
          repeat refine hG _ _ _ _ _ _ _ _ _ _ _ ?_
          refine ⟨_, _, _, hR1.2.1 17 rfl, rfl, hin, ?_⟩
          rintro h2 e2
          rw [hcl] at e2
          obtain ⟨hR2, f2⟩ := r_seti (K := 17) hR1 rfl rfl e2
          repeat refine hG _ _ _ _ _ _ _ _ _ _ _ ?_
          exact ⟨by decide, by decide, hQ h2 hR2 (f1.tr f2)⟩)
      have k79 : ¬ (m_sn w = 4 ∧ m_isDev a = true) → G (d + 3) n_X12_stores 0 0 79 [(6, .int (m_sn w)), (5, .int (m_f3 w)), (0, .ref m), (1, .int (nI j)), (2, .int w), (3, .int a), (4, .int v)] [] h 0 0 Q := by
        intro g3
        have k161 : ∀ (E : xL) (σ1 : Nat → Nat → Int32) (h1 : xH) (y7 : Int32), (E = [] ∨ E = [(7, .int y7)]) → RepR m ra σ1 τ h1 → RF m ra h h1 → σ1 4 0 = σ 4 0 → (0 ≤ a ∧ a ≤ σ 4 0 - m_sn w → m_stores σ j q p z w a v = m_next σ1 j) → (¬ (0 ≤ a ∧ a ≤ σ 4 0 - m_sn w) → m_stores σ j q p z w a v = σ1) → G (d + 3) n_X12_stores 0 0 133 (E ++ [(6, .int (m_sn w)), (5, .int (m_f3 w)), (0, .ref m), (1, .int (nI j)), (2, .int w), (3, .int a), (4, .int v)]) [] h1 0 0 Q := by
          intro E σ1 h1 y7 hE hR1 f1 h40 eY eN
          have hE' := hE
          have kI : G (d + 3) n_X12_stores 0 0 161 (E ++ [(6, .int (m_sn w)), (5, .int (m_f3 w)), (0, .ref m), (1, .int (nI j)), (2, .int w), (3, .int a), (4, .int v)]) [] h1 0 0 Q := by
            have hE'' := hE'
            rcases hE'' with e | e <;> subst e <;> (
              repeat refine hG _ _ _ _ _ _ _ _ _ _ _ ?_
              refine ⟨⟨_, hR1.1⟩, 0, 0, by decide, by decide, rr_isIn hG hR1 ?_⟩
              rw [h40]
              by_cases hi : 0 ≤ a ∧ a ≤ σ 4 0 - m_sn w
              · rw [if_pos hi]
                repeat refine hG _ _ _ _ _ _ _ _ _ _ _ ?_
                refine ⟨fun y => absurd y (by decide), fun _ => ?_⟩
                exact k171 _ σ1 h1 y7 hE' (eY hi) hR1 f1
              · rw [if_neg hi]
                rw [eN hi] at hQ
                repeat refine hG _ _ _ _ _ _ _ _ _ _ _ ?_
                refine ⟨fun _ => ?_, fun y => absurd rfl y⟩
                repeat refine hG _ _ _ _ _ _ _ _ _ _ _ ?_
                exact ⟨by decide, by decide, hQ h1 hR1 f1⟩)
          rcases hE with e | e <;> subst e <;> (
            repeat refine hG _ _ _ _ _ _ _ _ _ _ _ ?_
            refine ⟨fun y => absurd y n1, fun _ => ?_⟩
            repeat refine hG _ _ _ _ _ _ _ _ _ _ _ ?_
            refine ⟨fun y => absurd z2 y, fun _ => ?_⟩
            repeat refine hG _ _ _ _ _ _ _ _ _ _ _ ?_
            refine ⟨fun _ => kI, fun y4 => ?_⟩
            repeat refine hG _ _ _ _ _ _ _ _ _ _ _ ?_
            refine ⟨0, 0, by decide, by decide, rr_isDevice hG ?_⟩
            cases hd : m_isDev a with
            | false =>
              repeat refine hG _ _ _ _ _ _ _ _ _ _ _ ?_
              exact ⟨fun y => absurd rfl y, fun _ => kI⟩
            | true => exact absurd ⟨y4, hd⟩ g3)
        repeat refine hG _ _ _ _ _ _ _ _ _ _ _ ?_
        refine ⟨⟨_, hR.1⟩, 0, 0, by decide, by decide, rr_isIn hG hR ?_⟩
        by_cases hi : 0 ≤ a ∧ a ≤ σ 4 0 - m_sn w
        · rw [if_pos hi]
          obtain ⟨n, hn, en⟩ := m_sn_n z1
          obtain ⟨A, eA, lA⟩ := m_inN (n := n) hs hS (by omega) hi.1 (by rw [← en]; exact hi.2)
          have cA : a.toNatClampNeg = A := by rw [eA]; exact nI_clamp (by omega)
          have cn : (m_sn w).toNatClampNeg = n := by rw [en]; exact nI_clamp (by omega)
          have loop : ∀ (r i : Nat) (hc : xH), i + r = n → RepR m ra (m_stl σ j A v i) τ hc → RF m ra h hc → G (d + 3) n_X12_stores 0 0 103 [(7, .int (nI i)), (6, .int (m_sn w)), (5, .int (m_f3 w)), (0, .ref m), (1, .int (nI j)), (2, .int w), (3, .int a), (4, .int v)] [] hc 0 0 Q := by
            intro r
            induction r with
            | zero =>
              intro i hc hi' hRc fc
              have hi' : i = n := by omega
              subst hi'
              repeat refine hG _ _ _ _ _ _ _ _ _ _ _ ?_
              refine ⟨fun _ => ?_, fun y => absurd (by rw [en]; exact Int32.le_refl _) y⟩
              exact k161 [(7, .int (nI i))] _ hc _ (Or.inr rfl) hRc fc (by rw [m_stl_ne (by decide) (by decide)]) (fun _ => by rw [eB, if_neg g3, if_neg (fun r => r hi), cA, cn]) (fun y => absurd hi y)
            | succ r ih =>
              intro i hc hi' hRc fc
              repeat refine hG _ _ _ _ _ _ _ _ _ _ _ ?_
              refine ⟨fun y => absurd (by rw [en] at y; exact y) (nI_ge (a := i) (b := n) (by omega) (by omega)), fun _ => ?_⟩
              refine hG _ _ _ _ _ _ _ _ _ _ _ ?_
              refine hG _ _ _ _ _ _ _ _ _ _ _ ?_
              refine hG _ _ _ _ _ _ _ _ _ _ _ ?_
              refine hG _ _ _ _ _ _ _ _ _ _ _ ?_
              refine hG _ _ _ _ _ _ _ _ _ _ _ ?_
              refine hG _ _ _ _ _ _ _ _ _ _ _ ?_
              rw [show a + nI i = nI (A + i) from by rw [eA, nI_add]]
              repeat refine hG _ _ _ _ _ _ _ _ _ _ _ ?_
              refine ⟨⟨_, hRc.1⟩, 0, 0, by decide, by decide, rr_write hG hRc hj (by omega) (fun h1 hR1 f1 => ?_)⟩
              have y := ih (i + 1) h1 (by omega) hR1 (fc.tr f1)
              rw [nI_succ] at y
              refine hG _ _ _ _ _ _ _ _ _ _ _ ?_
              refine hG _ _ _ _ _ _ _ _ _ _ _ ?_
              exact y
          repeat refine hG _ _ _ _ _ _ _ _ _ _ _ ?_
          refine ⟨fun _ => ?_, fun y => absurd y (by decide)⟩
          refine hG _ _ _ _ _ _ _ _ _ _ _ ?_
          refine hG _ _ _ _ _ _ _ _ _ _ _ ?_
          exact loop n 0 h (by omega) hR RF.rf
        · rw [if_neg hi]
          repeat refine hG _ _ _ _ _ _ _ _ _ _ _ ?_
          refine ⟨fun y => absurd rfl y, fun _ => ?_⟩
          repeat refine hG _ _ _ _ _ _ _ _ _ _ _ ?_
          refine ⟨⟨_, hR.1⟩, 0, 0, by decide, by decide, rr_trap hG hR hj (fun h1 hR1 f1 => ?_)⟩
          refine hG _ _ _ _ _ _ _ _ _ _ _ ?_
          exact k161 [] _ h1 0 (Or.inl rfl) hR1 f1 (by rw [m_trap_ne (by decide) (by decide)]) (fun y => absurd y hi) (fun _ => by rw [eB, if_neg g3, if_pos hi])
      repeat refine hG _ _ _ _ _ _ _ _ _ _ _ ?_
      refine ⟨fun y => k79 (fun r => y r.1), fun y4 => ?_⟩
      repeat refine hG _ _ _ _ _ _ _ _ _ _ _ ?_
      refine ⟨0, 0, by decide, by decide, rr_isDevice hG ?_⟩
      cases hd : m_isDev a with
      | false =>
        repeat refine hG _ _ _ _ _ _ _ _ _ _ _ ?_
        exact ⟨fun _ => k79 (fun r => by rw [hd] at r; exact absurd r.2 (by decide)), fun y => absurd rfl y⟩
      | true =>
        obtain ⟨t, t1, t2, t3, t4⟩ := m_dev_t hd
        repeat refine hG _ _ _ _ _ _ _ _ _ _ _ ?_
        refine ⟨fun y => absurd y (by decide), fun _ => ?_⟩
        repeat refine hG _ _ _ _ _ _ _ _ _ _ _ ?_
        rw [show a - 65536 = nI t from t3]
        refine ⟨⟨_, hR.1⟩, 0, 0, by decide, by decide, rr_writeDevice hG hR hj hq hl hp hpl hz hzl hs hS hS4 t1 t2 (fun h1 hR1 f1 => ?_)⟩
        repeat refine hG _ _ _ _ _ _ _ _ _ _ _ ?_
        refine ⟨fun y => absurd y n1, fun _ => ?_⟩
        repeat refine hG _ _ _ _ _ _ _ _ _ _ _ ?_
        refine ⟨fun y => absurd z2 y, fun _ => ?_⟩
        repeat refine hG _ _ _ _ _ _ _ _ _ _ _ ?_
        refine ⟨fun y => absurd y4 y, fun _ => ?_⟩
        repeat refine hG _ _ _ _ _ _ _ _ _ _ _ ?_
        refine ⟨0, 0, by decide, by decide, rr_isDevice hG ?_⟩
        rw [hd]
        repeat refine hG _ _ _ _ _ _ _ _ _ _ _ ?_
        refine ⟨fun _ => ?_, fun y => absurd y (by decide)⟩
        exact k171 [] _ h1 0 (Or.inl rfl) (by rw [eB, if_pos ⟨y4, hd⟩, t4]) hR1 f1
    · rw [m_stores, if_neg g1, if_pos z2] at hQ
      repeat refine hG _ _ _ _ _ _ _ _ _ _ _ ?_
      refine ⟨⟨_, hR.1⟩, 0, 0, by decide, by decide, rr_trap hG hR hj (fun h1 hR1 f1 => ?_)⟩
      repeat refine hG _ _ _ _ _ _ _ _ _ _ _ ?_
      refine ⟨fun y => absurd y n1, fun _ => ?_⟩
      repeat refine hG _ _ _ _ _ _ _ _ _ _ _ ?_
      refine ⟨fun _ => ?_, fun y => absurd y z2⟩
      repeat refine hG _ _ _ _ _ _ _ _ _ _ _ ?_
      exact ⟨by decide, by decide, hQ h1 hR1 f1⟩
  · rw [m_stores, if_pos z1] at hQ
    repeat refine hG _ _ _ _ _ _ _ _ _ _ _ ?_
    refine ⟨⟨_, hR.1⟩, 0, 0, by decide, by decide, rr_trap hG hR hj (fun h1 hR1 f1 => ?_)⟩
    repeat refine hG _ _ _ _ _ _ _ _ _ _ _ ?_
    refine ⟨fun _ => ?_, fun y => absurd (Int32.not_le.mp z1) y⟩
    repeat refine hG _ _ _ _ _ _ _ _ _ _ _ ?_
    exact ⟨by decide, by decide, hQ h1 hR1 f1⟩
