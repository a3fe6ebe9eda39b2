def m_ln (w : Int32) : Int32 := if m_f3 w = 2 then 4 else if m_f3 w &&& 1 = 1 then 2 else 1
def m_by (σ : Nat → Nat → Int32) (j a : Nat) : Int32 := σ 15 (4096 * j + a) &&& 255
def m_lval (σ : Nat → Nat → Int32) (j : Nat) (w : Int32) (a : Nat) : Int32 := if m_f3 w = 0 then (m_by σ j a).toInt8.toInt32 else if m_f3 w = 1 then (m_by σ j a ||| m_sl (m_by σ j (a + 1)) 8).toInt16.toInt32 else if m_f3 w = 2 then m_word σ j a else if m_f3 w = 4 then m_by σ j a else m_by σ j a ||| m_sl (m_by σ j (a + 1)) 8
def m_loads (σ : Nat → Nat → Int32) (j q : Nat) (w a : Int32) : Nat → Nat → Int32 :=
  if m_f3 w = 3 ∨ ¬ m_f3 w ≤ 5 then m_trap σ j 2 w
  else if ¬ a &&& (m_ln w - 1) = 0 then m_trap σ j 4 a
  else if m_ln w = 4 ∧ m_isDev a = true then m_goesOn (m_rds σ j q (a - 65536).toNatClampNeg) j (m_n5 (m_sr w 7)) (m_rdv σ j q (a - 65536).toNatClampNeg)
  else if ¬ (0 ≤ a ∧ a ≤ σ 4 0 - m_ln w) then m_trap σ j 5 a
  else m_goesOn σ j (m_n5 (m_sr w 7)) (m_lval σ j w a.toNatClampNeg)
theorem m_dev_t {a : Int32} (h : m_isDev a = true) : ∃ t, t ≤ 40 ∧ t % 4 = 0 ∧ a - 65536 = nI t ∧ (a - 65536).toNatClampNeg = t := by
  obtain ⟨h1, h2, h3⟩ := of_decide_eq_true h
  obtain ⟨A, hA, e⟩ := nI_of (x := a) (fun z => Int32.not_lt.mpr h1 (Int32.lt_trans z (by decide)))
  subst e
  have b1 := (nI_leI (a := 65536) (b := A) (by decide) hA).mp h1
  have b2 := (nI_leI (a := A) (b := 65576) hA (by decide)).mp h2
  have e3 : nI A &&& 3 = nI (A % 2 ^ 2) := pk_andN (by omega) 2 rfl
  rw [e3] at h3
  have b3 := (nI_eq (a := A % 2 ^ 2) (b := 0) (by omega) (by decide)).mp h3
  have e4 : nI A - 65536 = nI (A - 65536) := by
    have z : nI A = nI (A - 65536) + nI 65536 := by rw [nI_add]; congr 1; omega
    rw [z]
    exact Int32.add_sub_cancel _ _
  exact ⟨A - 65536, by omega, by omega, e4, by rw [e4]; exact nI_clamp (by omega)⟩
theorem rr_loads {G : xG} {ro : xR} {sv : Nat → Value} (hG : x_Good G ro sv) {d m j q S : Nat} {ra : Nat → Nat} {σ : Nat → Nat → Int32} {τ : Nat → Nat → Int64} {h : xH} {Q : xQ} {w a : Int32} (hR : RepR m ra σ τ h) (hj : j < 4) (hq : σ 33 j = nI q) (hl : q ≤ 16) (hs : σ 4 0 = nI S) (hS : S ≤ 4096) (hS4 : 4 ≤ S) (hQ : ∀ h', RepR m ra (m_loads σ j q w a) τ h' → RF m ra h h' → Q none h') : G (d + 2) n_X12_loads 0 0 0 [(0, .ref m), (1, .int (nI j)), (2, .int w), (3, .int a)] [] h 0 0 Q := by
  have kT : ∀ c v : Int32, m_loads σ j q w a = m_trap σ j c v → (∀ h', RepR m ra (m_trap σ j c v) τ h' → RF m ra h h' → Q none h') := fun c v e => by rw [← e]; exact hQ
  have k117 : m_loads σ j q w a = (if ¬ (0 ≤ a ∧ a ≤ σ 4 0 - m_ln w) then m_trap σ j 5 a else m_goesOn σ j (m_n5 (m_sr w 7)) (m_lval σ j w a.toNatClampNeg)) → ¬ (m_f3 w = 3 ∨ ¬ m_f3 w ≤ 5) → G (d + 2) n_X12_loads 0 0 117 [(6, .int (nI (m_n5 (m_sr w 7)))), (5, .int (m_ln w)), (4, .int (m_f3 w)), (0, .ref m), (1, .int (nI j)), (2, .int w), (3, .int a)] [] h 0 0 Q := by
    intro eL hb
    rw [eL] at hQ
    repeat refine hG _ _ _ _ _ _ _ _ _ _ _ ?_
    refine ⟨⟨_, hR.1⟩, 0, 0, by decide, by decide, rr_isIn hG hR ?_⟩
    by_cases hi : 0 ≤ a ∧ a ≤ σ 4 0 - m_ln w
    · rw [if_pos hi]
      rw [if_neg (fun z => z hi)] at hQ
      have k232 : ∀ v : Int32, v = m_lval σ j w a.toNatClampNeg → G (d + 2) n_X12_loads 0 0 232 [(6, .int (nI (m_n5 (m_sr w 7)))), (5, .int (m_ln w)), (4, .int (m_f3 w)), (0, .ref m), (1, .int (nI j)), (2, .int w), (3, .int a)] [.int v, .int (nI (m_n5 (m_sr w 7))), .int (nI j), .ref m] h 0 0 Q := by
        intro v hv
        rw [← hv] at hQ
        repeat refine hG _ _ _ _ _ _ _ _ _ _ _ ?_
        refine ⟨⟨_, hR.1⟩, 0, 0, by decide, by decide, rr_goesOn hG hR hj (m_n5_lt _) (fun h1 hR1 f1 => ?_)⟩
        repeat refine hG _ _ _ _ _ _ _ _ _ _ _ ?_
        exact ⟨by decide, by decide, hQ h1 hR1 f1⟩
      repeat refine hG _ _ _ _ _ _ _ _ _ _ _ ?_
      refine ⟨fun _ => ?_, fun z => absurd z (by decide)⟩
      have key : ∀ n : Nat, n ≤ 4 → m_ln w = nI n → ∃ A, a = nI A ∧ A + n ≤ 4096 ∧ a.toNatClampNeg = A := by
        intro n hn e
        obtain ⟨A, e1, e2⟩ := m_inN (n := n) hs hS (by omega) hi.1 (by rw [← e]; exact hi.2)
        exact ⟨A, e1, by omega, by rw [e1]; exact nI_clamp (by omega)⟩
      repeat refine hG _ _ _ _ _ _ _ _ _ _ _ ?_
      refine ⟨fun f0 => ?_, fun f0 => ?_⟩
      · repeat refine hG _ _ _ _ _ _ _ _ _ _ _ ?_
        refine ⟨fun f1 => ?_, fun f1 => ?_⟩
        · repeat refine hG _ _ _ _ _ _ _ _ _ _ _ ?_
          refine ⟨fun f2 => ?_, fun f2 => ?_⟩
          · repeat refine hG _ _ _ _ _ _ _ _ _ _ _ ?_
            refine ⟨fun f4 => ?_, fun f4 => ?_⟩
            · have f5 : m_f3 w = 5 := by
                have hf : m_f3 w = nI (m_n3 (m_sr w 12)) := m_n3_e _
                have hl3 := m_n3_lt (m_sr w 12)
                have g0 : ¬ m_f3 w = 0 := f0
                have g1 : ¬ m_f3 w = 1 := f1
                have g2 : ¬ m_f3 w = 2 := f2
                have g4 : ¬ m_f3 w = 4 := f4
                have g3 : ¬ m_f3 w = 3 := fun z => hb (Or.inl z)
                have g6 : m_f3 w ≤ 5 := Decidable.not_not.mp (fun z => hb (Or.inr z))
                generalize m_n3 (m_sr w 12) = k at hf hl3
                rw [hf] at g0 g1 g2 g3 g4 g6 ⊢
                rcases (by omega : k = 0 ∨ k = 1 ∨ k = 2 ∨ k = 3 ∨ k = 4 ∨ k = 5 ∨ k = 6 ∨ k = 7) with e | e | e | e | e | e | e | e <;> subst e
                · exact absurd rfl g0
                · exact absurd rfl g1
                · exact absurd rfl g2
                · exact absurd rfl g3
                · exact absurd rfl g4
                · rfl
                · exact absurd g6 (by decide)
                · exact absurd g6 (by decide)
              obtain ⟨A, e1, e2, e3⟩ := key 2 (by decide) (by rw [m_ln, if_neg f2, f5]; decide)
              rw [e3] at k232
              subst e1
              repeat refine hG _ _ _ _ _ _ _ _ _ _ _ ?_
              refine ⟨⟨_, hR.1⟩, 0, 0, by decide, by decide, rr_read hG hR hj (by omega) ?_⟩
              repeat refine hG _ _ _ _ _ _ _ _ _ _ _ ?_
              rw [show nI A + 1 = nI (A + 1) from nI_1 A]
              refine ⟨⟨_, hR.1⟩, 0, 0, by decide, by decide, rr_read hG hR hj (by omega) ?_⟩
              refine hG _ _ _ _ _ _ _ _ _ _ _ ?_
              refine hG _ _ _ _ _ _ _ _ _ _ _ ?_
              refine hG _ _ _ _ _ _ _ _ _ _ _ ?_
              exact k232 _ (by rw [m_lval, if_neg f0, if_neg f1, if_neg f2, if_neg f4]; rfl)
            · obtain ⟨A, e1, e2, e3⟩ := key 1 (by decide) (by rw [m_ln, if_neg f2, show m_f3 w = 4 from f4]; decide)
              rw [e3] at k232
              subst e1
              repeat refine hG _ _ _ _ _ _ _ _ _ _ _ ?_
              refine ⟨⟨_, hR.1⟩, 0, 0, by decide, by decide, rr_read hG hR hj (by omega) ?_⟩
              refine hG _ _ _ _ _ _ _ _ _ _ _ ?_
              exact k232 _ (by rw [m_lval, if_neg f0, if_neg f1, if_neg f2, if_pos f4]; rfl)
          · obtain ⟨A, e1, e2, e3⟩ := key 4 (by decide) (by rw [m_ln, if_pos f2]; rfl)
            rw [e3] at k232
            subst e1
            repeat refine hG _ _ _ _ _ _ _ _ _ _ _ ?_
            refine ⟨⟨_, hR.1⟩, 0, 0, by decide, by decide, rr_word hG hR hj (by omega) ?_⟩
            refine hG _ _ _ _ _ _ _ _ _ _ _ ?_
            exact k232 _ (by rw [m_lval, if_neg f0, if_neg f1, if_pos f2])
        · obtain ⟨A, e1, e2, e3⟩ := key 2 (by decide) (by rw [m_ln, show m_f3 w = 1 from f1]; decide)
          rw [e3] at k232
          subst e1
          repeat refine hG _ _ _ _ _ _ _ _ _ _ _ ?_
          refine ⟨⟨_, hR.1⟩, 0, 0, by decide, by decide, rr_read hG hR hj (by omega) ?_⟩
          repeat refine hG _ _ _ _ _ _ _ _ _ _ _ ?_
          rw [show nI A + 1 = nI (A + 1) from nI_1 A]
          refine ⟨⟨_, hR.1⟩, 0, 0, by decide, by decide, rr_read hG hR hj (by omega) ?_⟩
          refine hG _ _ _ _ _ _ _ _ _ _ _ ?_
          refine hG _ _ _ _ _ _ _ _ _ _ _ ?_
          refine hG _ _ _ _ _ _ _ _ _ _ _ ?_
          refine hG _ _ _ _ _ _ _ _ _ _ _ ?_
          refine hG _ _ _ _ _ _ _ _ _ _ _ ?_
          exact k232 _ (by rw [m_lval, if_neg f0, if_pos f1]; rfl)
      · obtain ⟨A, e1, e2, e3⟩ := key 1 (by decide) (by rw [m_ln, show m_f3 w = 0 from f0]; decide)
        rw [e3] at k232
        subst e1
        repeat refine hG _ _ _ _ _ _ _ _ _ _ _ ?_
        refine ⟨⟨_, hR.1⟩, 0, 0, by decide, by decide, rr_read hG hR hj (by omega) ?_⟩
        refine hG _ _ _ _ _ _ _ _ _ _ _ ?_
        refine hG _ _ _ _ _ _ _ _ _ _ _ ?_
        exact k232 _ (by rw [m_lval, if_pos f0]; rfl)
    · rw [if_neg hi]
      rw [if_pos hi] at hQ
      repeat refine hG _ _ _ _ _ _ _ _ _ _ _ ?_
      refine ⟨fun z => absurd rfl z, fun _ => ?_⟩
      repeat refine hG _ _ _ _ _ _ _ _ _ _ _ ?_
      refine ⟨⟨_, hR.1⟩, 0, 0, by decide, by decide, rr_trap hG hR hj (fun h1 hR1 f1 => ?_)⟩
      repeat refine hG _ _ _ _ _ _ _ _ _ _ _ ?_
      exact ⟨by decide, by decide, hQ h1 hR1 f1⟩
  have k43 : G (d + 2) n_X12_loads 0 0 43 [(6, .int (nI (m_n5 (m_sr w 7)))), (5, .int (m_ln w)), (4, .int (m_f3 w)), (0, .ref m), (1, .int (nI j)), (2, .int w), (3, .int a)] [] h 0 0 Q := by
    have k55 : (m_f3 w = 3 ∨ ¬ m_f3 w ≤ 5) → G (d + 2) n_X12_loads 0 0 55 [(6, .int (nI (m_n5 (m_sr w 7)))), (5, .int (m_ln w)), (4, .int (m_f3 w)), (0, .ref m), (1, .int (nI j)), (2, .int w), (3, .int a)] [] h 0 0 Q := by
      intro e
      rw [m_loads, if_pos e] at hQ
      repeat refine hG _ _ _ _ _ _ _ _ _ _ _ ?_
      refine ⟨⟨_, hR.1⟩, 0, 0, by decide, by decide, rr_trap hG hR hj (fun h1 hR1 f1 => ?_)⟩
      repeat refine hG _ _ _ _ _ _ _ _ _ _ _ ?_
      exact ⟨by decide, by decide, hQ h1 hR1 f1⟩
    repeat refine hG _ _ _ _ _ _ _ _ _ _ _ ?_
    refine ⟨fun z => k55 (Or.inl z), fun z1 => ?_⟩
    repeat refine hG _ _ _ _ _ _ _ _ _ _ _ ?_
    refine ⟨fun z2 => ?_, fun z => k55 (Or.inr z)⟩
    have hb : ¬ (m_f3 w = 3 ∨ ¬ m_f3 w ≤ 5) := fun r => r.elim z1 (fun r => r z2)
    repeat refine hG _ _ _ _ _ _ _ _ _ _ _ ?_
    refine ⟨fun z3 => ?_, fun z3 => ?_⟩
    · repeat refine hG _ _ _ _ _ _ _ _ _ _ _ ?_
      have eB : m_loads σ j q w a = (if m_ln w = 4 ∧ m_isDev a = true then m_goesOn (m_rds σ j q (a - 65536).toNatClampNeg) j (m_n5 (m_sr w 7)) (m_rdv σ j q (a - 65536).toNatClampNeg) else if ¬ (0 ≤ a ∧ a ≤ σ 4 0 - m_ln w) then m_trap σ j 5 a else m_goesOn σ j (m_n5 (m_sr w 7)) (m_lval σ j w a.toNatClampNeg)) := by
        rw [m_loads, if_neg hb, if_neg (fun r => r z3)]
      refine ⟨fun z4 => k117 (by rw [eB, if_neg (fun r => z4 r.1)]) hb, fun z4 => ?_⟩
      repeat refine hG _ _ _ _ _ _ _ _ _ _ _ ?_
      refine ⟨0, 0, by decide, by decide, rr_isDevice hG ?_⟩
      cases hd : m_isDev a with
      | false =>
        repeat refine hG _ _ _ _ _ _ _ _ _ _ _ ?_
        exact ⟨fun _ => k117 (by rw [eB, if_neg (fun r => by rw [hd] at r; exact absurd r.2 (by decide))]) hb, fun z => absurd rfl z⟩
      | true =>
        rw [eB, if_pos ⟨z4, hd⟩] at hQ
        obtain ⟨t, t1, t2, t3, t4⟩ := m_dev_t hd
        rw [t4] at hQ
        repeat refine hG _ _ _ _ _ _ _ _ _ _ _ ?_
        refine ⟨fun z => absurd z (by decide), fun _ => ?_⟩
        repeat refine hG _ _ _ _ _ _ _ _ _ _ _ ?_
        rw [show a - 65536 = nI t from t3]
        refine ⟨⟨_, hR.1⟩, 0, 0, by decide, by decide, rr_readDevice hG hR hj hq hl t1 t2 (fun h1 hR1 f1 => ?_)⟩
        repeat refine hG _ _ _ _ _ _ _ _ _ _ _ ?_
        refine ⟨⟨_, hR1.1⟩, 0, 0, by decide, by decide, rr_goesOn hG hR1 hj (m_n5_lt _) (fun h2 hR2 f2 => ?_)⟩
        repeat refine hG _ _ _ _ _ _ _ _ _ _ _ ?_
        exact ⟨by decide, by decide, hQ h2 hR2 (f1.tr f2)⟩
    · rw [m_loads, if_neg hb, if_pos z3] at hQ
      repeat refine hG _ _ _ _ _ _ _ _ _ _ _ ?_
      refine ⟨⟨_, hR.1⟩, 0, 0, by decide, by decide, rr_trap hG hR hj (fun h1 hR1 f1 => ?_)⟩
      repeat refine hG _ _ _ _ _ _ _ _ _ _ _ ?_
      exact ⟨by decide, by decide, hQ h1 hR1 f1⟩
  rw [← m_n5_e] at k43
  have k32 : ∀ v : Int32, v = m_ln w → G (d + 2) n_X12_loads 0 0 32 [(4, .int (m_f3 w)), (0, .ref m), (1, .int (nI j)), (2, .int w), (3, .int a)] [.int v] h 0 0 Q := by
    intro v hv
    subst hv
    refine hG _ _ _ _ _ _ _ _ _ _ _ ?_
    refine hG _ _ _ _ _ _ _ _ _ _ _ ?_
    refine hG _ _ _ _ _ _ _ _ _ _ _ ?_
    refine hG _ _ _ _ _ _ _ _ _ _ _ ?_
    refine hG _ _ _ _ _ _ _ _ _ _ _ ?_
    refine hG _ _ _ _ _ _ _ _ _ _ _ ?_
    refine hG _ _ _ _ _ _ _ _ _ _ _ ?_
    exact k43
  repeat refine hG _ _ _ _ _ _ _ _ _ _ _ ?_
  refine ⟨fun z => ?_, fun z => ?_⟩
  · repeat refine hG _ _ _ _ _ _ _ _ _ _ _ ?_
    refine ⟨fun z1 => ?_, fun z1 => ?_⟩
    · refine hG _ _ _ _ _ _ _ _ _ _ _ ?_
      exact k32 1 (by rw [m_ln, if_neg z, if_neg z1])
    · refine hG _ _ _ _ _ _ _ _ _ _ _ ?_
      refine hG _ _ _ _ _ _ _ _ _ _ _ ?_
      exact k32 2 (by rw [m_ln, if_neg z, if_pos z1])
  · refine hG _ _ _ _ _ _ _ _ _ _ _ ?_
    refine hG _ _ _ _ _ _ _ _ _ _ _ ?_
    exact k32 4 (by rw [m_ln, if_pos z])
