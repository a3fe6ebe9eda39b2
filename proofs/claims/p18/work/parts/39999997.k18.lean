theorem c_setR {ca : Nat → Nat → Nat} {n pg rm k j N : Nat} {σ : (Nat → Nat → Int32)} {τ : (Nat → Nat → Int64)} {ρ : Nat → Nat → Option Nat} {h h' : xH} {o : Option Nat} (hC : RepC ca n pg rm σ τ ρ h) (hj : j < c_cnt n k) (hk : k = 19 ∨ k = 31 ∨ k = 33) (hN : N < c_len n pg rm k) (e : h' = x_up h (ca k j) (.inl (c_ty k, c_len n pg rm k, .inr (.inr (.inr (.inr (va_up (trO (c_len n pg rm k) (c_rf ca ρ k j)) N o))))))) : RepC ca n pg rm σ τ (r2 ρ (c_ri k j) N o) h' ∧ CF ca n h h' := by
  obtain ⟨a1, a2, a3⟩ := hC
  refine ⟨⟨fun k' j' hj' => ?_, a2, a3⟩, fun b hb => by rw [e, x_up_ne (hb k j hj)]⟩
  have hk' := c_k36 hj'
  have h0 : c_isO k = false := by rcases hk with q | q | q <;> subst q <;> rfl
  have h1 : c_isR k = true := by rcases hk with q | q | q <;> subst q <;> rfl
  by_cases hkj : k' = k ∧ j' = j
  · obtain ⟨rfl, rfl⟩ := hkj
    have key : va_up (c_rf ca ρ k' j') N o = c_rf ca (r2 ρ (c_ri k' j') N o) k' j' := by
      rcases hk with q | q | q <;> subst q
      · show va_up (ρ j') N o = r2 ρ j' N o j'
        rw [r2, va_up_self]
      · show va_up (ρ 4) N o = r2 ρ 4 N o 4
        rw [r2, va_up_self]
      · show va_up (ρ 5) N o = r2 ρ 5 N o 5
        rw [r2, va_up_self]
    rw [e, x_up_self, trO_upd hN, key]
    simp only [c_cell, h0, h1, cond_false, cond_true]
  · have hne : ca k' j' ≠ ca k j := fun q => hkj (a2 k' j' k j hj' hj q)
    rw [e, x_up_ne hne, a1 k' j' hj']
    have key : c_rf ca ρ k' j' = c_rf ca (r2 ρ (c_ri k j) N o) k' j' := by
      by_cases q19 : k' = 19
      · subst q19
        show ρ j' = r2 ρ (c_ri k j) N o j'
        rw [r2_ne]
        have hj4 : j' < n := hj'
        have hn4 := a3.1
        rcases hk with q | q | q <;> subst q
        · exact fun w => hkj ⟨rfl, w⟩
        · show j' ≠ 4
          omega
        · show j' ≠ 5
          omega
      by_cases q31 : k' = 31
      · subst q31
        show ρ 4 = r2 ρ (c_ri k j) N o 4
        rw [r2_ne]
        rcases hk with q | q | q <;> subst q
        · have hj4 : j < n := hj
          have hn4 := a3.1
          show 4 ≠ j
          omega
        · have w1 : j < 1 := hj
          have w2 : j' < 1 := hj'
          exact absurd ⟨rfl, by omega⟩ hkj
        · show 4 ≠ 5
          decide
      by_cases q33 : k' = 33
      · subst q33
        show ρ 5 = r2 ρ (c_ri k j) N o 5
        rw [r2_ne]
        rcases hk with q | q | q <;> subst q
        · have hj4 : j < n := hj
          have hn4 := a3.1
          show 5 ≠ j
          omega
        · show 5 ≠ 4
          decide
        · have w1 : j < 1 := hj
          have w2 : j' < 1 := hj'
          exact absurd ⟨rfl, by omega⟩ hkj
      rcases (by omega : k' < 19 ∨ (19 < k' ∧ k' < 31) ∨ k' = 32 ∨ 33 < k') with q | q | q | q
      · rcases (by omega : k' = 0 ∨ k' = 1 ∨ k' = 2 ∨ k' = 3 ∨ k' = 4 ∨ k' = 5 ∨ k' = 6 ∨ k' = 7 ∨ k' = 8 ∨ k' = 9 ∨ k' = 10 ∨ k' = 11 ∨ k' = 12 ∨ k' = 13 ∨ k' = 14 ∨ k' = 15 ∨ k' = 16 ∨ k' = 17 ∨ k' = 18) with w | w | w | w | w | w | w | w | w | w | w | w | w | w | w | w | w | w | w <;> subst w <;> rfl
      · rcases (by omega : k' = 20 ∨ k' = 21 ∨ k' = 22 ∨ k' = 23 ∨ k' = 24 ∨ k' = 25 ∨ k' = 26 ∨ k' = 27 ∨ k' = 28 ∨ k' = 29 ∨ k' = 30) with w | w | w | w | w | w | w | w | w | w | w <;> subst w <;> rfl
      · subst q; rfl
      · rcases (by omega : k' = 34 ∨ k' = 35) with w | w <;> subst w <;> rfl
    unfold c_cell
    rw [key]
