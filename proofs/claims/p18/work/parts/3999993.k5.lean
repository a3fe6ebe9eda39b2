theorem c_setAf {ca : Nat → Nat → Nat} {n pg rm k j : Nat} {σ σ' : (Nat → Nat → Int32)} {τ : (Nat → Nat → Int64)} {ρ : Nat → Nat → Option Nat} {h h' : xH} {g : Nat → Int32} (hC : RepC ca n pg rm σ τ ρ h) (hj : j < c_cnt n k) (h0 : c_isO k = false) (h1 : c_isR k = false) (hs : ∀ F x, (F ≠ c_A k ∨ x < c_st k * j ∨ c_st k * j + c_len n pg rm k ≤ x) → σ' F x = σ F x) (hg : g = trI (c_len n pg rm k) (fun i => σ' (c_A k) (c_st k * j + i))) (e : h' = x_up h (ca k j) (.inl (c_ty k, c_len n pg rm k, .inl g))) : RepC ca n pg rm σ' τ ρ h' ∧ CF ca n h h' := by
  obtain ⟨a1, a2, a3⟩ := hC
  refine ⟨⟨fun k' j' hj' => ?_, a2, a3⟩, fun b hb => by rw [e, x_up_ne (hb k j hj)]⟩
  have hk := c_k36 hj
  have hk' := c_k36 hj'
  have hls := c_lst (n := n) (rm := rm) hk h0 h1 a3.2.1
  by_cases hkj : k' = k ∧ j' = j
  · obtain ⟨rfl, rfl⟩ := hkj
    rw [e, x_up_self, hg]
    simp only [c_cell, h0, h1, cond_false]
  · have hne : ca k' j' ≠ ca k j := fun q => hkj (a2 k' j' k j hj' hj q)
    rw [e, x_up_ne hne, a1 k' j' hj']
    unfold c_cell
    cases g0 : c_isO k' with
    | true =>
      simp only [cond_true]
      congr 3
      apply c_obc
      intro p' hp'
      unfold c_val
      cases g1 : Nat.beq (c_fk k' p') 1 with
      | true => rfl
      | false =>
        cases g2 : Nat.beq (c_fk k' p') 2 with
        | true => rfl
        | false => rw [hs _ _ (Or.inl (c_owX hk h0 h1 (c_pos hj) hk' hp' g0 g1 g2))]
    | false =>
      cases g1 : c_isR k' with
      | true => rfl
      | false =>
        have key : trI (c_len n pg rm k') (fun i => σ (c_A k') (c_st k' * j' + i)) = trI (c_len n pg rm k') (fun i => σ' (c_A k') (c_st k' * j' + i)) := by
          funext i
          unfold trI
          by_cases hi : i < c_len n pg rm k'
          · rw [if_pos hi, if_pos hi]
            show σ (c_A k') (c_st k' * j' + i) = σ' (c_A k') (c_st k' * j' + i)
            by_cases hA : c_A k' = c_A k
            · have hkk : k' = k := by rw [← c_owA hk' g0 g1 (c_pos hj'), hA]; exact c_owA hk h0 h1 (c_pos hj)
              have hjj : j' ≠ j := fun q => hkj ⟨hkk, q⟩
              rw [hkk] at hi ⊢
              symm
              apply hs
              right
              rcases Nat.lt_or_ge j' j with q | q
              · left
                have : c_st k * (j' + 1) ≤ c_st k * j := Nat.mul_le_mul_left _ q
                rw [Nat.mul_succ] at this
                omega
              · right
                have : c_st k * (j + 1) ≤ c_st k * j' := Nat.mul_le_mul_left _ (by omega)
                rw [Nat.mul_succ] at this
                omega
            · rw [hs _ _ (Or.inl hA)]
          · rw [if_neg hi, if_neg hi]
        simp only [cond_false, key]
def k_cp (σ : (Nat → Nat → Int32)) (A a B b N : Nat) : (Nat → Nat → Int32) := fun F x => if F = B ∧ b ≤ x ∧ x < b + N then σ A (a + (x - b)) else σ F x
theorem k_cp_ne {σ : (Nat → Nat → Int32)} {A a B b N F : Nat} (h : F ≠ B) : k_cp σ A a B b N F = σ F := by
  funext x
  rw [k_cp, if_neg (fun r => h r.1)]
theorem k_cp_in {σ : (Nat → Nat → Int32)} {A a B b N i : Nat} (h : i < N) : k_cp σ A a B b N B (b + i) = σ A (a + i) := by
  rw [k_cp, if_pos ⟨rfl, by omega, by omega⟩, show b + i - b = i by omega]
theorem k_cp_out {σ : (Nat → Nat → Int32)} {A a B b N x : Nat} (h : x < b ∨ b + N ≤ x) : k_cp σ A a B b N B x = σ B x := by
  rw [k_cp, if_neg (fun r => by omega)]
def bya (F : Nat) : Bool := [6, 15, 31, 64, 103, 108, 119, 131].contains F
def BY (σ : (Nat → Nat → Int32)) : Prop := ∀ F x, bya F = true → (σ F x).toInt8.toInt32 = σ F x
theorem BY.u2 {σ : (Nat → Nat → Int32)} {F i : Nat} {v : Int32} (h : BY σ) (hv : bya F = true → v.toInt8.toInt32 = v) : BY (u2 σ F i v) := by
  intro F' x hb
  by_cases hF : F' = F
  · subst hF
    by_cases hx : x = i
    · subst hx; rw [u2_ss]; exact hv hb
    · rw [u2_sn hx]; exact h F' x hb
  · rw [u2_ne hF]; exact h F' x hb
theorem BY.cp {σ : (Nat → Nat → Int32)} {A a B b N : Nat} (h : BY σ) (hA : bya B = true → bya A = true) : BY (k_cp σ A a B b N) := by
  intro F x hb
  unfold k_cp
  split
  · next q => exact h A _ (hA (by rw [← q.1]; exact hb))
  · exact h F x hb
theorem cc_cp {G : xG} {d M mc ms nx cs sl k1 j1 k2 j2 s t N n pg rm : Nat} {ca : Nat → Nat → Nat} {σ : (Nat → Nat → Int32)} {τ : (Nat → Nat → Int64)} {ρ : Nat → Nat → Option Nat} {h : xH} {lv : xL} {r : List Value} {Q : xQ} {ty : FieldType} {sp dp nn : Int32} (hC : RepC ca n pg rm σ τ ρ h) (hj1 : j1 < c_cnt n k1) (hj2 : j2 < c_cnt n k2) (a0 : c_isO k1 = false) (a1 : c_isR k1 = false) (b0 : c_isO k2 = false) (b1 : c_isR k2 = false) (ht : c_ty k1 = c_ty k2) (hty : x_tys[c_ty k2]? = some ty) (hr : refKind ty = false) (es : sp = nI s) (et : dp = nI t) (en : nn = nI N) (hs : s + N ≤ c_len n pg rm k1) (ht2 : t + N ≤ c_len n pg rm k2) (hf : ∀ i, i < N → fits ty (.int (σ (c_A k1) (c_st k1 * j1 + s + i))) = true) (q : ∀ h', RepC ca n pg rm (k_cp σ (c_A k1) (c_st k1 * j1 + s) (c_A k2) (c_st k2 * j2 + t) N) τ ρ h' → CF ca n h h' → G d M mc ms nx lv r h' cs sl Q) : ∃ (t n0 n1 : Nat) (f g : Nat → Int32) (ty : FieldType), h (ca k1 j1) = some (.inl (t, n0, .inl f)) ∧ h (ca k2 j2) = some (.inl (t, n1, .inl g)) ∧ x_tys[t]? = some ty ∧ refKind ty = false ∧ ¬ sp < 0 ∧ ¬ dp < 0 ∧ ¬ nn < 0 ∧ sp.toNatClampNeg + nn.toNatClampNeg ≤ n0 ∧ dp.toNatClampNeg + nn.toNatClampNeg ≤ n1 ∧ (∀ i, i < nn.toNatClampNeg → fits ty (.int (f (sp.toNatClampNeg + i))) = true) ∧ ∀ h' : xH, h' = x_up h (ca k2 j2) (.inl (t, n1, .inl (va_cpy f g sp.toNatClampNeg dp.toNatClampNeg nn.toNatClampNeg))) → G d M mc ms nx lv r h' cs sl Q := by
  subst es et en
  have c1 := hC.1 k1 j1 hj1
  have c2 := hC.1 k2 j2 hj2
  have l1 : c_len n pg rm k1 < 2 ^ 31 := Nat.lt_of_le_of_lt (c_lst (c_k36 hj1) a0 a1 hC.2.2.2.1) (c_st31 (c_k36 hj1))
  have l2 : c_len n pg rm k2 < 2 ^ 31 := Nat.lt_of_le_of_lt (c_lst (c_k36 hj2) b0 b1 hC.2.2.2.1) (c_st31 (c_k36 hj2))
  simp only [c_cell, a0, a1, cond_false, ht] at c1
  simp only [c_cell, b0, b1, cond_false] at c2
  rw [nI_clamp (show s < 2 ^ 31 by omega), nI_clamp (show t < 2 ^ 31 by omega), nI_clamp (show N < 2 ^ 31 by omega)]
  refine ⟨_, _, _, _, _, ty, c1, c2, hty, hr, nI_pos (by omega), nI_pos (by omega), nI_pos (by omega), hs, ht2, fun i hi => ?_, fun h' e => ?_⟩
  · rw [trI, if_pos (by omega), ← Nat.add_assoc]
    exact hf i hi
  · obtain ⟨u, v⟩ := c_setAf (h' := h') (σ' := k_cp σ (c_A k1) (c_st k1 * j1 + s) (c_A k2) (c_st k2 * j2 + t) N) hC hj2 b0 b1 (fun F x hx => by
      unfold k_cp
      rw [if_neg]
      rintro ⟨e1, e2, e3⟩
      rcases hx with w | w | w
      · exact w e1
      · omega
      · omega) (by
      funext i
      by_cases hi : t ≤ i ∧ i < t + N
      · rw [pk_cpy_in hi.1 hi.2]
        unfold trI
        rw [if_pos (by omega), if_pos (by omega)]
        show σ (c_A k1) (c_st k1 * j1 + (s + (i - t))) = k_cp σ (c_A k1) (c_st k1 * j1 + s) (c_A k2) (c_st k2 * j2 + t) N (c_A k2) (c_st k2 * j2 + i)
        rw [show c_st k2 * j2 + i = (c_st k2 * j2 + t) + (i - t) by omega, k_cp_in (by omega), Nat.add_assoc]
      · rw [pk_cpy_out (by omega)]
        unfold trI
        by_cases hl : i < c_len n pg rm k2
        · rw [if_pos hl, if_pos hl]
          show σ (c_A k2) (c_st k2 * j2 + i) = k_cp σ (c_A k1) (c_st k1 * j1 + s) (c_A k2) (c_st k2 * j2 + t) N (c_A k2) (c_st k2 * j2 + i)
          rw [k_cp_out (by omega)]
        · rw [if_neg hl, if_neg hl]) e
    exact q h' u v
theorem by_fits {σ : (Nat → Nat → Int32)} (h : BY σ) {F x : Nat} (hF : bya F = true) : fits .byte (.int (σ F x)) = true := by
  rw [← h F x hF]
  exact pk_fb _
