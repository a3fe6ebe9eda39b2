def NC (ca : Nat → Nat → Nat) (n a : Nat) : Prop := ∀ k j, j < c_cnt n k → a ≠ ca k j
def CX (ca : Nat → Nat → Nat) (n : Nat) (h h' : xH) : Prop := ∀ b, NC ca n b → ¬ h b = none → h' b = h b
theorem CX.rf {ca : Nat → Nat → Nat} {n : Nat} {h : xH} : CX ca n h h := fun _ _ _ => rfl
theorem CX.cf {ca : Nat → Nat → Nat} {n : Nat} {h h' : xH} (a : CF ca n h h') : CX ca n h h' := fun b hb _ => a b hb
theorem CX.tr {ca : Nat → Nat → Nat} {n : Nat} {h h1 h2 : xH} (a : CX ca n h h1) (b : CX ca n h1 h2) : CX ca n h h2 := fun q q1 q2 => (b q q1 (by rw [a q q1 q2]; exact q2)).trans (a q q1 q2)
theorem CX.nw {ca : Nat → Nat → Nat} {n a : Nat} {h h' : xH} {c : xE} (ha : h a = none) (e : h' = x_up h a c) : CX ca n h h' := fun b _ h2 => by
  rw [e, x_up_ne (by intro q; subst q; exact h2 ha)]
theorem c_oth {ca : Nat → Nat → Nat} {n pg rm a : Nat} {σ : (Nat → Nat → Int32)} {τ : (Nat → Nat → Int64)} {ρ : Nat → Nat → Option Nat} {h h' : xH} {c : xE} (hC : RepC ca n pg rm σ τ ρ h) (ha : NC ca n a) (e : h' = x_up h a c) : RepC ca n pg rm σ τ ρ h' :=
  ⟨fun k j hj => by rw [e, x_up_ne (Ne.symm (ha k j hj))]; exact hC.1 k j hj, hC.2⟩
def k_cx (σ : (Nat → Nat → Int32)) (f : Nat → Int32) (s B b N : Nat) : (Nat → Nat → Int32) := fun F x => if F = B ∧ b ≤ x ∧ x < b + N then f (s + (x - b)) else σ F x
theorem k_cx_ne {σ : (Nat → Nat → Int32)} {f : Nat → Int32} {s B b N F : Nat} (h : F ≠ B) : k_cx σ f s B b N F = σ F := by
  funext x; unfold k_cx; rw [if_neg (fun q => h q.1)]
theorem k_cx_in {σ : (Nat → Nat → Int32)} {f : Nat → Int32} {s B b N i : Nat} (h : i < N) : k_cx σ f s B b N B (b + i) = f (s + i) := by
  unfold k_cx; rw [if_pos ⟨rfl, by omega, by omega⟩]; congr 1; omega
theorem k_cx_out {σ : (Nat → Nat → Int32)} {f : Nat → Int32} {s B b N x : Nat} (h : x < b ∨ b + N ≤ x) : k_cx σ f s B b N B x = σ B x := by
  unfold k_cx; rw [if_neg (by omega)]
theorem cc_cx {G : xG} {d M mc ms nx cs sl L k2 j2 s t N n pg rm a : Nat} {ca : Nat → Nat → Nat} {σ : (Nat → Nat → Int32)} {τ : (Nat → Nat → Int64)} {ρ : Nat → Nat → Option Nat} {h : xH} {lv : xL} {r : List Value} {Q : xQ} {ty : FieldType} {sp dp nn : Int32} {f : Nat → Int32} (hC : RepC ca n pg rm σ τ ρ h) (ha : h a = some (.inl (c_ty k2, L, .inl f))) (hL : L < 2 ^ 31) (hj2 : j2 < c_cnt n k2) (b0 : c_isO k2 = false) (b1 : c_isR k2 = false) (hty : x_tys[c_ty k2]? = some ty) (hr : refKind ty = false) (es : sp = nI s) (et : dp = nI t) (en : nn = nI N) (hs : s + N ≤ L) (ht2 : t + N ≤ c_len n pg rm k2) (hf : ∀ i, i < N → fits ty (.int (f (s + i))) = true) (q : ∀ h', RepC ca n pg rm (k_cx σ f s (c_A k2) (c_st k2 * j2 + t) N) τ ρ h' → CF ca n h h' → G d M mc ms nx lv r h' cs sl Q) : ∃ (t' n0 n1 : Nat) (f' g : Nat → Int32) (ty : FieldType), h a = some (.inl (t', n0, .inl f')) ∧ h (ca k2 j2) = some (.inl (t', n1, .inl g)) ∧ x_tys[t']? = some ty ∧ refKind ty = false ∧ ¬ sp < 0 ∧ ¬ dp < 0 ∧ ¬ nn < 0 ∧ sp.toNatClampNeg + nn.toNatClampNeg ≤ n0 ∧ dp.toNatClampNeg + nn.toNatClampNeg ≤ n1 ∧ (∀ i, i < nn.toNatClampNeg → fits ty (.int (f' (sp.toNatClampNeg + i))) = true) ∧ ∀ h' : xH, h' = x_up h (ca k2 j2) (.inl (t', n1, .inl (va_cpy f' g sp.toNatClampNeg dp.toNatClampNeg nn.toNatClampNeg))) → G d M mc ms nx lv r h' cs sl Q := by
  subst es et en
  have c2 := hC.1 k2 j2 hj2
  have l2 : c_len n pg rm k2 < 2 ^ 31 := Nat.lt_of_le_of_lt (c_lst (c_k36 hj2) b0 b1 hC.2.2.2.1) (c_st31 (c_k36 hj2))
  simp only [c_cell, b0, b1, cond_false] at c2
  rw [nI_clamp (show s < 2 ^ 31 by omega), nI_clamp (show t < 2 ^ 31 by omega), nI_clamp (show N < 2 ^ 31 by omega)]
  refine ⟨_, _, _, _, _, ty, ha, c2, hty, hr, nI_pos (by omega), nI_pos (by omega), nI_pos (by omega), hs, ht2, hf, fun h' e => ?_⟩
  obtain ⟨u, v⟩ := c_setAf (h' := h') (σ' := k_cx σ f s (c_A k2) (c_st k2 * j2 + t) N) hC hj2 b0 b1 (fun F x hx => by
      unfold k_cx
      rw [if_neg]
      rintro ⟨e1, e2, e3⟩
      rcases hx with w | w | w
      · exact w e1
      · omega
      · omega) (by
      funext i
      by_cases hi : t ≤ i ∧ i < t + N
      · rw [pk_cpy_in hi.1 hi.2]
        unfold trI
        rw [if_pos (by omega)]
        show f (s + (i - t)) = k_cx σ f s (c_A k2) (c_st k2 * j2 + t) N (c_A k2) (c_st k2 * j2 + i)
        rw [show c_st k2 * j2 + i = (c_st k2 * j2 + t) + (i - t) by omega, k_cx_in (by omega)]
      · rw [pk_cpy_out (by omega)]
        unfold trI
        by_cases hl : i < c_len n pg rm k2
        · rw [if_pos hl, if_pos hl]
          show σ (c_A k2) (c_st k2 * j2 + i) = k_cx σ f s (c_A k2) (c_st k2 * j2 + t) N (c_A k2) (c_st k2 * j2 + i)
          rw [k_cx_out (by omega)]
        · rw [if_neg hl, if_neg hl]) e
  exact q h' u v
theorem BY_cx {σ : (Nat → Nat → Int32)} {f : Nat → Int32} {s B b N : Nat} (h : BY σ) (hf : bya B = true → ∀ i, i < N → (f (s + i)).toInt8.toInt32 = f (s + i)) : BY (k_cx σ f s B b N) := by
  intro F x hF
  unfold k_cx
  split
  · rename_i q
    have := hf (q.1 ▸ hF) (x - b) (by omega)
    exact this
  · exact h F x hF
def xEn (kd vl : Int32) (bv : Value) (ct : Int64) (lf : Int32) : List Value := [.int kd, .int vl, bv, .long ct, .int lf]
theorem kk_einit {G : xG} {ro : xR} {sv : Nat → Value} (hG : x_Good G ro sv) {d a : Nat} {ca : Nat → Nat → Nat} {n pg rm : Nat} {σ : Nat → Nat → Int32} {τ : Nat → Nat → Int64} {ρ : Nat → Nat → Option Nat} {h : xH} {Q : xQ} {kd vl : Int32} {bv : Value} (hC : RepC ca n pg rm σ τ ρ h) (hA : NC ca n a) (ha : h a = some (.inr (1, [.int 0, .int 0, .null, .long 0, .int 0]))) (hb : bv = .null ∨ ∃ b, bv = .ref b) (hQ : ∀ h', h' a = some (.inr (1, xEn kd vl bv 0 0)) → (∀ b, b ≠ a → h' b = h b) → RepC ca n pg rm σ τ ρ h' → Q none h') : G d n_X1_init 0 0 0 [(0, .ref a), (1, .int kd), (2, .int vl), (3, bv)] [] h 0 0 Q := by
  rcases hb with e | ⟨b, e⟩ <;> subst e <;> (
    repeat refine hG _ _ _ _ _ _ _ _ _ _ _ ?_
    refine ⟨_, ha, (show 0 < 5 by decide), rfl, rfl, fun h1 e1 => ?_⟩
    have a1 : h1 a = some (.inr (1, [.int kd, .int 0, .null, .long 0, .int 0])) := by rw [e1, x_up_self]; rfl
    repeat refine hG _ _ _ _ _ _ _ _ _ _ _ ?_
    refine ⟨_, a1, (show 1 < 5 by decide), rfl, rfl, fun h2 e2 => ?_⟩
    have a2 : h2 a = some (.inr (1, [.int kd, .int vl, .null, .long 0, .int 0])) := by rw [e2, x_up_self]; rfl
    repeat refine hG _ _ _ _ _ _ _ _ _ _ _ ?_
    refine ⟨_, a2, (show 2 < 5 by decide), rfl, rfl, fun h3 e3 => ?_⟩
    repeat refine hG _ _ _ _ _ _ _ _ _ _ _ ?_
    refine ⟨by decide, by decide, hQ h3 (by rw [e3, x_up_self]; rfl) (fun b hb => by rw [e3, x_up_ne hb, e2, x_up_ne hb, e1, x_up_ne hb]) (c_oth (c_oth (c_oth hC hA e1) hA e2) hA e3)⟩)
