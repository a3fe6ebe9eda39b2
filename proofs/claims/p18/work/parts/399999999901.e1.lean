def w_f (f : Nat) : Bool := [15, 16, 17, 18, 20, 21, 22, 23, 24, 25, 26, 27, 28, 29, 30, 31, 33, 35].contains f
def w_s (f : Nat) : Nat := if f = 100 then 16 else if f = 102 then 4 else if f = 103 then 128 else if f = 105 then 16 else if f = 108 then 32 else v_s f
def w_in (j f i : Nat) : Prop := ((15 ≤ f ∧ f ≤ 37) ∨ (100 ≤ f ∧ f ≤ 108)) ∧ w_s f * j ≤ i ∧ i < w_s f * j + w_s f
def w_F (j : Nat) (u u' : (Nat → Nat → Int32)) : Prop := ∀ f i, u' f i = u f i ∨ w_in j f i
def w_E (S j : Nat) (s u : (Nat → Nat → Int32)) : Prop := ∀ f i, w_f f = true → i < v_s f → (f = 15 → i < S) → u f (v_s f * j + i) = s f (v_s f * j + i)
def w_K (j : Nat) (s u : (Nat → Nat → Int32)) : Prop := nb (u 101 j) 15 ∧ ∀ i, i < cl (s 33 j) → u 100 (16 * j + (cl (u 101 j) + i) % 16) = s 32 (16 * j + i)
def w_P (j : Nat) (s u : (Nat → Nat → Int32)) : Prop := nb (u 104 j) 3 ∧ ∀ i, i < cl (s 35 j) → u 102 (4 * j + (cl (u 104 j) + i) % 4) = s 34 (4 * j + i) ∧ 1 ≤ cl (s 34 (4 * j + i)) ∧ ∀ t, t < cl (s 34 (4 * j + i)) → u 103 (128 * j + (32 * ((cl (u 104 j) + i) % 4) + t)) = s 36 (128 * j + (32 * i + t))
def w_A (j : Nat) (s : (Nat → Nat → Int32)) : Prop := s 17 j &&& -4 = s 17 j ∧ s 18 (7 * j + 2) &&& -4 = s 18 (7 * j + 2) ∧ s 18 (7 * j + 4) &&& -4 = s 18 (7 * j + 4)
def w_D (pg j : Nat) (s u : (Nat → Nat → Int32)) : Prop := nI j = s 61 0 → ∀ p, p < pg → u 105 (16 * j + p) = s 63 p
def w_W (pg j : Nat) (u0 s u : (Nat → Nat → Int32)) : Prop := w_E (256 * pg) j s u ∧ w_K j s u ∧ w_P j s u ∧ w_A j s ∧ w_D pg j s u ∧ BY u ∧ w_F j u0 u
theorem w_g {S j i : Nat} {s u : (Nat → Nat → Int32)} (f : Nat) (H : w_E S j s u) (hf : w_f f = true) (hi : i < v_s f) (h15 : f ≠ 15) : u f (v_s f * j + i) = s f (v_s f * j + i) := H f i hf hi (fun e => absurd e h15)
theorem w_g1 {S j : Nat} {s u : (Nat → Nat → Int32)} (f : Nat) (H : w_E S j s u) (hf : (w_f f && decide (v_s f = 1)) = true) : u f j = s f j := by
  rw [Bool.and_eq_true] at hf
  have e := of_decide_eq_true hf.2
  have := H f 0 hf.1 (by omega) (by intro q; subst q; exact absurd e (by decide))
  rwa [e, Nat.one_mul, Nat.add_zero] at this
theorem w_gx {S j i : Nat} {s u : (Nat → Nat → Int32)} (H : w_E S j s u) (h : i < 32) : u 16 (32 * j + i) = s 16 (32 * j + i) := w_g 16 H rfl h (by decide)
theorem w_gc {S j i : Nat} {s u : (Nat → Nat → Int32)} (H : w_E S j s u) (h : i < 7) : u 18 (7 * j + i) = s 18 (7 * j + i) := w_g 18 H rfl h (by decide)
theorem w_gm {S j i : Nat} {s u : (Nat → Nat → Int32)} (H : w_E S j s u) (hS : S ≤ 4096) (h : i < S) : u 15 (4096 * j + i) = s 15 (4096 * j + i) := H 15 i rfl (by show i < 4096; omega) (fun _ => h)
theorem w_E_u {S j f i : Nat} {s u : (Nat → Nat → Int32)} {v : Int32} (H : w_E S j s u) : w_E S j (u2 s f (v_s f * j + i) v) (u2 u f (v_s f * j + i) v) := by
  intro g l h1 h2 h3
  by_cases e : g = f
  · subst e
    by_cases e2 : l = i
    · subst e2; rw [u2_ss, u2_ss]
    · rw [u2_sn (by omega), u2_sn (by omega)]; exact H g l h1 h2 h3
  · rw [u2_ne e, u2_ne e]; exact H g l h1 h2 h3
theorem w_F_u {j f i : Nat} {u0 u : (Nat → Nat → Int32)} {v : Int32} (H : w_F j u0 u) (h : w_in j f i) : w_F j u0 (u2 u f i v) := by
  intro g l
  by_cases e : g = f
  · subst e
    by_cases e2 : l = i
    · subst e2; exact .inr h
    · rw [u2_sn e2]; exact H g l
  · rw [u2_ne e]; exact H g l
def w_pl (f : Nat) : Bool := [16, 20, 21, 22, 23, 24, 25, 26, 27, 28, 29, 30].contains f
theorem w_pl_r {f : Nat} (h : w_pl f = true) : 16 ≤ f ∧ f ≤ 30 ∧ f ≠ 17 ∧ f ≠ 18 ∧ bya f = false ∧ w_s f = v_s f := by
  have : f ∈ [16, 20, 21, 22, 23, 24, 25, 26, 27, 28, 29, 30] := by
    unfold w_pl at h; simpa using h
  have : f = 16 ∨ f = 20 ∨ f = 21 ∨ f = 22 ∨ f = 23 ∨ f = 24 ∨ f = 25 ∨ f = 26 ∨ f = 27 ∨ f = 28 ∨ f = 29 ∨ f = 30 := by simpa using this
  rcases this with e | e | e | e | e | e | e | e | e | e | e | e <;> (subst e; decide)
theorem w_W_g {pg j f i : Nat} {u0 s u : (Nat → Nat → Int32)} {v : Int32} (H : w_W pg j u0 s u) (hf : 16 ≤ f ∧ f ≤ 31 ∧ w_s f = v_s f) (hb : bya f = true → v.toInt8.toInt32 = v) (h17 : f = 17 → v &&& -4 = v) (h18 : f = 18 → (i = 2 ∨ i = 4) → v &&& -4 = v) (hi : i < v_s f) : w_W pg j u0 (u2 s f (v_s f * j + i) v) (u2 u f (v_s f * j + i) v) := by
  obtain ⟨e, k, p, a, d, b, F⟩ := H
  refine ⟨w_E_u e, ?_, ?_, ?_, ?_, b.u2 hb, w_F_u F ⟨.inl ⟨by omega, by omega⟩, by rw [hf.2.2]; omega, by rw [hf.2.2]; omega⟩⟩
  · unfold w_K; rw [u2_ne (by omega), u2_ne (by omega), u2_ne (by omega), u2_ne (by omega)]; exact k
  · unfold w_P; rw [u2_ne (by omega), u2_ne (by omega), u2_ne (by omega), u2_ne (by omega), u2_ne (by omega), u2_ne (by omega)]; exact p
  · obtain ⟨a1, a2, a3⟩ := a
    refine ⟨?_, ?_, ?_⟩
    · by_cases q : f = 17
      · subst q
        have : i = 0 := by have hi : i < 1 := hi; omega
        subst this
        rw [show v_s 17 * j + 0 = j by show 1 * j + 0 = j; omega, u2_ss]; exact h17 rfl
      · rw [u2_ne (Ne.symm q)]; exact a1
    · by_cases q : f = 18
      · subst q
        by_cases q2 : i = 2
        · subst q2; rw [show 7 * j + 2 = v_s 18 * j + 2 from rfl, u2_ss]; exact h18 rfl (.inl rfl)
        · rw [u2_sn (by show 7 * j + 2 ≠ 7 * j + i; omega)]; exact a2
      · rw [u2_ne (Ne.symm q)]; exact a2
    · by_cases q : f = 18
      · subst q
        by_cases q2 : i = 4
        · subst q2; rw [show 7 * j + 4 = v_s 18 * j + 4 from rfl, u2_ss]; exact h18 rfl (.inr rfl)
        · rw [u2_sn (by show 7 * j + 4 ≠ 7 * j + i; omega)]; exact a3
      · rw [u2_ne (Ne.symm q)]; exact a3
  · unfold w_D; rw [u2_ne (by omega), u2_ne (by omega), u2_ne (by omega)]; exact d
theorem w_W_1 {pg j : Nat} {u0 s u : (Nat → Nat → Int32)} {v w : Int32} (f : Nat) (H : w_W pg j u0 s u) (hf : (w_pl f && decide (v_s f = 1)) = true) (hv : w = v) : w_W pg j u0 (u2 s f j v) (u2 u f j w) := by
  subst hv
  rw [Bool.and_eq_true] at hf
  have e := of_decide_eq_true hf.2
  obtain ⟨q1, q2, q3, q4, q5, q6⟩ := w_pl_r hf.1
  have := w_W_g (f := f) (i := 0) (v := w) H ⟨q1, by omega, q6⟩ (fun q => by rw [q5] at q; cases q) (fun q => absurd q q3) (fun q => absurd q q4) (by omega)
  rwa [e, Nat.one_mul, Nat.add_zero] at this
theorem w_W_17 {pg j : Nat} {u0 s u : (Nat → Nat → Int32)} {v w : Int32} (H : w_W pg j u0 s u) (hv : w = v) (ha : v &&& -4 = v) : w_W pg j u0 (u2 s 17 j v) (u2 u 17 j w) := by
  subst hv
  have := w_W_g (f := 17) (i := 0) (v := w) H (by decide) (fun q => absurd q (by decide)) (fun _ => ha) (fun q => absurd q (by decide)) (by decide)
  rwa [show v_s 17 * j + 0 = j by show 1 * j + 0 = j; omega] at this
theorem w_W_x {pg j i : Nat} {u0 s u : (Nat → Nat → Int32)} {v w : Int32} (H : w_W pg j u0 s u) (hi : i < 32) (hv : w = v) : w_W pg j u0 (u2 s 16 (32 * j + i) v) (u2 u 16 (32 * j + i) w) := by
  subst hv; exact w_W_g (f := 16) H (by decide) (fun q => absurd q (by decide)) (fun q => absurd q (by decide)) (fun q => absurd q (by decide)) hi
theorem w_W_c {pg j i : Nat} {u0 s u : (Nat → Nat → Int32)} {v w : Int32} (H : w_W pg j u0 s u) (hi : i < 7) (hv : w = v) (ha : i = 2 ∨ i = 4 → v &&& -4 = v) : w_W pg j u0 (u2 s 18 (7 * j + i) v) (u2 u 18 (7 * j + i) w) := by
  subst hv; exact w_W_g (f := 18) H (by decide) (fun q => absurd q (by decide)) (fun q => absurd q (by decide)) (fun _ => ha) hi
theorem w_al4 (x : Int32) : (x &&& -4) &&& -4 = x &&& -4 := by rw [Int32.and_assoc]; rfl
theorem w_mask {k : Nat} (v : Int32) (h : k = 2 ∨ k = 4) : m_mask k v &&& -4 = m_mask k v := by
  unfold m_mask
  rcases h with e | e <;> subst e <;> simp [w_al4]
theorem w_b4 (b : BitVec 32) : b &&& 4294967292#32 = b ↔ b.toNat % 4 = 0 := by
  constructor
  · intro h
    have h1 := congrArg BitVec.toNat h
    rw [BitVec.toNat_and] at h1
    have h2 : b.toNat % 4 = b.toNat &&& 3 := (Nat.and_two_pow_sub_one_eq_mod b.toNat 2).symm
    rw [h2, ← h1, Nat.and_assoc]
    have : (4294967292#32).toNat &&& 3 = 0 := by decide
    rw [this, Nat.and_zero]
  · intro h
    apply BitVec.eq_of_getLsbD_eq
    intro i hi
    rw [BitVec.getLsbD_and]
    by_cases h2 : 2 ≤ i
    · have : ∀ i, i < 32 → 2 ≤ i → (4294967292#32).getLsbD i = true := by decide
      rw [this i hi h2, Bool.and_true]
    · have hz : b.getLsbD i = false := by
        rw [BitVec.getLsbD]
        have := Nat.testBit_mod_two_pow b.toNat 2 i
        rw [show (2 : Nat) ^ 2 = 4 from rfl, h, Nat.zero_testBit, decide_eq_true (by omega : i < 2), Bool.true_and] at this
        exact this.symm
      rw [hz, Bool.false_and]
theorem w_i4 (x : Int32) : x &&& -4 = x ↔ x.toBitVec.toNat % 4 = 0 := by
  rw [← w_b4]
  constructor
  · intro h
    have := congrArg Int32.toBitVec h
    rwa [Int32.toBitVec_and] at this
  · intro h
    apply Int32.toBitVec_inj.mp
    rw [Int32.toBitVec_and]; exact h
theorem w_al_p4 {x : Int32} (h : x &&& -4 = x) : (x + 4) &&& -4 = x + 4 := by
  rw [w_i4] at *
  rw [Int32.toBitVec_add, BitVec.toNat_add]
  have : (Int32.toBitVec 4).toNat = 4 := by decide
  rw [this]; omega
theorem w_al_3 {x : Int32} (h : x &&& 3 = 0) : x &&& -4 = x := by
  rw [w_i4]
  have h1 := congrArg (fun y => y.toBitVec.toNat) h
  simp only [Int32.toBitVec_and, BitVec.toNat_and] at h1
  have h2 : x.toBitVec.toNat % 4 = x.toBitVec.toNat &&& 3 := (Nat.and_two_pow_sub_one_eq_mod _ 2).symm
  rw [h2]
  exact h1
