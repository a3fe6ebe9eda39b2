def r_isA (k : Nat) : Bool := cond (Nat.ble k 37) (cond (Nat.ble k 18) (cond (Nat.ble k 8) (cond (Nat.ble k 3) (cond (Nat.ble k 1) (cond (Nat.ble k 0) (false) (false)) (cond (Nat.ble k 2) (false) (false))) (cond (Nat.ble k 5) (cond (Nat.ble k 4) (false) (false)) (cond (Nat.ble k 6) (true) (cond (Nat.ble k 7) (true) (true))))) (cond (Nat.ble k 13) (cond (Nat.ble k 10) (cond (Nat.ble k 9) (true) (true)) (cond (Nat.ble k 11) (true) (cond (Nat.ble k 12) (true) (false)))) (cond (Nat.ble k 15) (cond (Nat.ble k 14) (false) (true)) (cond (Nat.ble k 16) (true) (cond (Nat.ble k 17) (true) (true)))))) (cond (Nat.ble k 27) (cond (Nat.ble k 22) (cond (Nat.ble k 20) (cond (Nat.ble k 19) (true) (true)) (cond (Nat.ble k 21) (true) (true))) (cond (Nat.ble k 24) (cond (Nat.ble k 23) (true) (true)) (cond (Nat.ble k 25) (true) (cond (Nat.ble k 26) (true) (true))))) (cond (Nat.ble k 32) (cond (Nat.ble k 29) (cond (Nat.ble k 28) (true) (true)) (cond (Nat.ble k 30) (true) (cond (Nat.ble k 31) (true) (true)))) (cond (Nat.ble k 34) (cond (Nat.ble k 33) (true) (true)) (cond (Nat.ble k 35) (true) (cond (Nat.ble k 36) (true) (true))))))) (cond (Nat.ble k 56) (cond (Nat.ble k 46) (cond (Nat.ble k 41) (cond (Nat.ble k 39) (cond (Nat.ble k 38) (true) (true)) (cond (Nat.ble k 40) (true) (true))) (cond (Nat.ble k 43) (cond (Nat.ble k 42) (true) (true)) (cond (Nat.ble k 44) (false) (cond (Nat.ble k 45) (true) (true))))) (cond (Nat.ble k 51) (cond (Nat.ble k 48) (cond (Nat.ble k 47) (true) (true)) (cond (Nat.ble k 49) (true) (cond (Nat.ble k 50) (false) (true)))) (cond (Nat.ble k 53) (cond (Nat.ble k 52) (true) (true)) (cond (Nat.ble k 54) (true) (cond (Nat.ble k 55) (true) (true)))))) (cond (Nat.ble k 65) (cond (Nat.ble k 60) (cond (Nat.ble k 58) (cond (Nat.ble k 57) (true) (true)) (cond (Nat.ble k 59) (true) (false))) (cond (Nat.ble k 62) (cond (Nat.ble k 61) (false) (false)) (cond (Nat.ble k 63) (true) (cond (Nat.ble k 64) (true) (false))))) (cond (Nat.ble k 70) (cond (Nat.ble k 67) (cond (Nat.ble k 66) (false) (true)) (cond (Nat.ble k 68) (true) (cond (Nat.ble k 69) (true) (true)))) (cond (Nat.ble k 72) (cond (Nat.ble k 71) (true) (false)) (cond (Nat.ble k 73) (true) (cond (Nat.ble k 74) (false) (false)))))))
def r_len (k : Nat) : Nat := cond (Nat.ble k 36) (cond (Nat.ble k 17) (cond (Nat.ble k 8) (cond (Nat.ble k 3) (cond (Nat.ble k 1) (cond (Nat.ble k 0) (0) (0)) (cond (Nat.ble k 2) (0) (0))) (cond (Nat.ble k 5) (cond (Nat.ble k 4) (0) (0)) (cond (Nat.ble k 6) (4096) (cond (Nat.ble k 7) (4) (4))))) (cond (Nat.ble k 12) (cond (Nat.ble k 10) (cond (Nat.ble k 9) (4) (4)) (cond (Nat.ble k 11) (4) (4))) (cond (Nat.ble k 14) (cond (Nat.ble k 13) (0) (0)) (cond (Nat.ble k 15) (16384) (cond (Nat.ble k 16) (128) (4)))))) (cond (Nat.ble k 26) (cond (Nat.ble k 21) (cond (Nat.ble k 19) (cond (Nat.ble k 18) (28) (4)) (cond (Nat.ble k 20) (4) (4))) (cond (Nat.ble k 23) (cond (Nat.ble k 22) (4) (4)) (cond (Nat.ble k 24) (4) (cond (Nat.ble k 25) (4) (4))))) (cond (Nat.ble k 31) (cond (Nat.ble k 28) (cond (Nat.ble k 27) (4) (4)) (cond (Nat.ble k 29) (4) (cond (Nat.ble k 30) (4) (256)))) (cond (Nat.ble k 33) (cond (Nat.ble k 32) (64) (4)) (cond (Nat.ble k 34) (16) (cond (Nat.ble k 35) (4) (512))))))) (cond (Nat.ble k 55) (cond (Nat.ble k 45) (cond (Nat.ble k 40) (cond (Nat.ble k 38) (cond (Nat.ble k 37) (4) (4)) (cond (Nat.ble k 39) (512) (512))) (cond (Nat.ble k 42) (cond (Nat.ble k 41) (512) (512)) (cond (Nat.ble k 43) (32768) (cond (Nat.ble k 44) (0) (24000))))) (cond (Nat.ble k 50) (cond (Nat.ble k 47) (cond (Nat.ble k 46) (24000) (24000)) (cond (Nat.ble k 48) (24000) (cond (Nat.ble k 49) (24000) (0)))) (cond (Nat.ble k 52) (cond (Nat.ble k 51) (270000) (256)) (cond (Nat.ble k 53) (4) (cond (Nat.ble k 54) (256) (4)))))) (cond (Nat.ble k 64) (cond (Nat.ble k 59) (cond (Nat.ble k 57) (cond (Nat.ble k 56) (4) (16800)) (cond (Nat.ble k 58) (4) (4))) (cond (Nat.ble k 61) (cond (Nat.ble k 60) (0) (0)) (cond (Nat.ble k 62) (0) (cond (Nat.ble k 63) (16) (512))))) (cond (Nat.ble k 69) (cond (Nat.ble k 66) (cond (Nat.ble k 65) (0) (0)) (cond (Nat.ble k 67) (4200) (cond (Nat.ble k 68) (4200) (4200)))) (cond (Nat.ble k 71) (cond (Nat.ble k 70) (4200) (268800)) (cond (Nat.ble k 72) (0) (cond (Nat.ble k 73) (4096) (0)))))))
def r_ty (k : Nat) : Nat := cond (Nat.ble k 36) (cond (Nat.ble k 17) (cond (Nat.ble k 8) (cond (Nat.ble k 3) (cond (Nat.ble k 1) (cond (Nat.ble k 0) (0) (0)) (cond (Nat.ble k 2) (0) (0))) (cond (Nat.ble k 5) (cond (Nat.ble k 4) (0) (0)) (cond (Nat.ble k 6) (1) (cond (Nat.ble k 7) (0) (0))))) (cond (Nat.ble k 12) (cond (Nat.ble k 10) (cond (Nat.ble k 9) (0) (0)) (cond (Nat.ble k 11) (2) (2))) (cond (Nat.ble k 14) (cond (Nat.ble k 13) (0) (0)) (cond (Nat.ble k 15) (1) (cond (Nat.ble k 16) (0) (0)))))) (cond (Nat.ble k 26) (cond (Nat.ble k 21) (cond (Nat.ble k 19) (cond (Nat.ble k 18) (0) (3)) (cond (Nat.ble k 20) (2) (0))) (cond (Nat.ble k 23) (cond (Nat.ble k 22) (0) (0)) (cond (Nat.ble k 24) (0) (cond (Nat.ble k 25) (0) (0))))) (cond (Nat.ble k 31) (cond (Nat.ble k 28) (cond (Nat.ble k 27) (0) (0)) (cond (Nat.ble k 29) (0) (cond (Nat.ble k 30) (0) (1)))) (cond (Nat.ble k 33) (cond (Nat.ble k 32) (0) (0)) (cond (Nat.ble k 34) (0) (cond (Nat.ble k 35) (0) (1))))))) (cond (Nat.ble k 55) (cond (Nat.ble k 45) (cond (Nat.ble k 40) (cond (Nat.ble k 38) (cond (Nat.ble k 37) (0) (0)) (cond (Nat.ble k 39) (0) (0))) (cond (Nat.ble k 42) (cond (Nat.ble k 41) (0) (0)) (cond (Nat.ble k 43) (1) (cond (Nat.ble k 44) (0) (0))))) (cond (Nat.ble k 50) (cond (Nat.ble k 47) (cond (Nat.ble k 46) (0) (0)) (cond (Nat.ble k 48) (0) (cond (Nat.ble k 49) (3) (0)))) (cond (Nat.ble k 52) (cond (Nat.ble k 51) (1) (0)) (cond (Nat.ble k 53) (0) (cond (Nat.ble k 54) (0) (0)))))) (cond (Nat.ble k 64) (cond (Nat.ble k 59) (cond (Nat.ble k 57) (cond (Nat.ble k 56) (0) (0)) (cond (Nat.ble k 58) (0) (0))) (cond (Nat.ble k 61) (cond (Nat.ble k 60) (0) (0)) (cond (Nat.ble k 62) (0) (cond (Nat.ble k 63) (2) (1))))) (cond (Nat.ble k 69) (cond (Nat.ble k 66) (cond (Nat.ble k 65) (0) (0)) (cond (Nat.ble k 67) (0) (cond (Nat.ble k 68) (0) (0)))) (cond (Nat.ble k 71) (cond (Nat.ble k 70) (0) (1)) (cond (Nat.ble k 72) (0) (cond (Nat.ble k 73) (0) (0)))))))
def r_ob (F : Nat → Value) : List Value := (List.range 75).map F
def r_F (σ : Nat → Nat → Int32) (ra : Nat → Nat) : Nat → Value := fun k => cond (r_isA k) (.ref (ra k)) (.int (σ k 0))
def r_cell (σ : Nat → Nat → Int32) (τ : Nat → Nat → Int64) (k : Nat) : xE := .inl (r_ty k, r_len k, cond (Nat.beq (r_ty k) 3) (.inr (.inl (τ k))) (.inl (σ k)))
def r_zero (k : Nat) : xE := r_cell (fun _ _ => 0) (fun _ _ => 0) k
def RepR (m : Nat) (ra : Nat → Nat) (σ : Nat → Nat → Int32) (τ : Nat → Nat → Int64) (h : xH) : Prop :=
  h m = some (.inr (12, r_ob (r_F σ ra))) ∧ (∀ k, r_isA k = true → h (ra k) = some (r_cell σ τ k)) ∧ (∀ k, r_isA k = true → ra k ≠ m) ∧ ∀ k k', r_isA k = true → r_isA k' = true → ra k = ra k' → k = k'
theorem r_at {F : Nat → Value} {k : Nat} (hk : k < 75) : (r_ob F)[k]? = some (F k) := by
  rw [r_ob, List.getElem?_map, List.getElem?_range hk]; rfl
theorem r_obl {F : Nat → Value} {k : Nat} (hk : k < 75) : k < (r_ob F).length := by
  rw [r_ob, List.length_map, List.length_range]; exact hk
theorem r_ob_set {F : Nat → Value} {k : Nat} {v : Value} : (r_ob F).set k v = r_ob (va_up F k v) := by
  apply List.ext_getElem?
  intro j
  by_cases hj : j = k
  · subst hj
    by_cases hl : j < 75
    · rw [List.getElem?_set_self (r_obl hl), r_at hl, va_up_self]
    · rw [List.getElem?_eq_none (by rw [List.length_set, r_ob, List.length_map, List.length_range]; omega), List.getElem?_eq_none (by rw [r_ob, List.length_map, List.length_range]; omega)]
  · rw [List.getElem?_set_ne (Ne.symm hj)]
    by_cases hl : j < 75
    · rw [r_at hl, r_at hl, va_up_ne _ _ hj]
    · rw [List.getElem?_eq_none (by rw [r_ob, List.length_map, List.length_range]; omega), List.getElem?_eq_none (by rw [r_ob, List.length_map, List.length_range]; omega)]
def RI (h0 : xH) (t : Nat) (Pd : Nat → Bool) (F : Nat → Value) (h : xH) : Prop :=
  h t = some (.inr (12, r_ob F)) ∧ (∀ k, Pd k = true → ∃ a, F k = .ref a ∧ h a = some (r_zero k) ∧ a ≠ t ∧ h0 a = none) ∧ (∀ k k', Pd k = true → Pd k' = true → F k = F k' → k = k') ∧ ∀ b e, h0 b = some e → b ≠ t → h b = some e
theorem ri_new {h0 h : xH} {t : Nat} {Pd : Nat → Bool} {F : Nat → Value} (hI : RI h0 t Pd F h) (k : Nat) {a : Nat} (ha : h a = none) : RI h0 t (fun j => Pd j || Nat.beq j k) (va_up F k (.ref a)) (x_up (x_up h a (r_zero k)) t (.inr (12, (r_ob F).set k (.ref a)))) := by
  obtain ⟨i1, i2, i3, i4⟩ := hI
  have hat : a ≠ t := fun q => by subst q; rw [ha] at i1; cases i1
  have h0a : h0 a = none := by
    cases hx : h0 a with
    | none => rfl
    | some e => rw [i4 a e hx hat] at ha; cases ha
  refine ⟨by rw [x_up_self, r_ob_set], fun j hj => ?_, fun j j' hj hj' he => ?_, fun b e hb hbt => ?_⟩
  · by_cases hjk : j = k
    · subst hjk
      exact ⟨a, va_up_self _ _ _, by rw [x_up_ne hat, x_up_self], hat, h0a⟩
    · have hp : Pd j = true := by
        simp only [Bool.or_eq_true] at hj
        rcases hj with hj | hj
        · exact hj
        · exact absurd (Nat.eq_of_beq_eq_true hj) hjk
      obtain ⟨b, b1, b2, b3, b4⟩ := i2 j hp
      refine ⟨b, by rw [va_up_ne _ _ hjk]; exact b1, ?_, b3, b4⟩
      rw [x_up_ne b3, x_up_ne (fun q => by subst q; rw [ha] at b2; cases b2)]
      exact b2
  · have key : ∀ j, j ≠ k → (Pd j || Nat.beq j k) = true → ∃ b, va_up F k (.ref a) j = .ref b ∧ b ≠ a ∧ Pd j = true := by
      intro j hjk hj
      have hp : Pd j = true := by
        simp only [Bool.or_eq_true] at hj
        rcases hj with hj | hj
        · exact hj
        · exact absurd (Nat.eq_of_beq_eq_true hj) hjk
      obtain ⟨b, b1, b2, b3, b4⟩ := i2 j hp
      exact ⟨b, by rw [va_up_ne _ _ hjk]; exact b1, (fun q => by subst q; rw [ha] at b2; cases b2), hp⟩
    by_cases h1 : j = k
    · by_cases h2 : j' = k
      · rw [h1, h2]
      · obtain ⟨b, b1, b2, -⟩ := key j' h2 hj'
        rw [b1, h1, va_up_self] at he
        exact absurd (Value.ref.inj he).symm b2
    · by_cases h2 : j' = k
      · obtain ⟨b, b1, b2, -⟩ := key j h1 hj
        rw [b1, h2, va_up_self] at he
        exact absurd (Value.ref.inj he) b2
      · obtain ⟨b, -, -, b3⟩ := key j h1 hj
        obtain ⟨b', -, -, b3'⟩ := key j' h2 hj'
        rw [va_up_ne _ _ h1, va_up_ne _ _ h2] at he
        exact i3 j j' b3 b3' he
  · rw [x_up_ne hbt, x_up_ne (fun q => by subst q; rw [h0a] at hb; cases hb)]
    exact i4 b e hb hbt
theorem ri_sca {h0 h : xH} {t : Nat} {Pd : Nat → Bool} {F : Nat → Value} (hI : RI h0 t Pd F h) (k : Nat) (hk : Pd k = false) (v : Value) : RI h0 t Pd (va_up F k v) (x_up h t (.inr (12, (r_ob F).set k v))) := by
  obtain ⟨i1, i2, i3, i4⟩ := hI
  have hne : ∀ j, Pd j = true → j ≠ k := fun j hj q => by subst q; rw [hk] at hj; cases hj
  refine ⟨by rw [x_up_self, r_ob_set], fun j hj => ?_, fun j j' hj hj' he => ?_, fun b e hb hbt => ?_⟩
  · obtain ⟨b, b1, b2, b3, b4⟩ := i2 j hj
    exact ⟨b, by rw [va_up_ne _ _ (hne j hj)]; exact b1, by rw [x_up_ne b3]; exact b2, b3, b4⟩
  · rw [va_up_ne _ _ (hne j hj), va_up_ne _ _ (hne j' hj')] at he
    exact i3 j j' hj hj' he
  · rw [x_up_ne hbt]
    exact i4 b e hb hbt
theorem ri_new2 {h0 h h1 h2 : xH} {t : Nat} {Pd : Nat → Bool} {F : Nat → Value} (hI : RI h0 t Pd F h) (k : Nat) {a : Nat} (ha : h a = none) (e1 : h1 = x_up h a (r_zero k)) (e2 : h2 = x_up h1 t (.inr (12, (r_ob F).set k (.ref a)))) : RI h0 t (fun j => Pd j || Nat.beq j k) (va_up F k (.ref a)) h2 := by
  subst e2; subst e1; exact ri_new hI k ha
theorem ri_sca2 {h0 h h1 : xH} {t : Nat} {Pd : Nat → Bool} {F : Nat → Value} (hI : RI h0 t Pd F h) (k : Nat) (hk : Pd k = false) (v : Value) (e1 : h1 = x_up h t (.inr (12, (r_ob F).set k v))) : RI h0 t Pd (va_up F k v) h1 := by
  subst e1; exact ri_sca hI k hk v

def r_F0 : Nat → Value := fun k => cond (r_isA k) .null (.int 0)
theorem r_F0_eq : (x_cn 12).2 = r_ob r_F0 := by decide +kernel

theorem r_isA_big {k : Nat} (h : 75 ≤ k) : r_isA k = false := by
  have hb : ∀ j, j < 75 → Nat.ble k j = false := fun j hj => by
    cases hq : Nat.ble k j with
    | false => rfl
    | true => exact absurd (Nat.le_of_ble_eq_true hq) (by omega)
  simp [r_isA, hb]

def r_part : Nat → Int32 := upd (upd (upd (upd (fun _ => 0) 0 (-1)) 1 (-1)) 2 (-1)) 3 (-1)
def r_s0 (n p r : Int32) : Nat → Nat → Int32 := fun k => cond (Nat.beq k 1) (fun _ => n) (cond (Nat.beq k 2) (fun _ => p) (cond (Nat.beq k 3) (fun _ => r) (cond (Nat.beq k 4) (fun _ => 256 * p) (cond (Nat.beq k 8) r_part (cond (Nat.beq k 60 || Nat.beq k 61) (fun _ => -1) (fun _ => 0))))))
def r_cl (x lo hi : Int32) : Int32 := if x < lo then lo else if hi < x then hi else x

theorem r_s0_0 (n p r : Int32) (k : Nat) (hk : r_isA k = true) (h8 : k ≠ 8) : r_s0 n p r k = fun _ => 0 := by
  have key : ∀ k, k < 75 → r_isA k = true → k ≠ 8 → (Nat.beq k 1 || Nat.beq k 2 || Nat.beq k 3 || Nat.beq k 4 || Nat.beq k 8 || Nat.beq k 60 || Nat.beq k 61) = false := by decide +kernel
  have hlt : k < 75 := by
    rcases Nat.lt_or_ge k 75 with q | q
    · exact q
    · exfalso
      have : r_isA k = false := r_isA_big q
      rw [this] at hk; cases hk
  have h1 := key k hlt hk h8
  simp only [Bool.or_eq_false_iff] at h1
  obtain ⟨⟨⟨⟨⟨⟨a1, a2⟩, a3⟩, a4⟩, a5⟩, a6⟩, a7⟩ := h1
  simp only [r_s0, a1, a2, a3, a4, a5, a6, a7, cond_false, Bool.or_self]
abbrev r_Pd : Nat → Bool := (fun j => (fun j => (fun j => (fun j => (fun j => (fun j => (fun j => (fun j => (fun j => (fun j => (fun j => (fun j => (fun j => (fun j => (fun j => (fun j => (fun j => (fun j => (fun j => (fun j => (fun j => (fun j => (fun j => (fun j => (fun j => (fun j => (fun j => (fun j => (fun j => (fun j => (fun j => (fun j => (fun j => (fun j => (fun j => (fun j => (fun j => (fun j => (fun j => (fun j => (fun j => (fun j => (fun j => (fun j => (fun j => (fun j => (fun j => (fun j => (fun j => (fun j => (fun j => (fun j => (fun j => (fun j => (fun j => (fun j => (fun j => (fun j => (fun _ => false) j || Nat.beq j 6) j || Nat.beq j 7) j || Nat.beq j 8) j || Nat.beq j 9) j || Nat.beq j 10) j || Nat.beq j 11) j || Nat.beq j 12) j || Nat.beq j 15) j || Nat.beq j 16) j || Nat.beq j 17) j || Nat.beq j 18) j || Nat.beq j 19) j || Nat.beq j 20) j || Nat.beq j 21) j || Nat.beq j 22) j || Nat.beq j 23) j || Nat.beq j 24) j || Nat.beq j 25) j || Nat.beq j 26) j || Nat.beq j 27) j || Nat.beq j 28) j || Nat.beq j 29) j || Nat.beq j 30) j || Nat.beq j 31) j || Nat.beq j 32) j || Nat.beq j 33) j || Nat.beq j 34) j || Nat.beq j 35) j || Nat.beq j 36) j || Nat.beq j 37) j || Nat.beq j 38) j || Nat.beq j 39) j || Nat.beq j 40) j || Nat.beq j 41) j || Nat.beq j 42) j || Nat.beq j 43) j || Nat.beq j 45) j || Nat.beq j 46) j || Nat.beq j 47) j || Nat.beq j 48) j || Nat.beq j 49) j || Nat.beq j 51) j || Nat.beq j 52) j || Nat.beq j 53) j || Nat.beq j 54) j || Nat.beq j 55) j || Nat.beq j 56) j || Nat.beq j 57) j || Nat.beq j 58) j || Nat.beq j 59) j || Nat.beq j 63) j || Nat.beq j 64) j || Nat.beq j 67) j || Nat.beq j 68) j || Nat.beq j 69) j || Nat.beq j 70) j || Nat.beq j 71) j || Nat.beq j 73)
theorem r_finA : ∀ k, r_isA k = true → r_Pd k = true := by
  intro k hk
  have key : ∀ k, k < 75 → r_isA k = true → r_Pd k = true := by decide +kernel
  rcases Nat.lt_or_ge k 75 with q | q
  · exact key k q hk
  · rw [r_isA_big q] at hk; cases hk
theorem r_finN : ∀ k, r_isA k = false → r_Pd k = false := by
  intro k hk
  have key : ∀ k, k < 75 → r_isA k = false → r_Pd k = false := by decide +kernel
  rcases Nat.lt_or_ge k 75 with q | q
  · exact key k q hk
  · have hb : ∀ j, j < 75 → Nat.beq k j = false := fun j hj => by
      cases hq : Nat.beq k j with
      | false => rfl
      | true => exact absurd (Nat.eq_of_beq_eq_true hq) (by omega)
    simp [r_Pd, hb]
theorem r_finS {b1 b2 b3 b4 b5 b6 b7 b8 b9 b10 b11 b12 b13 b14 b15 b16 b17 b18 b19 b20 b21 b22 b23 b24 b25 b26 b27 b28 b29 b30 b31 b32 b33 b34 b35 b36 b37 b38 b39 b40 b41 b42 b43 b44 b45 b46 b47 b48 b49 b50 b51 b52 b53 b54 b55 b56 b57 b58 : Nat} {n p r : Int32} : ∀ k, k < 75 → r_isA k = false → k ≠ 1 → k ≠ 2 → k ≠ 3 → k ≠ 4 → (va_up (va_up (va_up (va_up (va_up (va_up (va_up (va_up (va_up (va_up (va_up (va_up (va_up (va_up (va_up (va_up (va_up (va_up (va_up (va_up (va_up (va_up (va_up (va_up (va_up (va_up (va_up (va_up (va_up (va_up (va_up (va_up (va_up (va_up (va_up (va_up (va_up (va_up (va_up (va_up (va_up (va_up (va_up (va_up (va_up (va_up (va_up (va_up (va_up (va_up (va_up (va_up (va_up (va_up (va_up (va_up (va_up (va_up (va_up (va_up r_F0 6 (.ref b1)) 7 (.ref b2)) 8 (.ref b3)) 9 (.ref b4)) 10 (.ref b5)) 11 (.ref b6)) 12 (.ref b7)) 15 (.ref b8)) 16 (.ref b9)) 17 (.ref b10)) 18 (.ref b11)) 19 (.ref b12)) 20 (.ref b13)) 21 (.ref b14)) 22 (.ref b15)) 23 (.ref b16)) 24 (.ref b17)) 25 (.ref b18)) 26 (.ref b19)) 27 (.ref b20)) 28 (.ref b21)) 29 (.ref b22)) 30 (.ref b23)) 31 (.ref b24)) 32 (.ref b25)) 33 (.ref b26)) 34 (.ref b27)) 35 (.ref b28)) 36 (.ref b29)) 37 (.ref b30)) 38 (.ref b31)) 39 (.ref b32)) 40 (.ref b33)) 41 (.ref b34)) 42 (.ref b35)) 43 (.ref b36)) 45 (.ref b37)) 46 (.ref b38)) 47 (.ref b39)) 48 (.ref b40)) 49 (.ref b41)) 51 (.ref b42)) 52 (.ref b43)) 53 (.ref b44)) 54 (.ref b45)) 55 (.ref b46)) 56 (.ref b47)) 57 (.ref b48)) 58 (.ref b49)) 59 (.ref b50)) 60 (.int (-1))) 61 (.int (-1))) 63 (.ref b51)) 64 (.ref b52)) 67 (.ref b53)) 68 (.ref b54)) 69 (.ref b55)) 70 (.ref b56)) 71 (.ref b57)) 73 (.ref b58)) k = .int (r_s0 n p r k 0) := by
  intro k hk hb q1 q2 q3 q4
  match k, hk, hb, q1, q2, q3, q4 with
  | 0, _, _, _, _, _, _ => rfl
  | 1, _, _, q, _, _, _ => exact absurd rfl q
  | 2, _, _, _, q, _, _ => exact absurd rfl q
  | 3, _, _, _, _, q, _ => exact absurd rfl q
  | 4, _, _, _, _, _, q => exact absurd rfl q
  | 5, _, _, _, _, _, _ => rfl
  | 6, _, hb, _, _, _, _ => cases hb
  | 7, _, hb, _, _, _, _ => cases hb
  | 8, _, hb, _, _, _, _ => cases hb
  | 9, _, hb, _, _, _, _ => cases hb
  | 10, _, hb, _, _, _, _ => cases hb
  | 11, _, hb, _, _, _, _ => cases hb
  | 12, _, hb, _, _, _, _ => cases hb
  | 13, _, _, _, _, _, _ => rfl
  | 14, _, _, _, _, _, _ => rfl
  | 15, _, hb, _, _, _, _ => cases hb
  | 16, _, hb, _, _, _, _ => cases hb
  | 17, _, hb, _, _, _, _ => cases hb
  | 18, _, hb, _, _, _, _ => cases hb
  | 19, _, hb, _, _, _, _ => cases hb
  | 20, _, hb, _, _, _, _ => cases hb
  | 21, _, hb, _, _, _, _ => cases hb
  | 22, _, hb, _, _, _, _ => cases hb
  | 23, _, hb, _, _, _, _ => cases hb
  | 24, _, hb, _, _, _, _ => cases hb
  | 25, _, hb, _, _, _, _ => cases hb
  | 26, _, hb, _, _, _, _ => cases hb
  | 27, _, hb, _, _, _, _ => cases hb
  | 28, _, hb, _, _, _, _ => cases hb
  | 29, _, hb, _, _, _, _ => cases hb
  | 30, _, hb, _, _, _, _ => cases hb
  | 31, _, hb, _, _, _, _ => cases hb
  | 32, _, hb, _, _, _, _ => cases hb
  | 33, _, hb, _, _, _, _ => cases hb
  | 34, _, hb, _, _, _, _ => cases hb
  | 35, _, hb, _, _, _, _ => cases hb
  | 36, _, hb, _, _, _, _ => cases hb
  | 37, _, hb, _, _, _, _ => cases hb
  | 38, _, hb, _, _, _, _ => cases hb
  | 39, _, hb, _, _, _, _ => cases hb
  | 40, _, hb, _, _, _, _ => cases hb
  | 41, _, hb, _, _, _, _ => cases hb
  | 42, _, hb, _, _, _, _ => cases hb
  | 43, _, hb, _, _, _, _ => cases hb
  | 44, _, _, _, _, _, _ => rfl
  | 45, _, hb, _, _, _, _ => cases hb
  | 46, _, hb, _, _, _, _ => cases hb
  | 47, _, hb, _, _, _, _ => cases hb
  | 48, _, hb, _, _, _, _ => cases hb
  | 49, _, hb, _, _, _, _ => cases hb
  | 50, _, _, _, _, _, _ => rfl
  | 51, _, hb, _, _, _, _ => cases hb
  | 52, _, hb, _, _, _, _ => cases hb
  | 53, _, hb, _, _, _, _ => cases hb
  | 54, _, hb, _, _, _, _ => cases hb
  | 55, _, hb, _, _, _, _ => cases hb
  | 56, _, hb, _, _, _, _ => cases hb
  | 57, _, hb, _, _, _, _ => cases hb
  | 58, _, hb, _, _, _, _ => cases hb
  | 59, _, hb, _, _, _, _ => cases hb
  | 60, _, _, _, _, _, _ => rfl
  | 61, _, _, _, _, _, _ => rfl
  | 62, _, _, _, _, _, _ => rfl
  | 63, _, hb, _, _, _, _ => cases hb
  | 64, _, hb, _, _, _, _ => cases hb
  | 65, _, _, _, _, _, _ => rfl
  | 66, _, _, _, _, _, _ => rfl
  | 67, _, hb, _, _, _, _ => cases hb
  | 68, _, hb, _, _, _, _ => cases hb
  | 69, _, hb, _, _, _, _ => cases hb
  | 70, _, hb, _, _, _, _ => cases hb
  | 71, _, hb, _, _, _, _ => cases hb
  | 72, _, _, _, _, _, _ => rfl
  | 73, _, hb, _, _, _, _ => cases hb
  | 74, _, _, _, _, _, _ => rfl
  | k + 75, hk, _, _, _, _, _ => exact absurd hk (by omega)
theorem c_X12_S4 {G : xG} {ro : xR} {sv : Nat → Value} (hG : x_Good G ro sv) {d t mc ms cs sl : Nat} {h0 h : xH} {Pd : Nat → Bool} {F : Nat → Value} {Q : xQ} {n p r : Int32} {n0 p0 r0 : Int32} (hI : RI h0 t Pd F h) (hA : ∀ k, r_isA k = true → Pd k = true) (hN : ∀ k, r_isA k = false → Pd k = false) (hF : ∀ k, k < 75 → r_isA k = false → F k = .int (r_s0 n p r k 0)) (hcs : cs ≤ mc) (hsl : sl ≤ ms) (hQ : ∀ (h' : xH) (ra : Nat → Nat), RepR t ra (r_s0 n p r) (fun _ _ => 0) h' → (∀ b e, h0 b = some e → b ≠ t → h' b = some e) → (∀ k, r_isA k = true → h0 (ra k) = none) → Q none h') : G d n_X12_init mc ms 558 [(0, .ref t), (1, .int n0), (2, .int p0), (3, .int r0)] [] h cs sl Q := by
  obtain ⟨ht0, i2, i3, i4⟩ := id hI
  obtain ⟨pa, hpa, hp0, hpt, hp9⟩ := i2 8 (hA 8 rfl)
  generalize hh0 : h = h00 at ht0 hp0 i2 i4
  subst hh0
  repeat refine hG _ _ _ _ _ _ _ _ _ _ _ ?_
  refine ⟨fun hc => absurd hc (by decide), fun _ => ?_⟩
  repeat refine hG _ _ _ _ _ _ _ _ _ _ _ ?_
  refine ⟨_, .ref pa, ht0, (by rw [r_at (by decide)]; exact congrArg some hpa), ?_⟩
  repeat refine hG _ _ _ _ _ _ _ _ _ _ _ ?_
  refine ⟨_, _, _, hp0, rfl, (by unfold vp_in; decide), ?_⟩
  intro h1 e1
  have ht1 : h1 t = some (.inr (12, r_ob F)) := by rw [e1, x_up_ne (Ne.symm hpt)]; exact ht0
  have hp1 : h1 pa = some (.inl (0, 4, .inl (upd (fun _ => (0 : Int32)) 0 (-1)))) := by rw [e1, x_up_self]; rfl
  have ho1 : ∀ b, b ≠ pa → h1 b = h b := fun b hb => by rw [e1, x_up_ne hb]
  repeat refine hG _ _ _ _ _ _ _ _ _ _ _ ?_
  refine ⟨fun hc => absurd hc (by decide), fun _ => ?_⟩
  repeat refine hG _ _ _ _ _ _ _ _ _ _ _ ?_
  refine ⟨_, .ref pa, ht1, (by rw [r_at (by decide)]; exact congrArg some hpa), ?_⟩
  repeat refine hG _ _ _ _ _ _ _ _ _ _ _ ?_
  refine ⟨_, _, _, hp1, rfl, (by unfold vp_in; decide), ?_⟩
  intro h2 e2
  have ht2 : h2 t = some (.inr (12, r_ob F)) := by rw [e2, x_up_ne (Ne.symm hpt)]; exact ht1
  have hp2 : h2 pa = some (.inl (0, 4, .inl (upd (upd (fun _ => (0 : Int32)) 0 (-1)) 1 (-1)))) := by rw [e2, x_up_self]; rfl
  have ho2 : ∀ b, b ≠ pa → h2 b = h1 b := fun b hb => by rw [e2, x_up_ne hb]
  repeat refine hG _ _ _ _ _ _ _ _ _ _ _ ?_
  refine ⟨fun hc => absurd hc (by decide), fun _ => ?_⟩
  repeat refine hG _ _ _ _ _ _ _ _ _ _ _ ?_
  refine ⟨_, .ref pa, ht2, (by rw [r_at (by decide)]; exact congrArg some hpa), ?_⟩
  repeat refine hG _ _ _ _ _ _ _ _ _ _ _ ?_
  refine ⟨_, _, _, hp2, rfl, (by unfold vp_in; decide), ?_⟩
  intro h3 e3
  have ht3 : h3 t = some (.inr (12, r_ob F)) := by rw [e3, x_up_ne (Ne.symm hpt)]; exact ht2
  have hp3 : h3 pa = some (.inl (0, 4, .inl (upd (upd (upd (fun _ => (0 : Int32)) 0 (-1)) 1 (-1)) 2 (-1)))) := by rw [e3, x_up_self]; rfl
  have ho3 : ∀ b, b ≠ pa → h3 b = h2 b := fun b hb => by rw [e3, x_up_ne hb]
  repeat refine hG _ _ _ _ _ _ _ _ _ _ _ ?_
  refine ⟨fun hc => absurd hc (by decide), fun _ => ?_⟩
  repeat refine hG _ _ _ _ _ _ _ _ _ _ _ ?_
  refine ⟨_, .ref pa, ht3, (by rw [r_at (by decide)]; exact congrArg some hpa), ?_⟩
  repeat refine hG _ _ _ _ _ _ _ _ _ _ _ ?_
  refine ⟨_, _, _, hp3, rfl, (by unfold vp_in; decide), ?_⟩
  intro h4 e4
  have ht4 : h4 t = some (.inr (12, r_ob F)) := by rw [e4, x_up_ne (Ne.symm hpt)]; exact ht3
  have hp4 : h4 pa = some (.inl (0, 4, .inl (upd (upd (upd (upd (fun _ => (0 : Int32)) 0 (-1)) 1 (-1)) 2 (-1)) 3 (-1)))) := by rw [e4, x_up_self]; rfl
  have ho4 : ∀ b, b ≠ pa → h4 b = h3 b := fun b hb => by rw [e4, x_up_ne hb]
  repeat refine hG _ _ _ _ _ _ _ _ _ _ _ ?_
  refine ⟨fun _ => ?_, fun hc => absurd (by decide) hc⟩
  repeat refine hG _ _ _ _ _ _ _ _ _ _ _ ?_
  refine ⟨hcs, hsl, hQ _ (fun k => match F k with | .ref a => a | _ => 0) ⟨?_, fun k hk => ?_, fun k hk => ?_, fun k k' hk hk' he => ?_⟩ (fun b e hb hbt => ?_) (fun k hk => ?_)⟩
  · rw [ht4]
    refine congrArg (fun z : List Value => (some (Sum.inr (12, z)) : Option xE)) ?_
    refine List.map_congr_left (fun k hk => ?_)
    have hk := List.mem_range.mp hk
    cases hb : r_isA k with
    | true =>
      obtain ⟨a, ha, -⟩ := i2 k (hA k hb)
      simp only [r_F, hb, cond_true, ha]
    | false => simp only [r_F, hb, cond_false, hF k hk hb]
  · obtain ⟨a, ha, ha2, ha3, ha4⟩ := i2 k (hA k hk)
    simp only [ha]
    by_cases h8 : k = 8
    · subst h8
      rw [hpa] at ha
      cases ha
      rw [hp4]
      rfl
    · have hne : a ≠ pa := fun q => h8 (i3 _ _ (hA k hk) (hA 8 rfl) (by rw [ha, hpa, q]))
      rw [ho4 a hne, ho3 a hne, ho2 a hne, ho1 a hne, ha2]
      simp only [r_zero, r_cell, r_s0_0 n p r k hk h8]
  · obtain ⟨a, ha, ha2, ha3, ha4⟩ := i2 k (hA k hk)
    simp only [ha]
    exact ha3
  · obtain ⟨a, ha, -⟩ := i2 k (hA k hk)
    obtain ⟨a', ha', -⟩ := i2 k' (hA k' hk')
    simp only [ha, ha'] at he
    exact i3 k k' (hA k hk) (hA k' hk') (by rw [ha, ha', he])
  · have hne : b ≠ pa := fun q => by subst q; rw [hp9] at hb; cases hb
    rw [ho4 b hne, ho3 b hne, ho2 b hne, ho1 b hne]
    exact i4 b e hb hbt
  · obtain ⟨a, ha, ha2, ha3, ha4⟩ := i2 k (hA k hk)
    simp only [ha]
    exact ha4
theorem c_X12_S3 {G : xG} {ro : xR} {sv : Nat → Value} (hG : x_Good G ro sv) {d t mc ms cs sl : Nat} {h0 h : xH} {Pd : Nat → Bool} {F : Nat → Value} {Q : xQ} {n p r : Int32} {n0 p0 r0 : Int32} (hI : RI h0 t Pd F h) (hA : ∀ k, r_isA k = true → Pd k = true) (hN : ∀ k, r_isA k = false → Pd k = false) (hF : ∀ k, k < 75 → r_isA k = false → k ≠ 3 → k ≠ 4 → F k = .int (r_s0 n p r k 0)) (hcs : cs ≤ mc) (hsl : sl ≤ ms) (hQ : ∀ (h' : xH) (ra : Nat → Nat), RepR t ra (r_s0 n p r) (fun _ _ => 0) h' → (∀ b e, h0 b = some e → b ≠ t → h' b = some e) → (∀ k, r_isA k = true → h0 (ra k) = none) → Q none h') : G d n_X12_init mc ms 543 [(0, .ref t), (1, .int n0), (2, .int p0), (3, .int r0)] [.int r, .ref t] h cs sl Q := by
  repeat refine hG _ _ _ _ _ _ _ _ _ _ _ ?_
  refine ⟨_, hI.1, r_obl (by decide), rfl, rfl, ?_⟩
  intro h1 e1
  have hI1 := ri_sca2 hI 3 (hN _ rfl) (.int r) e1
  repeat refine hG _ _ _ _ _ _ _ _ _ _ _ ?_
  refine ⟨_, .int p, hI1.1, (by rw [r_at (by decide), va_up_ne _ _ (by decide)]; exact congrArg some (hF 2 (by decide) rfl (by decide) (by decide))), ?_⟩
  repeat refine hG _ _ _ _ _ _ _ _ _ _ _ ?_
  refine ⟨_, hI1.1, r_obl (by decide), rfl, rfl, ?_⟩
  intro h2 e2
  have hI2 := ri_sca2 hI1 4 (hN _ rfl) (.int (256 * p)) e2
  refine c_X12_S4 hG hI2 hA hN (n := n) (p := p) (r := r) (fun k hk hb => ?_) hcs hsl hQ
  by_cases h4 : k = 4
  · subst h4; rw [va_up_self]; rfl
  · by_cases h3 : k = 3
    · subst h3; rw [va_up_ne _ _ h4, va_up_self]; rfl
    · rw [va_up_ne _ _ h4, va_up_ne _ _ h3]; exact hF k hk hb h3 h4
theorem c_X12_S2 {G : xG} {ro : xR} {sv : Nat → Value} (hG : x_Good G ro sv) {d t mc ms cs sl : Nat} {h0 h : xH} {Pd : Nat → Bool} {F : Nat → Value} {Q : xQ} {n p r : Int32} {n0 p0 r0 : Int32} (hI : RI h0 t Pd F h) (hA : ∀ k, r_isA k = true → Pd k = true) (hN : ∀ k, r_isA k = false → Pd k = false) (hF : ∀ k, k < 75 → r_isA k = false → k ≠ 2 → k ≠ 3 → k ≠ 4 → F k = .int (r_s0 n p (r_cl r0 1 32) k 0)) (hcs : cs ≤ mc) (hsl : sl ≤ ms) (hQ : ∀ (h' : xH) (ra : Nat → Nat), RepR t ra (r_s0 n p (r_cl r0 1 32)) (fun _ _ => 0) h' → (∀ b e, h0 b = some e → b ≠ t → h' b = some e) → (∀ k, r_isA k = true → h0 (ra k) = none) → Q none h') : G d n_X12_init mc ms 518 [(0, .ref t), (1, .int n0), (2, .int p0), (3, .int r0)] [.int p, .ref t] h cs sl Q := by
  repeat refine hG _ _ _ _ _ _ _ _ _ _ _ ?_
  refine ⟨_, hI.1, r_obl (by decide), rfl, rfl, ?_⟩
  intro h1 e1
  have hI1 := ri_sca2 hI 2 (hN _ rfl) (.int p) e1
  have key : G d n_X12_init mc ms 543 [(0, .ref t), (1, .int n0), (2, .int p0), (3, .int r0)] [.int (r_cl r0 1 32), .ref t] h1 cs sl Q := by
    refine c_X12_S3 hG hI1 hA hN (n := n) (p := p) (fun k hk hb q3 q4 => ?_) hcs hsl hQ
    by_cases h4 : k = 2
    · subst h4; rw [va_up_self]; rfl
    · rw [va_up_ne _ _ h4]; exact hF k hk hb h4 q3 q4
  repeat refine hG _ _ _ _ _ _ _ _ _ _ _ ?_
  refine ⟨fun hc => ?_, fun hc => ?_⟩
  · repeat refine hG _ _ _ _ _ _ _ _ _ _ _ ?_
    refine ⟨fun hc2 => ?_, fun hc2 => ?_⟩
    · rw [show r_cl r0 1 32 = r0 from by rw [r_cl, if_neg (Int32.not_lt.mpr hc), if_neg (Int32.not_lt.mpr hc2)]] at key
      refine hG _ _ _ _ _ _ _ _ _ _ _ ?_
      exact key
    · rw [show r_cl r0 1 32 = 32 from by rw [r_cl, if_neg (Int32.not_lt.mpr hc), if_pos (Int32.not_le.mp hc2)]] at key
      refine hG _ _ _ _ _ _ _ _ _ _ _ ?_
      refine hG _ _ _ _ _ _ _ _ _ _ _ ?_
      exact key
  · rw [show r_cl r0 1 32 = 1 from by rw [r_cl, if_pos (Int32.not_le.mp hc)]] at key
    refine hG _ _ _ _ _ _ _ _ _ _ _ ?_
    refine hG _ _ _ _ _ _ _ _ _ _ _ ?_
    exact key
theorem c_X12_S1 {G : xG} {ro : xR} {sv : Nat → Value} (hG : x_Good G ro sv) {d t mc ms cs sl : Nat} {h0 h : xH} {Pd : Nat → Bool} {F : Nat → Value} {Q : xQ} {n p r : Int32} {n0 p0 r0 : Int32} (hI : RI h0 t Pd F h) (hA : ∀ k, r_isA k = true → Pd k = true) (hN : ∀ k, r_isA k = false → Pd k = false) (hF : ∀ k, k < 75 → r_isA k = false → k ≠ 1 → k ≠ 2 → k ≠ 3 → k ≠ 4 → F k = .int (r_s0 n (r_cl p0 4 16) (r_cl r0 1 32) k 0)) (hcs : cs ≤ mc) (hsl : sl ≤ ms) (hQ : ∀ (h' : xH) (ra : Nat → Nat), RepR t ra (r_s0 n (r_cl p0 4 16) (r_cl r0 1 32)) (fun _ _ => 0) h' → (∀ b e, h0 b = some e → b ≠ t → h' b = some e) → (∀ k, r_isA k = true → h0 (ra k) = none) → Q none h') : G d n_X12_init mc ms 493 [(0, .ref t), (1, .int n0), (2, .int p0), (3, .int r0)] [.int n, .ref t] h cs sl Q := by
  repeat refine hG _ _ _ _ _ _ _ _ _ _ _ ?_
  refine ⟨_, hI.1, r_obl (by decide), rfl, rfl, ?_⟩
  intro h1 e1
  have hI1 := ri_sca2 hI 1 (hN _ rfl) (.int n) e1
  have key : G d n_X12_init mc ms 518 [(0, .ref t), (1, .int n0), (2, .int p0), (3, .int r0)] [.int (r_cl p0 4 16), .ref t] h1 cs sl Q := by
    refine c_X12_S2 hG hI1 hA hN (n := n) (r := 0) (fun k hk hb q2 q3 q4 => ?_) hcs hsl hQ
    by_cases h4 : k = 1
    · subst h4; rw [va_up_self]; rfl
    · rw [va_up_ne _ _ h4]; exact hF k hk hb h4 q2 q3 q4
  repeat refine hG _ _ _ _ _ _ _ _ _ _ _ ?_
  refine ⟨fun hc => ?_, fun hc => ?_⟩
  · repeat refine hG _ _ _ _ _ _ _ _ _ _ _ ?_
    refine ⟨fun hc2 => ?_, fun hc2 => ?_⟩
    · rw [show r_cl p0 4 16 = p0 from by rw [r_cl, if_neg (Int32.not_lt.mpr hc), if_neg (Int32.not_lt.mpr hc2)]] at key
      refine hG _ _ _ _ _ _ _ _ _ _ _ ?_
      exact key
    · rw [show r_cl p0 4 16 = 16 from by rw [r_cl, if_neg (Int32.not_lt.mpr hc), if_pos (Int32.not_le.mp hc2)]] at key
      refine hG _ _ _ _ _ _ _ _ _ _ _ ?_
      refine hG _ _ _ _ _ _ _ _ _ _ _ ?_
      exact key
  · rw [show r_cl p0 4 16 = 4 from by rw [r_cl, if_pos (Int32.not_le.mp hc)]] at key
    refine hG _ _ _ _ _ _ _ _ _ _ _ ?_
    refine hG _ _ _ _ _ _ _ _ _ _ _ ?_
    exact key
set_option maxHeartbeats 4000000 in
set_option maxRecDepth 100000 in
theorem c_X12_init {G : xG} {ro : xR} {sv : Nat → Value} (hG : x_Good G ro sv) {d t : Nat} {h0 : xH} {Q : xQ} {n0 p0 r0 : Int32} (ht : h0 t = some (.inr (12, r_ob r_F0))) (hQ : ∀ (h' : xH) (ra : Nat → Nat), RepR t ra (r_s0 (r_cl n0 2 4) (r_cl p0 4 16) (r_cl r0 1 32)) (fun _ _ => 0) h' → (∀ b e, h0 b = some e → b ≠ t → h' b = some e) → (∀ k, r_isA k = true → h0 (ra k) = none) → Q none h') : G d n_X12_init 60 753964 0 [(0, .ref t), (1, .int n0), (2, .int p0), (3, .int r0)] [] h0 0 0 Q := by
  have hI : RI h0 t (fun _ => false) r_F0 h0 := ⟨ht, (fun k hk => by cases hk), (fun k k' hk => by cases hk), fun b e hb _ => hb⟩
  repeat refine hG _ _ _ _ _ _ _ _ _ _ _ ?_
  refine ⟨by decide, by decide, by decide, by decide, fun a ha => ?_⟩
  intro h1 e1
  repeat refine hG _ _ _ _ _ _ _ _ _ _ _ ?_
  refine ⟨_, (by rw [e1]; exact x_old ha hI.1), r_obl (by decide), rfl, rfl, ?_⟩
  intro h2 e2
  replace hI := ri_new2 hI 6 ha e1 e2
  clear e2 e1 ha
  repeat refine hG _ _ _ _ _ _ _ _ _ _ _ ?_
  refine ⟨by decide, by decide, by decide, by decide, fun a ha => ?_⟩
  intro h1 e1
  repeat refine hG _ _ _ _ _ _ _ _ _ _ _ ?_
  refine ⟨_, (by rw [e1]; exact x_old ha hI.1), r_obl (by decide), rfl, rfl, ?_⟩
  intro h2 e2
  replace hI := ri_new2 hI 7 ha e1 e2
  clear e2 e1 ha
  repeat refine hG _ _ _ _ _ _ _ _ _ _ _ ?_
  refine ⟨by decide, by decide, by decide, by decide, fun a ha => ?_⟩
  intro h1 e1
  repeat refine hG _ _ _ _ _ _ _ _ _ _ _ ?_
  refine ⟨_, (by rw [e1]; exact x_old ha hI.1), r_obl (by decide), rfl, rfl, ?_⟩
  intro h2 e2
  replace hI := ri_new2 hI 8 ha e1 e2
  clear e2 e1 ha
  repeat refine hG _ _ _ _ _ _ _ _ _ _ _ ?_
  refine ⟨by decide, by decide, by decide, by decide, fun a ha => ?_⟩
  intro h1 e1
  repeat refine hG _ _ _ _ _ _ _ _ _ _ _ ?_
  refine ⟨_, (by rw [e1]; exact x_old ha hI.1), r_obl (by decide), rfl, rfl, ?_⟩
  intro h2 e2
  replace hI := ri_new2 hI 9 ha e1 e2
  clear e2 e1 ha
  repeat refine hG _ _ _ _ _ _ _ _ _ _ _ ?_
  refine ⟨by decide, by decide, by decide, by decide, fun a ha => ?_⟩
  intro h1 e1
  repeat refine hG _ _ _ _ _ _ _ _ _ _ _ ?_
  refine ⟨_, (by rw [e1]; exact x_old ha hI.1), r_obl (by decide), rfl, rfl, ?_⟩
  intro h2 e2
  replace hI := ri_new2 hI 10 ha e1 e2
  clear e2 e1 ha
  repeat refine hG _ _ _ _ _ _ _ _ _ _ _ ?_
  refine ⟨by decide, by decide, by decide, by decide, fun a ha => ?_⟩
  intro h1 e1
  repeat refine hG _ _ _ _ _ _ _ _ _ _ _ ?_
  refine ⟨_, (by rw [e1]; exact x_old ha hI.1), r_obl (by decide), rfl, rfl, ?_⟩
  intro h2 e2
  replace hI := ri_new2 hI 11 ha e1 e2
  clear e2 e1 ha
  repeat refine hG _ _ _ _ _ _ _ _ _ _ _ ?_
  refine ⟨by decide, by decide, by decide, by decide, fun a ha => ?_⟩
  intro h1 e1
  repeat refine hG _ _ _ _ _ _ _ _ _ _ _ ?_
  refine ⟨_, (by rw [e1]; exact x_old ha hI.1), r_obl (by decide), rfl, rfl, ?_⟩
  intro h2 e2
  replace hI := ri_new2 hI 12 ha e1 e2
  clear e2 e1 ha
  repeat refine hG _ _ _ _ _ _ _ _ _ _ _ ?_
  refine ⟨by decide, by decide, by decide, by decide, fun a ha => ?_⟩
  intro h1 e1
  repeat refine hG _ _ _ _ _ _ _ _ _ _ _ ?_
  refine ⟨_, (by rw [e1]; exact x_old ha hI.1), r_obl (by decide), rfl, rfl, ?_⟩
  intro h2 e2
  replace hI := ri_new2 hI 15 ha e1 e2
  clear e2 e1 ha
  repeat refine hG _ _ _ _ _ _ _ _ _ _ _ ?_
  refine ⟨by decide, by decide, by decide, by decide, fun a ha => ?_⟩
  intro h1 e1
  repeat refine hG _ _ _ _ _ _ _ _ _ _ _ ?_
  refine ⟨_, (by rw [e1]; exact x_old ha hI.1), r_obl (by decide), rfl, rfl, ?_⟩
  intro h2 e2
  replace hI := ri_new2 hI 16 ha e1 e2
  clear e2 e1 ha
  repeat refine hG _ _ _ _ _ _ _ _ _ _ _ ?_
  refine ⟨by decide, by decide, by decide, by decide, fun a ha => ?_⟩
  intro h1 e1
  repeat refine hG _ _ _ _ _ _ _ _ _ _ _ ?_
  refine ⟨_, (by rw [e1]; exact x_old ha hI.1), r_obl (by decide), rfl, rfl, ?_⟩
  intro h2 e2
  replace hI := ri_new2 hI 17 ha e1 e2
  clear e2 e1 ha
  repeat refine hG _ _ _ _ _ _ _ _ _ _ _ ?_
  refine ⟨by decide, by decide, by decide, by decide, fun a ha => ?_⟩
  intro h1 e1
  repeat refine hG _ _ _ _ _ _ _ _ _ _ _ ?_
  refine ⟨_, (by rw [e1]; exact x_old ha hI.1), r_obl (by decide), rfl, rfl, ?_⟩
  intro h2 e2
  replace hI := ri_new2 hI 18 ha e1 e2
  clear e2 e1 ha
  repeat refine hG _ _ _ _ _ _ _ _ _ _ _ ?_
  refine ⟨by decide, by decide, by decide, by decide, fun a ha => ?_⟩
  intro h1 e1
  repeat refine hG _ _ _ _ _ _ _ _ _ _ _ ?_
  refine ⟨_, (by rw [e1]; exact x_old ha hI.1), r_obl (by decide), rfl, rfl, ?_⟩
  intro h2 e2
  replace hI := ri_new2 hI 19 ha e1 e2
  clear e2 e1 ha
  repeat refine hG _ _ _ _ _ _ _ _ _ _ _ ?_
  refine ⟨by decide, by decide, by decide, by decide, fun a ha => ?_⟩
  intro h1 e1
  repeat refine hG _ _ _ _ _ _ _ _ _ _ _ ?_
  refine ⟨_, (by rw [e1]; exact x_old ha hI.1), r_obl (by decide), rfl, rfl, ?_⟩
  intro h2 e2
  replace hI := ri_new2 hI 20 ha e1 e2
  clear e2 e1 ha
  repeat refine hG _ _ _ _ _ _ _ _ _ _ _ ?_
  refine ⟨by decide, by decide, by decide, by decide, fun a ha => ?_⟩
  intro h1 e1
  repeat refine hG _ _ _ _ _ _ _ _ _ _ _ ?_
  refine ⟨_, (by rw [e1]; exact x_old ha hI.1), r_obl (by decide), rfl, rfl, ?_⟩
  intro h2 e2
  replace hI := ri_new2 hI 21 ha e1 e2
  clear e2 e1 ha
  repeat refine hG _ _ _ _ _ _ _ _ _ _ _ ?_
  refine ⟨by decide, by decide, by decide, by decide, fun a ha => ?_⟩
  intro h1 e1
  repeat refine hG _ _ _ _ _ _ _ _ _ _ _ ?_
  refine ⟨_, (by rw [e1]; exact x_old ha hI.1), r_obl (by decide), rfl, rfl, ?_⟩
  intro h2 e2
  replace hI := ri_new2 hI 22 ha e1 e2
  clear e2 e1 ha
  repeat refine hG _ _ _ _ _ _ _ _ _ _ _ ?_
  refine ⟨by decide, by decide, by decide, by decide, fun a ha => ?_⟩
  intro h1 e1
  repeat refine hG _ _ _ _ _ _ _ _ _ _ _ ?_
  refine ⟨_, (by rw [e1]; exact x_old ha hI.1), r_obl (by decide), rfl, rfl, ?_⟩
  intro h2 e2
  replace hI := ri_new2 hI 23 ha e1 e2
  clear e2 e1 ha
  repeat refine hG _ _ _ _ _ _ _ _ _ _ _ ?_
  refine ⟨by decide, by decide, by decide, by decide, fun a ha => ?_⟩
  intro h1 e1
  repeat refine hG _ _ _ _ _ _ _ _ _ _ _ ?_
  refine ⟨_, (by rw [e1]; exact x_old ha hI.1), r_obl (by decide), rfl, rfl, ?_⟩
  intro h2 e2
  replace hI := ri_new2 hI 24 ha e1 e2
  clear e2 e1 ha
  repeat refine hG _ _ _ _ _ _ _ _ _ _ _ ?_
  refine ⟨by decide, by decide, by decide, by decide, fun a ha => ?_⟩
  intro h1 e1
  repeat refine hG _ _ _ _ _ _ _ _ _ _ _ ?_
  refine ⟨_, (by rw [e1]; exact x_old ha hI.1), r_obl (by decide), rfl, rfl, ?_⟩
  intro h2 e2
  replace hI := ri_new2 hI 25 ha e1 e2
  clear e2 e1 ha
  repeat refine hG _ _ _ _ _ _ _ _ _ _ _ ?_
  refine ⟨by decide, by decide, by decide, by decide, fun a ha => ?_⟩
  intro h1 e1
  repeat refine hG _ _ _ _ _ _ _ _ _ _ _ ?_
  refine ⟨_, (by rw [e1]; exact x_old ha hI.1), r_obl (by decide), rfl, rfl, ?_⟩
  intro h2 e2
  replace hI := ri_new2 hI 26 ha e1 e2
  clear e2 e1 ha
  repeat refine hG _ _ _ _ _ _ _ _ _ _ _ ?_
  refine ⟨by decide, by decide, by decide, by decide, fun a ha => ?_⟩
  intro h1 e1
  repeat refine hG _ _ _ _ _ _ _ _ _ _ _ ?_
  refine ⟨_, (by rw [e1]; exact x_old ha hI.1), r_obl (by decide), rfl, rfl, ?_⟩
  intro h2 e2
  replace hI := ri_new2 hI 27 ha e1 e2
  clear e2 e1 ha
  repeat refine hG _ _ _ _ _ _ _ _ _ _ _ ?_
  refine ⟨by decide, by decide, by decide, by decide, fun a ha => ?_⟩
  intro h1 e1
  repeat refine hG _ _ _ _ _ _ _ _ _ _ _ ?_
  refine ⟨_, (by rw [e1]; exact x_old ha hI.1), r_obl (by decide), rfl, rfl, ?_⟩
  intro h2 e2
  replace hI := ri_new2 hI 28 ha e1 e2
  clear e2 e1 ha
  repeat refine hG _ _ _ _ _ _ _ _ _ _ _ ?_
  refine ⟨by decide, by decide, by decide, by decide, fun a ha => ?_⟩
  intro h1 e1
  repeat refine hG _ _ _ _ _ _ _ _ _ _ _ ?_
  refine ⟨_, (by rw [e1]; exact x_old ha hI.1), r_obl (by decide), rfl, rfl, ?_⟩
  intro h2 e2
  replace hI := ri_new2 hI 29 ha e1 e2
  clear e2 e1 ha
  repeat refine hG _ _ _ _ _ _ _ _ _ _ _ ?_
  refine ⟨by decide, by decide, by decide, by decide, fun a ha => ?_⟩
  intro h1 e1
  repeat refine hG _ _ _ _ _ _ _ _ _ _ _ ?_
  refine ⟨_, (by rw [e1]; exact x_old ha hI.1), r_obl (by decide), rfl, rfl, ?_⟩
  intro h2 e2
  replace hI := ri_new2 hI 30 ha e1 e2
  clear e2 e1 ha
  repeat refine hG _ _ _ _ _ _ _ _ _ _ _ ?_
  refine ⟨by decide, by decide, by decide, by decide, fun a ha => ?_⟩
  intro h1 e1
  repeat refine hG _ _ _ _ _ _ _ _ _ _ _ ?_
  refine ⟨_, (by rw [e1]; exact x_old ha hI.1), r_obl (by decide), rfl, rfl, ?_⟩
  intro h2 e2
  replace hI := ri_new2 hI 31 ha e1 e2
  clear e2 e1 ha
  repeat refine hG _ _ _ _ _ _ _ _ _ _ _ ?_
  refine ⟨by decide, by decide, by decide, by decide, fun a ha => ?_⟩
  intro h1 e1
  repeat refine hG _ _ _ _ _ _ _ _ _ _ _ ?_
  refine ⟨_, (by rw [e1]; exact x_old ha hI.1), r_obl (by decide), rfl, rfl, ?_⟩
  intro h2 e2
  replace hI := ri_new2 hI 32 ha e1 e2
  clear e2 e1 ha
  repeat refine hG _ _ _ _ _ _ _ _ _ _ _ ?_
  refine ⟨by decide, by decide, by decide, by decide, fun a ha => ?_⟩
  intro h1 e1
  repeat refine hG _ _ _ _ _ _ _ _ _ _ _ ?_
  refine ⟨_, (by rw [e1]; exact x_old ha hI.1), r_obl (by decide), rfl, rfl, ?_⟩
  intro h2 e2
  replace hI := ri_new2 hI 33 ha e1 e2
  clear e2 e1 ha
  repeat refine hG _ _ _ _ _ _ _ _ _ _ _ ?_
  refine ⟨by decide, by decide, by decide, by decide, fun a ha => ?_⟩
  intro h1 e1
  repeat refine hG _ _ _ _ _ _ _ _ _ _ _ ?_
  refine ⟨_, (by rw [e1]; exact x_old ha hI.1), r_obl (by decide), rfl, rfl, ?_⟩
  intro h2 e2
  replace hI := ri_new2 hI 34 ha e1 e2
  clear e2 e1 ha
  repeat refine hG _ _ _ _ _ _ _ _ _ _ _ ?_
  refine ⟨by decide, by decide, by decide, by decide, fun a ha => ?_⟩
  intro h1 e1
  repeat refine hG _ _ _ _ _ _ _ _ _ _ _ ?_
  refine ⟨_, (by rw [e1]; exact x_old ha hI.1), r_obl (by decide), rfl, rfl, ?_⟩
  intro h2 e2
  replace hI := ri_new2 hI 35 ha e1 e2
  clear e2 e1 ha
  repeat refine hG _ _ _ _ _ _ _ _ _ _ _ ?_
  refine ⟨by decide, by decide, by decide, by decide, fun a ha => ?_⟩
  intro h1 e1
  repeat refine hG _ _ _ _ _ _ _ _ _ _ _ ?_
  refine ⟨_, (by rw [e1]; exact x_old ha hI.1), r_obl (by decide), rfl, rfl, ?_⟩
  intro h2 e2
  replace hI := ri_new2 hI 36 ha e1 e2
  clear e2 e1 ha
  repeat refine hG _ _ _ _ _ _ _ _ _ _ _ ?_
  refine ⟨by decide, by decide, by decide, by decide, fun a ha => ?_⟩
  intro h1 e1
  repeat refine hG _ _ _ _ _ _ _ _ _ _ _ ?_
  refine ⟨_, (by rw [e1]; exact x_old ha hI.1), r_obl (by decide), rfl, rfl, ?_⟩
  intro h2 e2
  replace hI := ri_new2 hI 37 ha e1 e2
  clear e2 e1 ha
  repeat refine hG _ _ _ _ _ _ _ _ _ _ _ ?_
  refine ⟨by decide, by decide, by decide, by decide, fun a ha => ?_⟩
  intro h1 e1
  repeat refine hG _ _ _ _ _ _ _ _ _ _ _ ?_
  refine ⟨_, (by rw [e1]; exact x_old ha hI.1), r_obl (by decide), rfl, rfl, ?_⟩
  intro h2 e2
  replace hI := ri_new2 hI 38 ha e1 e2
  clear e2 e1 ha
  repeat refine hG _ _ _ _ _ _ _ _ _ _ _ ?_
  refine ⟨by decide, by decide, by decide, by decide, fun a ha => ?_⟩
  intro h1 e1
  repeat refine hG _ _ _ _ _ _ _ _ _ _ _ ?_
  refine ⟨_, (by rw [e1]; exact x_old ha hI.1), r_obl (by decide), rfl, rfl, ?_⟩
  intro h2 e2
  replace hI := ri_new2 hI 39 ha e1 e2
  clear e2 e1 ha
  repeat refine hG _ _ _ _ _ _ _ _ _ _ _ ?_
  refine ⟨by decide, by decide, by decide, by decide, fun a ha => ?_⟩
  intro h1 e1
  repeat refine hG _ _ _ _ _ _ _ _ _ _ _ ?_
  refine ⟨_, (by rw [e1]; exact x_old ha hI.1), r_obl (by decide), rfl, rfl, ?_⟩
  intro h2 e2
  replace hI := ri_new2 hI 40 ha e1 e2
  clear e2 e1 ha
  repeat refine hG _ _ _ _ _ _ _ _ _ _ _ ?_
  refine ⟨by decide, by decide, by decide, by decide, fun a ha => ?_⟩
  intro h1 e1
  repeat refine hG _ _ _ _ _ _ _ _ _ _ _ ?_
  refine ⟨_, (by rw [e1]; exact x_old ha hI.1), r_obl (by decide), rfl, rfl, ?_⟩
  intro h2 e2
  replace hI := ri_new2 hI 41 ha e1 e2
  clear e2 e1 ha
  repeat refine hG _ _ _ _ _ _ _ _ _ _ _ ?_
  refine ⟨by decide, by decide, by decide, by decide, fun a ha => ?_⟩
  intro h1 e1
  repeat refine hG _ _ _ _ _ _ _ _ _ _ _ ?_
  refine ⟨_, (by rw [e1]; exact x_old ha hI.1), r_obl (by decide), rfl, rfl, ?_⟩
  intro h2 e2
  replace hI := ri_new2 hI 42 ha e1 e2
  clear e2 e1 ha
  repeat refine hG _ _ _ _ _ _ _ _ _ _ _ ?_
  refine ⟨by decide, by decide, by decide, by decide, fun a ha => ?_⟩
  intro h1 e1
  repeat refine hG _ _ _ _ _ _ _ _ _ _ _ ?_
  refine ⟨_, (by rw [e1]; exact x_old ha hI.1), r_obl (by decide), rfl, rfl, ?_⟩
  intro h2 e2
  replace hI := ri_new2 hI 43 ha e1 e2
  clear e2 e1 ha
  repeat refine hG _ _ _ _ _ _ _ _ _ _ _ ?_
  refine ⟨by decide, by decide, by decide, by decide, fun a ha => ?_⟩
  intro h1 e1
  repeat refine hG _ _ _ _ _ _ _ _ _ _ _ ?_
  refine ⟨_, (by rw [e1]; exact x_old ha hI.1), r_obl (by decide), rfl, rfl, ?_⟩
  intro h2 e2
  replace hI := ri_new2 hI 45 ha e1 e2
  clear e2 e1 ha
  repeat refine hG _ _ _ _ _ _ _ _ _ _ _ ?_
  refine ⟨by decide, by decide, by decide, by decide, fun a ha => ?_⟩
  intro h1 e1
  repeat refine hG _ _ _ _ _ _ _ _ _ _ _ ?_
  refine ⟨_, (by rw [e1]; exact x_old ha hI.1), r_obl (by decide), rfl, rfl, ?_⟩
  intro h2 e2
  replace hI := ri_new2 hI 46 ha e1 e2
  clear e2 e1 ha
  repeat refine hG _ _ _ _ _ _ _ _ _ _ _ ?_
  refine ⟨by decide, by decide, by decide, by decide, fun a ha => ?_⟩
  intro h1 e1
  repeat refine hG _ _ _ _ _ _ _ _ _ _ _ ?_
  refine ⟨_, (by rw [e1]; exact x_old ha hI.1), r_obl (by decide), rfl, rfl, ?_⟩
  intro h2 e2
  replace hI := ri_new2 hI 47 ha e1 e2
  clear e2 e1 ha
  repeat refine hG _ _ _ _ _ _ _ _ _ _ _ ?_
  refine ⟨by decide, by decide, by decide, by decide, fun a ha => ?_⟩
  intro h1 e1
  repeat refine hG _ _ _ _ _ _ _ _ _ _ _ ?_
  refine ⟨_, (by rw [e1]; exact x_old ha hI.1), r_obl (by decide), rfl, rfl, ?_⟩
  intro h2 e2
  replace hI := ri_new2 hI 48 ha e1 e2
  clear e2 e1 ha
  repeat refine hG _ _ _ _ _ _ _ _ _ _ _ ?_
  refine ⟨by decide, by decide, by decide, by decide, fun a ha => ?_⟩
  intro h1 e1
  repeat refine hG _ _ _ _ _ _ _ _ _ _ _ ?_
  refine ⟨_, (by rw [e1]; exact x_old ha hI.1), r_obl (by decide), rfl, rfl, ?_⟩
  intro h2 e2
  replace hI := ri_new2 hI 49 ha e1 e2
  clear e2 e1 ha
  repeat refine hG _ _ _ _ _ _ _ _ _ _ _ ?_
  refine ⟨by decide, by decide, by decide, by decide, fun a ha => ?_⟩
  intro h1 e1
  repeat refine hG _ _ _ _ _ _ _ _ _ _ _ ?_
  refine ⟨_, (by rw [e1]; exact x_old ha hI.1), r_obl (by decide), rfl, rfl, ?_⟩
  intro h2 e2
  replace hI := ri_new2 hI 51 ha e1 e2
  clear e2 e1 ha
  repeat refine hG _ _ _ _ _ _ _ _ _ _ _ ?_
  refine ⟨by decide, by decide, by decide, by decide, fun a ha => ?_⟩
  intro h1 e1
  repeat refine hG _ _ _ _ _ _ _ _ _ _ _ ?_
  refine ⟨_, (by rw [e1]; exact x_old ha hI.1), r_obl (by decide), rfl, rfl, ?_⟩
  intro h2 e2
  replace hI := ri_new2 hI 52 ha e1 e2
  clear e2 e1 ha
  repeat refine hG _ _ _ _ _ _ _ _ _ _ _ ?_
  refine ⟨by decide, by decide, by decide, by decide, fun a ha => ?_⟩
  intro h1 e1
  repeat refine hG _ _ _ _ _ _ _ _ _ _ _ ?_
  refine ⟨_, (by rw [e1]; exact x_old ha hI.1), r_obl (by decide), rfl, rfl, ?_⟩
  intro h2 e2
  replace hI := ri_new2 hI 53 ha e1 e2
  clear e2 e1 ha
  repeat refine hG _ _ _ _ _ _ _ _ _ _ _ ?_
  refine ⟨by decide, by decide, by decide, by decide, fun a ha => ?_⟩
  intro h1 e1
  repeat refine hG _ _ _ _ _ _ _ _ _ _ _ ?_
  refine ⟨_, (by rw [e1]; exact x_old ha hI.1), r_obl (by decide), rfl, rfl, ?_⟩
  intro h2 e2
  replace hI := ri_new2 hI 54 ha e1 e2
  clear e2 e1 ha
  repeat refine hG _ _ _ _ _ _ _ _ _ _ _ ?_
  refine ⟨by decide, by decide, by decide, by decide, fun a ha => ?_⟩
  intro h1 e1
  repeat refine hG _ _ _ _ _ _ _ _ _ _ _ ?_
  refine ⟨_, (by rw [e1]; exact x_old ha hI.1), r_obl (by decide), rfl, rfl, ?_⟩
  intro h2 e2
  replace hI := ri_new2 hI 55 ha e1 e2
  clear e2 e1 ha
  repeat refine hG _ _ _ _ _ _ _ _ _ _ _ ?_
  refine ⟨by decide, by decide, by decide, by decide, fun a ha => ?_⟩
  intro h1 e1
  repeat refine hG _ _ _ _ _ _ _ _ _ _ _ ?_
  refine ⟨_, (by rw [e1]; exact x_old ha hI.1), r_obl (by decide), rfl, rfl, ?_⟩
  intro h2 e2
  replace hI := ri_new2 hI 56 ha e1 e2
  clear e2 e1 ha
  repeat refine hG _ _ _ _ _ _ _ _ _ _ _ ?_
  refine ⟨by decide, by decide, by decide, by decide, fun a ha => ?_⟩
  intro h1 e1
  repeat refine hG _ _ _ _ _ _ _ _ _ _ _ ?_
  refine ⟨_, (by rw [e1]; exact x_old ha hI.1), r_obl (by decide), rfl, rfl, ?_⟩
  intro h2 e2
  replace hI := ri_new2 hI 57 ha e1 e2
  clear e2 e1 ha
  repeat refine hG _ _ _ _ _ _ _ _ _ _ _ ?_
  refine ⟨by decide, by decide, by decide, by decide, fun a ha => ?_⟩
  intro h1 e1
  repeat refine hG _ _ _ _ _ _ _ _ _ _ _ ?_
  refine ⟨_, (by rw [e1]; exact x_old ha hI.1), r_obl (by decide), rfl, rfl, ?_⟩
  intro h2 e2
  replace hI := ri_new2 hI 58 ha e1 e2
  clear e2 e1 ha
  repeat refine hG _ _ _ _ _ _ _ _ _ _ _ ?_
  refine ⟨by decide, by decide, by decide, by decide, fun a ha => ?_⟩
  intro h1 e1
  repeat refine hG _ _ _ _ _ _ _ _ _ _ _ ?_
  refine ⟨_, (by rw [e1]; exact x_old ha hI.1), r_obl (by decide), rfl, rfl, ?_⟩
  intro h2 e2
  replace hI := ri_new2 hI 59 ha e1 e2
  clear e2 e1 ha
  repeat refine hG _ _ _ _ _ _ _ _ _ _ _ ?_
  refine ⟨_, hI.1, r_obl (by decide), rfl, rfl, ?_⟩
  intro h2 e2
  replace hI := ri_sca2 hI 60 rfl (.int (-1)) e2
  clear e2
  repeat refine hG _ _ _ _ _ _ _ _ _ _ _ ?_
  refine ⟨_, hI.1, r_obl (by decide), rfl, rfl, ?_⟩
  intro h2 e2
  replace hI := ri_sca2 hI 61 rfl (.int (-1)) e2
  clear e2
  repeat refine hG _ _ _ _ _ _ _ _ _ _ _ ?_
  refine ⟨by decide, by decide, by decide, by decide, fun a ha => ?_⟩
  intro h1 e1
  repeat refine hG _ _ _ _ _ _ _ _ _ _ _ ?_
  refine ⟨_, (by rw [e1]; exact x_old ha hI.1), r_obl (by decide), rfl, rfl, ?_⟩
  intro h2 e2
  replace hI := ri_new2 hI 63 ha e1 e2
  clear e2 e1 ha
  repeat refine hG _ _ _ _ _ _ _ _ _ _ _ ?_
  refine ⟨by decide, by decide, by decide, by decide, fun a ha => ?_⟩
  intro h1 e1
  repeat refine hG _ _ _ _ _ _ _ _ _ _ _ ?_
  refine ⟨_, (by rw [e1]; exact x_old ha hI.1), r_obl (by decide), rfl, rfl, ?_⟩
  intro h2 e2
  replace hI := ri_new2 hI 64 ha e1 e2
  clear e2 e1 ha
  repeat refine hG _ _ _ _ _ _ _ _ _ _ _ ?_
  refine ⟨by decide, by decide, by decide, by decide, fun a ha => ?_⟩
  intro h1 e1
  repeat refine hG _ _ _ _ _ _ _ _ _ _ _ ?_
  refine ⟨_, (by rw [e1]; exact x_old ha hI.1), r_obl (by decide), rfl, rfl, ?_⟩
  intro h2 e2
  replace hI := ri_new2 hI 67 ha e1 e2
  clear e2 e1 ha
  repeat refine hG _ _ _ _ _ _ _ _ _ _ _ ?_
  refine ⟨by decide, by decide, by decide, by decide, fun a ha => ?_⟩
  intro h1 e1
  repeat refine hG _ _ _ _ _ _ _ _ _ _ _ ?_
  refine ⟨_, (by rw [e1]; exact x_old ha hI.1), r_obl (by decide), rfl, rfl, ?_⟩
  intro h2 e2
  replace hI := ri_new2 hI 68 ha e1 e2
  clear e2 e1 ha
  repeat refine hG _ _ _ _ _ _ _ _ _ _ _ ?_
  refine ⟨by decide, by decide, by decide, by decide, fun a ha => ?_⟩
  intro h1 e1
  repeat refine hG _ _ _ _ _ _ _ _ _ _ _ ?_
  refine ⟨_, (by rw [e1]; exact x_old ha hI.1), r_obl (by decide), rfl, rfl, ?_⟩
  intro h2 e2
  replace hI := ri_new2 hI 69 ha e1 e2
  clear e2 e1 ha
  repeat refine hG _ _ _ _ _ _ _ _ _ _ _ ?_
  refine ⟨by decide, by decide, by decide, by decide, fun a ha => ?_⟩
  intro h1 e1
  repeat refine hG _ _ _ _ _ _ _ _ _ _ _ ?_
  refine ⟨_, (by rw [e1]; exact x_old ha hI.1), r_obl (by decide), rfl, rfl, ?_⟩
  intro h2 e2
  replace hI := ri_new2 hI 70 ha e1 e2
  clear e2 e1 ha
  repeat refine hG _ _ _ _ _ _ _ _ _ _ _ ?_
  refine ⟨by decide, by decide, by decide, by decide, fun a ha => ?_⟩
  intro h1 e1
  repeat refine hG _ _ _ _ _ _ _ _ _ _ _ ?_
  refine ⟨_, (by rw [e1]; exact x_old ha hI.1), r_obl (by decide), rfl, rfl, ?_⟩
  intro h2 e2
  replace hI := ri_new2 hI 71 ha e1 e2
  clear e2 e1 ha
  repeat refine hG _ _ _ _ _ _ _ _ _ _ _ ?_
  refine ⟨by decide, by decide, by decide, by decide, fun a ha => ?_⟩
  intro h1 e1
  repeat refine hG _ _ _ _ _ _ _ _ _ _ _ ?_
  refine ⟨_, (by rw [e1]; exact x_old ha hI.1), r_obl (by decide), rfl, rfl, ?_⟩
  intro h2 e2
  replace hI := ri_new2 hI 73 ha e1 e2
  clear e2 e1 ha
  have hA : ∀ k, r_isA k = true → _ = true := r_finA
  have hN : ∀ k, r_isA k = false → _ = false := r_finN
  have key : ∀ cs sl, cs ≤ 60 → sl ≤ 753964 → G d n_X12_init 60 753964 493 [(0, .ref t), (1, .int n0), (2, .int p0), (3, .int r0)] [.int (r_cl n0 2 4), .ref t] h2 cs sl Q := by
    intro cs sl hcs hsl
    refine c_X12_S1 hG hI hA hN (p := 0) (r := 0) (fun k hk hb q1 q2 q3 q4 => ?_) hcs hsl hQ
    exact r_finS k hk hb q1 q2 q3 q4
  repeat refine hG _ _ _ _ _ _ _ _ _ _ _ ?_
  refine ⟨fun hc => ?_, fun hc => ?_⟩
  · repeat refine hG _ _ _ _ _ _ _ _ _ _ _ ?_
    refine ⟨fun hc2 => ?_, fun hc2 => ?_⟩
    · rw [show r_cl n0 2 4 = n0 from by rw [r_cl, if_neg (Int32.not_lt.mpr hc), if_neg (Int32.not_lt.mpr hc2)]] at key
      refine hG _ _ _ _ _ _ _ _ _ _ _ ?_
      exact key _ _ (by decide) (by decide)
    · rw [show r_cl n0 2 4 = 4 from by rw [r_cl, if_neg (Int32.not_lt.mpr hc), if_pos (Int32.not_le.mp hc2)]] at key
      refine hG _ _ _ _ _ _ _ _ _ _ _ ?_
      refine hG _ _ _ _ _ _ _ _ _ _ _ ?_
      exact key _ _ (by decide) (by decide)
  · rw [show r_cl n0 2 4 = 2 from by rw [r_cl, if_pos (Int32.not_le.mp hc)]] at key
    refine hG _ _ _ _ _ _ _ _ _ _ _ ?_
    refine hG _ _ _ _ _ _ _ _ _ _ _ ?_
    exact key _ _ (by decide) (by decide)
