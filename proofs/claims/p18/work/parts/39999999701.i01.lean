def v_s (f : Nat) : Nat := if f = 15 then 4096 else if f = 16 then 32 else if f = 18 then 7 else if f = 31 then 64 else if f = 32 then 16 else if f = 34 then 4 else if f = 36 then 128 else if f = 43 then 8192 else if 39 ≤ f ∧ f ≤ 42 then 128 else 1
def byt (x : Int32) : Prop := x.toInt8.toInt32 = x
def v_in (j f i : Nat) : Prop := 15 ≤ f ∧ f ≤ 43 ∧ f ≠ 19 ∧ v_s f * j ≤ i ∧ i < v_s f * j + v_s f
def v_E (S j k : Nat) (s t : (Nat → Nat → Int32)) : Prop := ∀ f i, 15 ≤ f → f ≤ 37 → f ≠ 19 → f ≠ 20 → i < v_s f → (f = 15 → i < S) → s f (v_s f * j + i) = t f (v_s f * k + i)
def v_F (j : Nat) (s t : (Nat → Nat → Int32)) : Prop := ∀ f i, t f i = s f i ∨ f = 74 ∨ v_in j f i ∨ (f = 63 ∧ nI j = s 61 0 ∧ t f i = 1)
def v_D (j : Nat) (s t : (Nat → Nat → Int32)) : Prop := nI j = s 61 0 → ∀ a, a < 4096 → t 15 (4096 * j + a) = s 15 (4096 * j + a) ∨ t 63 (a / 256) = 1
def v_B (S j : Nat) (t : (Nat → Nat → Int32)) : Prop := t 4 0 = nI S ∧ 1024 ≤ S ∧ S ≤ 4096 ∧ nb (t 33 j) 16 ∧ nb (t 35 j) 4 ∧ (∀ i, i < 4 → nb (t 34 (4 * j + i)) 32) ∧ nb (t 30 j) (S - 64) ∧ nb (t 29 j) 7 ∧ (∀ f i, f = 15 ∨ f = 31 ∨ f = 36 → byt (t f i))
def v_R (S j : Nat) (s t : (Nat → Nat → Int32)) : Prop := v_F j s t ∧ v_D j s t ∧ v_B S j t ∧ nb (s 38 j) 127
def v_W (S j k : Nat) (s z t u : (Nat → Nat → Int32)) : Prop := v_E S j k t u ∧ v_R S j s t ∧ v_R S k z u
def v_pl (f : Nat) : Bool := [16, 17, 18, 20, 21, 22, 23, 24, 25, 26, 27, 28, 32, 37].contains f

theorem v_F_u {j f i : Nat} {s t : (Nat → Nat → Int32)} {v : Int32} (H : v_F j s t) (h : v_in j f i) : v_F j s (u2 t f i v) := by
  intro g l
  by_cases e : g = f
  · subst e
    by_cases e2 : l = i
    · subst e2; exact .inr (.inr (.inl h))
    · rw [u2_sn e2]; exact H g l
  · rw [u2_ne e]; exact H g l
theorem v_E_u {S j k f i : Nat} {s t : (Nat → Nat → Int32)} {v w : Int32} (H : v_E S j k s t) (hv : v = w) : v_E S j k (u2 s f (v_s f * j + i) v) (u2 t f (v_s f * k + i) w) := by
  intro g l h1 h2 h3 h4 h5 h6
  by_cases e : g = f
  · subst e
    by_cases e2 : l = i
    · subst e2; rw [u2_ss, u2_ss, hv]
    · rw [u2_sn (by omega), u2_sn (by omega)]; exact H g l h1 h2 h3 h4 h5 h6
  · rw [u2_ne e, u2_ne e]; exact H g l h1 h2 h3 h4 h5 h6
theorem v_E_w {S j k : Nat} {s t s' t' : (Nat → Nat → Int32)} (H : v_E S j k s t) (h1 : ∀ f, 15 ≤ f → f ≤ 37 → f ≠ 19 → f ≠ 20 → s' f = s f) (h2 : ∀ f, 15 ≤ f → f ≤ 37 → f ≠ 19 → f ≠ 20 → t' f = t f) : v_E S j k s' t' := by
  intro g l a b c d e f
  rw [h1 g a b c d, h2 g a b c d]; exact H g l a b c d e f
theorem v_R_w {S j : Nat} {s t t' : (Nat → Nat → Int32)} (H : v_R S j s t) (hF : v_F j s t') (h : ∀ g, v_pl g = false → t' g = t g) : v_R S j s t' := by
  obtain ⟨_, h2, h3, h4⟩ := H
  refine ⟨hF, ?_, ?_, h4⟩
  · intro e a ha; rw [h 15 rfl, h 63 rfl]; exact h2 e a ha
  · simp only [v_B, h 4 rfl, h 33 rfl, h 35 rfl, h 34 rfl, h 30 rfl, h 29 rfl]
    obtain ⟨b1, b2, b3, b4, b5, b6, b7, b9, b8⟩ := h3
    refine ⟨b1, b2, b3, b4, b5, b6, b7, b9, ?_⟩
    intro f i hf
    rw [h f (by rcases hf with e | e | e <;> (subst e; rfl))]; exact b8 f i hf
theorem v_pl_r {f : Nat} (h : v_pl f = true) : 15 ≤ f ∧ f ≤ 43 ∧ f ≠ 19 := by
  have : f ∈ [16, 17, 18, 20, 21, 22, 23, 24, 25, 26, 27, 28, 32, 37] := by
    unfold v_pl at h; simpa using h
  simp at this; omega
theorem v_R_u {S j f i : Nat} {s t : (Nat → Nat → Int32)} {v : Int32} (H : v_R S j s t) (hf : v_pl f = true) (hi : i < v_s f) : v_R S j s (u2 t f (v_s f * j + i) v) := by
  have q := v_pl_r hf
  refine v_R_w H (v_F_u H.1 ⟨q.1, q.2.1, q.2.2, by omega, by omega⟩) ?_
  intro g hg
  exact u2_ne (by intro e; subst e; rw [hf] at hg; cases hg)
theorem v_W_u {S j k i : Nat} {s z t u : (Nat → Nat → Int32)} {v w : Int32} (f : Nat) (H : v_W S j k s z t u) (hf : v_pl f = true) (hi : i < v_s f) (hv : v = w) : v_W S j k s z (u2 t f (v_s f * j + i) v) (u2 u f (v_s f * k + i) w) :=
  ⟨v_E_u H.1 hv, v_R_u H.2.1 hf hi, v_R_u H.2.2 hf hi⟩
theorem v_W_1 {S j k : Nat} {s z t u : (Nat → Nat → Int32)} {v w : Int32} (f : Nat) (H : v_W S j k s z t u) (hf : v_pl f = true) (h1 : v_s f = 1) (hv : v = w) : v_W S j k s z (u2 t f j v) (u2 u f k w) := by
  have := v_W_u (i := 0) f H hf (by omega) hv
  rwa [h1, Nat.one_mul, Nat.one_mul, Nat.add_zero, Nat.add_zero] at this
theorem v_W_x {S j k i : Nat} {s z t u : (Nat → Nat → Int32)} {v w : Int32} (H : v_W S j k s z t u) (hi : i < 32) (hv : v = w) : v_W S j k s z (u2 t 16 (32 * j + i) v) (u2 u 16 (32 * k + i) w) := v_W_u 16 H rfl hi hv
theorem v_W_c {S j k i : Nat} {s z t u : (Nat → Nat → Int32)} {v w : Int32} (H : v_W S j k s z t u) (hi : i < 7) (hv : v = w) : v_W S j k s z (u2 t 18 (7 * j + i) v) (u2 u 18 (7 * k + i) w) := v_W_u 18 H rfl hi hv
theorem v_g1 {S j k : Nat} {s t : (Nat → Nat → Int32)} (f : Nat) (H : v_E S j k s t) (h : (decide (15 ≤ f ∧ f ≤ 37 ∧ f ≠ 19 ∧ f ≠ 20 ∧ v_s f = 1)) = true) : s f j = t f k := by
  have h := of_decide_eq_true h
  have := H f 0 h.1 h.2.1 h.2.2.1 h.2.2.2.1 (by omega) (by intro e; subst e; exact absurd h.2.2.2.2 (by decide))
  rwa [h.2.2.2.2, Nat.one_mul, Nat.one_mul, Nat.add_zero, Nat.add_zero] at this
theorem v_gx {S j k i : Nat} {s t : (Nat → Nat → Int32)} (H : v_E S j k s t) (h : i < 32) : s 16 (32 * j + i) = t 16 (32 * k + i) := H 16 i (by decide) (by decide) (by decide) (by decide) h (by intro e; cases e)
theorem v_gc {S j k i : Nat} {s t : (Nat → Nat → Int32)} (H : v_E S j k s t) (h : i < 7) : s 18 (7 * j + i) = t 18 (7 * k + i) := H 18 i (by decide) (by decide) (by decide) (by decide) h (by intro e; cases e)
theorem v_gm {S j k i : Nat} {s t : (Nat → Nat → Int32)} (H : v_E S j k s t) (hS : S ≤ 4096) (h : i < S) : s 15 (4096 * j + i) = t 15 (4096 * k + i) := H 15 i (by decide) (by decide) (by decide) (by decide) (Nat.lt_of_lt_of_le h hS) (fun _ => h)
theorem v_gb {S j k i : Nat} {s t : (Nat → Nat → Int32)} (H : v_E S j k s t) (h : i < 64) : s 31 (64 * j + i) = t 31 (64 * k + i) := H 31 i (by decide) (by decide) (by decide) (by decide) h (by intro e; cases e)
theorem v_gk {S j k i : Nat} {s t : (Nat → Nat → Int32)} (H : v_E S j k s t) (h : i < 16) : s 32 (16 * j + i) = t 32 (16 * k + i) := H 32 i (by decide) (by decide) (by decide) (by decide) h (by intro e; cases e)
theorem v_gz {S j k i : Nat} {s t : (Nat → Nat → Int32)} (H : v_E S j k s t) (h : i < 4) : s 34 (4 * j + i) = t 34 (4 * k + i) := H 34 i (by decide) (by decide) (by decide) (by decide) h (by intro e; cases e)
theorem v_gp {S j k i : Nat} {s t : (Nat → Nat → Int32)} (H : v_E S j k s t) (h : i < 128) : s 36 (128 * j + i) = t 36 (128 * k + i) := H 36 i (by decide) (by decide) (by decide) (by decide) h (by intro e; cases e)
theorem v_g4 {S j k : Nat} {s z t u : (Nat → Nat → Int32)} (H : v_W S j k s z t u) : t 4 0 = u 4 0 := H.2.1.2.2.1.1.trans H.2.2.2.2.1.1.symm
