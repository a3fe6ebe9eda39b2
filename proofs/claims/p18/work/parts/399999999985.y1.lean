def EV (s : (Nat → Nat → Int32)) (T : (Nat → Nat → Int64)) (e : Nat) (d : ED) : Prop := ER s T e d ∧ e < cl (s 44 0) ∧ cl (s 48 e) + cl (s 47 e) ≤ cl (s 50 0) ∧ (cl (s 45 e) = 0 → 1 ≤ cl (s 47 e)) ∧ nb (s 45 e) 4
theorem EV_ag {s s' : (Nat → Nat → Int32)} {T T' : (Nat → Nat → Int64)} {e : Nat} {d : ED} (A : AgE s s' T T') (H : EV s T e d) : EV s' T' e d := by
  obtain ⟨⟨a1, a2, a3, a4, a5, a6, a7⟩, he, hd, h0, h5⟩ := H
  obtain ⟨b1, b2, b3, b4⟩ := A
  have e45 := (b3 e he).1 45 (by omega) (by omega)
  have e46 := (b3 e he).1 46 (by omega) (by omega)
  have e47 := (b3 e he).1 47 (by omega) (by omega)
  have e48 := (b3 e he).1 48 (by omega) (by omega)
  have e49 := (b3 e he).2
  unfold EV ER
  rw [e45, e46, e47, e48, e49]
  refine ⟨⟨a1, fun q => ?_, fun q => ⟨(a3 q).1, ?_⟩, fun q => ⟨fun q2 => ?_, (a4 q).2⟩, a5, a6, a7⟩, by omega, by omega, h0, h5⟩
  · rw [b4 _ (by have := h0 q; omega)]; exact a2 q
  · obtain ⟨f, f1, f2⟩ := (a3 q).2
    exact ⟨f, f1, fun i hi => by rw [b4 _ (by omega)]; exact f2 i hi⟩
  · obtain ⟨f, f1, f2⟩ := (a4 q).1 q2
    exact ⟨f, f1, fun i hi => by rw [b4 _ (by omega)]; exact f2 i hi⟩
def RA (pg j : Nat) (s u : (Nat → Nat → Int32)) : Prop := w_E (256 * pg) j s u ∧ w_K j s u ∧ w_P j s u ∧ w_A j s ∧ w_D pg j s u
def gst (s : (Nat → Nat → Int32)) (j : Nat) : Prop := s 7 j = 1 ∨ s 7 j = 2 ∨ s 7 j = 3
def KE (s u : (Nat → Nat → Int32)) (j i : Nat) : Prop := u 117 (k_sl u j i) = s 39 (128 * j + i) + 1 ∧ (s 39 (128 * j + i) = 2 → ∀ x, x < 64 → s 43 (64 * (128 * j + i) + x) = s 31 (64 * j + x))
def RF1 (s u : (Nat → Nat → Int32)) (j : Nat) : Prop := (s 7 j = 1 → u 115 j = s 11 j ∧ u 116 j = s 12 j ∧ u 121 j = 0 ∧ (s 11 j = 0 → u 114 j = 0 ∧ u 113 j = 0) ∧ (¬ s 11 j = 0 → u 113 j = s 9 j ∧ u 114 j = s 55 j)) ∧ (¬ s 7 j = 1 → u 114 j = 0 ∧ u 115 j = 0 ∧ u 116 j = 0) ∧ (s 7 j = 2 ∨ s 7 j = 3 → u 113 j = s 9 j ∧ u 121 j = nI (cl (s 59 j) - cl (s 58 j))) ∧ (¬ gst s j → u 113 j = 0 ∧ u 121 j = 0)
def RF2 (s : (Nat → Nat → Int32)) (T : (Nat → Nat → Int64)) (u : (Nat → Nat → Int32)) (ρ : Nat → Nat → Option Nat) (ε : Nat → ED) (j : Nat) : Prop := s 7 j = 2 ∨ s 7 j = 3 → ∀ i, i < cl (s 59 j) - cl (s 58 j) → ∃ a, ρ j (k_wr 512 (cl (u 120 j) + i)) = some a ∧ EV s T (cl (s 57 (4200 * j + (cl (s 58 j) + i)))) (ε a)
def RF3 (s u : (Nat → Nat → Int32)) (j : Nat) : Prop := (gst s j → u 38 j = s 38 j ∧ ∀ i, i < cl (s 38 j) → KE s u j i) ∧ (¬ gst s j → u 38 j = 0)
def RTt (z : CZ) (y : RZ) (j : Nat) : Prop := z.1 37 j = y.1 37 j ∧ z.2.1 19 j = y.2 19 j ∧ z.1 7 j = y.1 7 j ∧ z.1 10 j = y.1 10 j ∧ z.1 111 j = nI j ∧ RF1 y.1 z.1 j ∧ RF2 y.1 y.2 z.1 z.2.2.1 z.2.2.2 j ∧ RF3 y.1 z.1 j
def RH (pg : Nat) (z : CZ) (y : RZ) (j : Nat) : Prop := RA pg j y.1 z.1 ∧ RTt z y j
def RG (pg rm : Nat) (z : CZ) (y : RZ) : Prop := z.1 5 0 = y.1 5 0 ∧ (∀ i, i < 256 * pg → z.1 6 i = y.1 6 i) ∧ z.1 13 0 = y.1 13 0 ∧ z.1 14 0 = y.1 14 0 ∧ z.1 62 0 = y.1 62 0 ∧ (∀ i, i < 512 → z.1 64 i = y.1 64 i) ∧ z.1 2 0 = nI pg ∧ z.1 3 0 = nI rm
def CHp (n rm : Nat) (s : (Nat → Nat → Int32)) (T : (Nat → Nat → Int64)) (u : (Nat → Nat → Int32)) (ρ : Nat → Nat → Option Nat) (ε : Nat → ED) (l : Nat) : Prop := u 122 0 = nI l ∧ u 123 0 = s 8 l ∧ u 133 0 = s 53 l ∧ u 135 0 = s 56 l ∧ (∀ i, i < cl (s 53 l) → ∃ a, ρ 4 (k_wr rm (cl (u 132 0) + i)) = some a ∧ EV s T (cl (s 52 (64 * l + i))) (ε a)) ∧ (∀ i, i < cl (s 56 l) → ∃ a, ρ 5 (k_wr rm (cl (u 134 0) + i)) = some a ∧ EV s T (cl (s 54 (64 * l + i))) (ε a)) ∧ (∀ i, i < cl (s 53 l) → s 54 (64 * l + (cl (s 56 l) + i)) = s 52 (64 * l + i))
def RP (n rm : Nat) (z : CZ) (y : RZ) : Prop := ((∀ l, l < 4 → ¬ LKl y.1 l) ∧ z.1 122 0 = -1 ∧ z.1 123 0 = -1 ∧ z.1 133 0 = 0 ∧ z.1 135 0 = 0) ∨ ∃ l, l < n ∧ LKl y.1 l ∧ CHp n rm y.1 y.2 z.1 z.2.2.1 z.2.2.2 l
def RDo (s u : (Nat → Nat → Int32)) (i : Nat) : Prop := u 126 ((cl (u 124 0) + i) % 128) = s 69 (cl (s 65 0) + i) ∧ u 127 ((cl (u 124 0) + i) % 128) = s 70 (cl (s 65 0) + i) ∧ u 129 ((cl (u 124 0) + i) % 128) = s 67 (cl (s 65 0) + i) ∧ u 130 ((cl (u 124 0) + i) % 128) = s 68 (cl (s 65 0) + i) ∧ ∀ x, x < 64 → u 131 (64 * ((cl (u 124 0) + i) % 128) + x) = s 71 (64 * (cl (s 65 0) + i) + x)
def RD (z : CZ) (y : RZ) : Prop := z.1 125 0 = nI (cl (y.1 66 0) - cl (y.1 65 0)) ∧ ∀ i, i < cl (y.1 66 0) - cl (y.1 65 0) → RDo y.1 z.1 i
def pgc (s : (Nat → Nat → Int32)) : Nat → Nat
  | 0 => 0
  | i + 1 => pgc s i + (if s 63 i = 0 then 1 else 0)
def TK (pg c : Nat) (s : (Nat → Nat → Int32)) : Prop := ∃ (t : Nat → Nat) (P : Nat), (∀ h, h < 4 → gst s h → NW h s → 1 ≤ t h) ∧ cl (s 66 0) - cl (s 65 0) + (t 0 + t 1 + t 2 + t 3) ≤ P + (if s 5 0 = 0 then 0 else 1) ∧ 6 * P + (if s 60 0 = -1 then 0 else 1 + pgc s pg) ≤ c
def CM (n : Nat) (s : (Nat → Nat → Int32)) : Prop := (∀ j, j < n → s 27 j = 1 → s 28 j = 1 ∨ s 28 j = 2) ∧ ∀ o, cl (s 65 0) ≤ o → o < cl (s 66 0) → s 69 o = 1 ∨ s 69 o = 2
theorem CM_27 {n : Nat} {s s' : (Nat → Nat → Int32)} (H : CM n s) (e : ∀ f, f = 28 ∨ f = 65 ∨ f = 66 ∨ f = 69 → s' f = s f) (e27 : ∀ j, s' 27 j = s 27 j ∨ s' 27 j = 2) : CM n s' := by
  unfold CM
  rw [e 28 (by omega), e 65 (by omega), e 66 (by omega), e 69 (by omega)]
  refine ⟨fun j hj q => ?_, H.2⟩
  rcases e27 j with w | w
  · rw [w] at q; exact H.1 j hj q
  · rw [w] at q; exact absurd q (by decide)
theorem CM_nf {n : Nat} {s s' : (Nat → Nat → Int32)} (H : CM n s) (e : ∀ f, f = 27 ∨ f = 28 ∨ f = 65 ∨ f = 66 ∨ f = 69 → s' f = s f) : CM n s' := CM_27 H (fun f hf => e f (by omega)) (fun j => Or.inl (by rw [e 27 (by omega)]))
def RR (n pg rm c : Nat) (z : CZ) (y : RZ) : Prop := RG pg rm z y ∧ (∀ j, j < n → RH pg z y j) ∧ RP n rm z y ∧ RD z y ∧ EX n c y.1 ∧ TK pg c y.1 ∧ CM n y.1
