def h_s (f : Nat) : Nat := if f = 52 ∨ f = 54 then 64 else if f = 57 then 4200 else v_s f
def h_f (f : Nat) : Bool := decide ((7 ≤ f ∧ f ≤ 12) ∨ (15 ≤ f ∧ f ≤ 42 ∧ f ≠ 19) ∨ (52 ≤ f ∧ f ≤ 59))
def Sm (h : Nat) (σ ς : (Nat → Nat → Int32)) (τ υ : (Nat → Nat → Int64)) : Prop := (∀ f i, h_f f = true → i < h_s f → ς f (h_s f * h + i) = σ f (h_s f * h + i)) ∧ υ 19 h = τ 19 h
theorem Sm.f1 {h : Nat} {σ ς : (Nat → Nat → Int32)} {τ υ : (Nat → Nat → Int64)} (H : Sm h σ ς τ υ) (f : Nat) (hf : (h_f f && decide (h_s f = 1)) = true) : ς f h = σ f h := by
  rw [Bool.and_eq_true] at hf
  have e := of_decide_eq_true hf.2
  have := H.1 f 0 hf.1 (by omega)
  rwa [e, Nat.one_mul, Nat.add_zero] at this
theorem Sm.E {S h : Nat} {σ ς : (Nat → Nat → Int32)} {τ υ : (Nat → Nat → Int64)} (H : Sm h σ ς τ υ) : v_E S h h ς σ := by
  intro f i h1 h2 h3 h4 h5 h6
  have e : h_s f = v_s f := by unfold h_s; rw [if_neg (by omega), if_neg (by omega)]
  have := H.1 f i (by unfold h_f; exact decide_eq_true (.inr (.inl ⟨h1, by omega, h3⟩))) (by rw [e]; exact h5)
  rwa [e] at this
theorem Sm.cv {S h : Nat} {σ ς : (Nat → Nat → Int32)} {τ υ : (Nat → Nat → Int64)} (H : Sm h σ ς τ υ) : cv S h ς = cv S h σ := cv_eq H.E
theorem Sm.k {h f i : Nat} {σ ς : (Nat → Nat → Int32)} {τ υ : (Nat → Nat → Int64)} (H : Sm h σ ς τ υ) (hf : (decide (39 ≤ f ∧ f ≤ 42)) = true) (hi : i < 128) : ς f (128 * h + i) = σ f (128 * h + i) := by
  have hf := of_decide_eq_true hf
  have e : h_s f = 128 := by
    have : f = 39 ∨ f = 40 ∨ f = 41 ∨ f = 42 := by omega
    rcases this with e | e | e | e <;> (subst e; rfl)
  have := H.1 f i (by unfold h_f; exact decide_eq_true (.inr (.inl ⟨by omega, by omega, by omega⟩))) (by omega)
  rwa [e] at this
theorem Sm.ch {h i : Nat} {σ ς : (Nat → Nat → Int32)} {τ υ : (Nat → Nat → Int64)} (H : Sm h σ ς τ υ) (hi : i < 64) : ς 52 (64 * h + i) = σ 52 (64 * h + i) := H.1 52 i rfl hi
theorem Sm.un {h i : Nat} {σ ς : (Nat → Nat → Int32)} {τ υ : (Nat → Nat → Int64)} (H : Sm h σ ς τ υ) (hi : i < 64) : ς 54 (64 * h + i) = σ 54 (64 * h + i) := H.1 54 i rfl hi
theorem Sm.cm {h i : Nat} {σ ς : (Nat → Nat → Int32)} {τ υ : (Nat → Nat → Int64)} (H : Sm h σ ς τ υ) (hi : i < 4200) : ς 57 (4200 * h + i) = σ 57 (4200 * h + i) := H.1 57 i rfl hi
theorem Sm.rf {h : Nat} {σ : (Nat → Nat → Int32)} {τ : (Nat → Nat → Int64)} : Sm h σ σ τ τ := ⟨fun _ _ _ _ => rfl, rfl⟩
theorem Sm.tr {h : Nat} {σ ς ξ : (Nat → Nat → Int32)} {τ υ ω : (Nat → Nat → Int64)} (H : Sm h σ ς τ υ) (K : Sm h ς ξ υ ω) : Sm h σ ξ τ ω := ⟨fun f i a b => (K.1 f i a b).trans (H.1 f i a b), K.2.trans H.2⟩
def mc (τ : (Nat → Nat → Int64)) (h : Nat) : Nat := (τ 19 h).toInt.toNat
def hv (S : Nat) (l : Nat → Nat) (σ : (Nat → Nat → Int32)) (τ : (Nat → Nat → Int64)) (h : Nat) : VW := (cv S h σ, mc τ h, l h)
def KI (σ : (Nat → Nat → Int32)) (l : Nat → Nat) (h : Nat) : Prop := ∀ i, i < cl (σ 38 h) → σ 42 (128 * h + i) = nI (cl (σ 37 h) - cl (σ 38 h) + 1 + i) ∧ (σ 39 (128 * h + i) = 0 ∨ σ 39 (128 * h + i) = 1 ∨ σ 39 (128 * h + i) = 2) ∧ (σ 39 (128 * h + i) = 1 → ∃ n, n ≤ 32 ∧ σ 40 (128 * h + i) = nI n) ∧ (σ 39 (128 * h + i) = 2 → σ 27 h = 1 ∧ σ 40 (128 * h + i) = σ 28 h ∧ σ 41 (128 * h + i) = σ 29 h ∧ l h = cl (σ 37 h) - cl (σ 38 h) + 1 + i)
def HI (S M : Nat) (l : Nat → Nat) (σ : (Nat → Nat → Int32)) (τ : (Nat → Nat → Int64)) (h : Nat) : Prop := v_B S h σ ∧ τ 19 h = Int64.ofNat (mc τ h) ∧ mc τ h ≤ M ∧ nb (σ 37 h) (mc τ h) ∧ l h ≤ cl (σ 37 h) ∧ nb (σ 38 h) (cl (σ 37 h)) ∧ nb (σ 38 h) 100 ∧ KI σ l h
theorem KI_sm {h : Nat} {l k : Nat → Nat} {σ ς : (Nat → Nat → Int32)} {τ υ : (Nat → Nat → Int64)} (H : KI σ l h) (s : Sm h σ ς τ υ) (hl : k h = l h) (h1 : cl (σ 38 h) ≤ 128) : KI ς k h := by
  intro i hi
  rw [s.f1 38 rfl] at hi
  have hi' : i < 128 := by omega
  have := H i hi
  rw [s.k rfl hi', s.k rfl hi', s.k rfl hi', s.k rfl hi', s.f1 38 rfl, s.f1 37 rfl, s.f1 27 rfl, s.f1 28 rfl, s.f1 29 rfl, hl]
  exact this
def BYa (σ : (Nat → Nat → Int32)) : Prop := ∀ f i, f = 15 ∨ f = 31 ∨ f = 36 → byt (σ f i)
theorem v_B_sm {S h : Nat} {σ ς : (Nat → Nat → Int32)} {τ υ : (Nat → Nat → Int64)} (H : v_B S h σ) (s : Sm h σ ς τ υ) (h4 : ς 4 0 = σ 4 0) (hb : BYa ς) : v_B S h ς := by
  obtain ⟨b1, b2, b3, b4, b5, b6, b7, b9, b8⟩ := H
  refine ⟨h4.trans b1, b2, b3, by rw [s.f1 33 rfl]; exact b4, by rw [s.f1 35 rfl]; exact b5, ?_, by rw [s.f1 30 rfl]; exact b7, by rw [s.f1 29 rfl]; exact b9, hb⟩
  intro i hi
  have := s.1 34 i rfl hi
  rw [show h_s 34 = 4 from rfl] at this
  rw [this]; exact b6 i hi
theorem HI_sm {S M N h : Nat} {l k : Nat → Nat} {σ ς : (Nat → Nat → Int32)} {τ υ : (Nat → Nat → Int64)} (H : HI S M l σ τ h) (s : Sm h σ ς τ υ) (h4 : ς 4 0 = σ 4 0) (hb : BYa ς) (hl : k h = l h) (hM : M ≤ N) : HI S N k ς υ h := by
  obtain ⟨a1, a2, a3, a4, a5, a6, a7, a8⟩ := H
  have em : mc υ h = mc τ h := by unfold mc; rw [s.2]
  refine ⟨v_B_sm a1 s h4 hb, ?_, ?_, ?_, ?_, ?_, ?_, KI_sm a8 s hl (by have := a7.2; omega)⟩
  · rw [em, s.2]; exact a2
  · rw [em]; omega
  · rw [em, s.f1 37 rfl]; exact a4
  · rw [hl, s.f1 37 rfl]; exact a5
  · rw [s.f1 38 rfl, s.f1 37 rfl]; exact a6
  · rw [s.f1 38 rfl]; exact a7
def cnt (σ : (Nat → Nat → Int32)) (h : Nat) : Nat → Nat
  | 0 => 0
  | i + 1 => cnt σ h i + (if σ 45 (cl (σ 54 (64 * h + i))) = 4 then 1 else 0)
def CI (rm : Nat) (σ : (Nat → Nat → Int32)) (h : Nat) : Prop := nb (σ 53 h) (cl (σ 55 h)) ∧ nb (σ 55 h) rm ∧ nb (σ 56 h) (cl (σ 55 h)) ∧ (∀ i, i < cl (σ 53 h) → nb (σ 52 (64 * h + i)) 23999) ∧ (∀ i, i < cl (σ 55 h) → nb (σ 54 (64 * h + i)) 23999 ∧ cl (σ 54 (64 * h + i)) < cl (σ 44 0)) ∧ (σ 12 h = 0 → cl (σ 56 h) + cl (σ 53 h) = cl (σ 55 h) ∧ cnt σ h (cl (σ 55 h)) = cl (σ 38 h)) ∧ (¬ σ 12 h = 0 → σ 56 h = 0 ∧ cl (σ 38 h) ≤ 32 + cl (σ 55 h))
theorem cnt_le {σ : (Nat → Nat → Int32)} {h : Nat} : ∀ i, cnt σ h i ≤ i
  | 0 => Nat.le_refl _
  | i + 1 => by have := cnt_le (σ := σ) (h := h) i; rw [cnt]; split <;> omega
theorem cnt_eq {σ ς : (Nat → Nat → Int32)} {h k : Nat} : ∀ i, (∀ x, x < i → ς 45 (cl (ς 54 (64 * k + x))) = σ 45 (cl (σ 54 (64 * h + x)))) → cnt ς k i = cnt σ h i
  | 0, _ => rfl
  | i + 1, H => by rw [cnt, cnt, cnt_eq i (fun x hx => H x (by omega)), H i (by omega)]
theorem CI_sm {rm h : Nat} {σ ς : (Nat → Nat → Int32)} {τ υ : (Nat → Nat → Int64)} (H : CI rm σ h) (s : Sm h σ ς τ υ) (ag : AgE σ ς τ υ) (hr : rm ≤ 32) : CI rm ς h := by
  obtain ⟨c1, c2, c3, c4, c5, c6, c7⟩ := H
  have hU : cl (σ 55 h) ≤ 32 := by have := c2.2; omega
  have hC : cl (σ 53 h) ≤ 32 := by have := c1.2; omega
  unfold CI
  rw [s.f1 53 rfl, s.f1 55 rfl, s.f1 56 rfl, s.f1 12 rfl, s.f1 38 rfl]
  refine ⟨c1, c2, c3, ?_, ?_, ?_, c7⟩
  · intro i hi; rw [s.ch (by omega)]; exact c4 i hi
  · intro i hi; rw [s.un (by omega)]; exact ⟨(c5 i hi).1, Nat.lt_of_lt_of_le (c5 i hi).2 ag.1⟩
  · intro e
    refine ⟨(c6 e).1, ?_⟩
    rw [← (c6 e).2]
    apply cnt_eq
    intro x hx
    rw [s.un (by omega), (ag.2.2.1 _ (c5 x hx).2).1 45 (by decide) (by decide)]
def chL (σ : (Nat → Nat → Int32)) (l : Nat) : List Nat := (List.range (cl (σ 53 l))).map (fun i => cl (σ 52 (64 * l + i)))
def cmL (σ : (Nat → Nat → Int32)) (b : Nat) : List Nat := (List.range (cl (σ 59 b) - cl (σ 58 b))).map (fun i => cl (σ 57 (4200 * b + (cl (σ 58 b) + i))))
theorem map_eq {f g : Nat → Nat} {n : Nat} (h : ∀ i, i < n → f i = g i) : (List.range n).map f = (List.range n).map g := by
  apply List.map_congr_left
  intro a ha
  exact h a (List.mem_range.mp ha)
theorem chL_sm {l : Nat} {σ ς : (Nat → Nat → Int32)} {τ υ : (Nat → Nat → Int64)} (s : Sm l σ ς τ υ) (h : cl (σ 53 l) ≤ 64) : chL ς l = chL σ l := by
  unfold chL
  rw [s.f1 53 rfl]
  exact map_eq fun i hi => by rw [s.ch (by omega)]
theorem cmL_sm {b : Nat} {σ ς : (Nat → Nat → Int32)} {τ υ : (Nat → Nat → Int64)} (s : Sm b σ ς τ υ) (h : cl (σ 59 b) ≤ 4200) : cmL ς b = cmL σ b := by
  unfold cmL
  rw [s.f1 59 rfl, s.f1 58 rfl]
  exact map_eq fun i hi => by rw [s.cm (by omega)]
def BI (S M c : Nat) (l : Nat → Nat) (σ : (Nat → Nat → Int32)) (τ : (Nat → Nat → Int64)) (b : Nat) : Prop := nb (σ 58 b) c ∧ nb (σ 59 b) c ∧ cl (σ 58 b) ≤ cl (σ 59 b) ∧ (∀ i, cl (σ 58 b) ≤ i → i < cl (σ 59 b) → nb (σ 57 (4200 * b + i)) 23999) ∧ (σ 7 b = 3 → cl (σ 58 b) < cl (σ 59 b)) ∧
  ∃ X W kb, kb ≤ 1 ∧ cl (σ 38 b) + kb ≤ 33 ∧ Ch S σ τ M (cmL σ b ++ X) kb (hv S l σ τ b) W ∧ ∀ j, j < 4 → isLO σ b j → X = chL σ j ∧ W = hv S l σ τ j
def CB (c : Nat) (σ : (Nat → Nat → Int32)) (h : Nat) : Prop := nb (σ 58 h) c ∧ nb (σ 59 h) c ∧ cl (σ 58 h) ≤ cl (σ 59 h) ∧ ∀ i, cl (σ 58 h) ≤ i → i < cl (σ 59 h) → nb (σ 57 (4200 * h + i)) 23999
theorem CB_sm {c d h : Nat} {σ ς : (Nat → Nat → Int32)} {τ υ : (Nat → Nat → Int64)} (H : CB c σ h) (s : Sm h σ ς τ υ) (hc : c ≤ d) (hd : c ≤ 4200) : CB d ς h := by
  obtain ⟨b1, b2, b3, b4⟩ := H
  have := b2.2
  unfold CB
  rw [s.f1 58 rfl, s.f1 59 rfl]
  exact ⟨nb_mono b1 hc, nb_mono b2 hc, b3, fun i x y => by rw [s.cm (by omega)]; exact b4 i x y⟩
theorem CB_nf {c h : Nat} {σ ς : (Nat → Nat → Int32)} (H : CB c σ h) (e : ∀ f, 57 ≤ f → f ≤ 59 → ς f = σ f) : CB c ς h := by
  unfold CB
  rw [e 57 (by decide) (by decide), e 58 (by decide) (by decide), e 59 (by decide) (by decide)]; exact H
def HH (S rm M c : Nat) (l : Nat → Nat) (σ : (Nat → Nat → Int32)) (τ : (Nat → Nat → Int64)) (h : Nat) : Prop := HI S M l σ τ h ∧ (¬ σ 11 h = 0 → CI rm σ h) ∧ (σ 7 h = 1 → σ 11 h = 0 → σ 38 h = 0) ∧ (σ 7 h = 2 ∨ σ 7 h = 3 → σ 11 h = 0 ∧ BI S M c l σ τ h) ∧ nb (σ 10 h) c ∧ CB c σ h ∧ (σ 7 h = 0 ∨ σ 7 h = 4 → σ 11 h = 0)
theorem hv_sm {S h : Nat} {l k : Nat → Nat} {σ ς : (Nat → Nat → Int32)} {τ υ : (Nat → Nat → Int64)} (s : Sm h σ ς τ υ) (hl : k h = l h) : hv S k ς υ h = hv S l σ τ h := by
  unfold hv mc; rw [s.cv, s.2, hl]
theorem HI_vok {S M h : Nat} {l : Nat → Nat} {σ : (Nat → Nat → Int32)} {τ : (Nat → Nat → Int64)} (H : HI S M l σ τ h) : vok S (hv S l σ τ h) := by
  obtain ⟨a1, a2, a3, a4, a5, a6, a7, a8⟩ := H
  have e : (hv S l σ τ h).1 37 0 = σ 37 h := cv_1 (S := S) (f := 37) rfl
  refine ⟨cv_B a1, cv_38 (S := S) (j := h) (σ := σ), by rw [e]; exact a4, ?_⟩
  unfold ou; rw [e]; exact a5
theorem HH_sm {S rm M N c d h : Nat} {l k : Nat → Nat} {σ ς : (Nat → Nat → Int32)} {τ υ : (Nat → Nat → Int64)} (H : HH S rm M c l σ τ h) (s : Sm h σ ς τ υ) (ag : AgE σ ς τ υ) (h4 : ς 4 0 = σ 4 0) (hb : BYa ς) (hl : k h = l h) (hM : M ≤ N) (hN : N < 2147483000) (hc : c ≤ d) (hd : d ≤ 4200) (hr : rm ≤ 32)
    (at' : σ 7 h = 2 ∨ σ 7 h = 3 → ∀ X W kb, Ch S ς υ N (cmL σ h ++ X) kb (hv S l σ τ h) W → (∀ j, j < 4 → isLO σ h j → X = chL σ j ∧ W = hv S l σ τ j) → ∃ X' W', Ch S ς υ N (cmL σ h ++ X') kb (hv S l σ τ h) W' ∧ ∀ j, j < 4 → isLO ς h j → X' = chL ς j ∧ W' = hv S k ς υ j) : HH S rm N d k ς υ h := by
  obtain ⟨a1, a2, a3, a4, a5, a6, a7⟩ := H
  refine ⟨HI_sm a1 s h4 hb hl hM, ?_, ?_, ?_, ?_, CB_sm a6 s hc (by omega), by rw [s.f1 7 rfl, s.f1 11 rfl]; exact a7⟩
  · rw [s.f1 11 rfl]; exact fun e => CI_sm (a2 e) s ag hr
  · rw [s.f1 7 rfl, s.f1 11 rfl, s.f1 38 rfl]; exact a3
  · rw [s.f1 7 rfl, s.f1 11 rfl]
    intro e
    obtain ⟨e1, b1, b2, b3, b4, b5, X, W, kb, b6, b7, b8, b9⟩ := a4 e
    refine ⟨e1, ?_⟩
    have h59 : cl (σ 59 h) ≤ 4200 := by have := b2.2; omega
    unfold BI
    rw [s.f1 58 rfl, s.f1 59 rfl, s.f1 7 rfl, s.f1 38 rfl, cmL_sm s h59, hv_sm s hl]
    refine ⟨nb_mono b1 hc, nb_mono b2 hc, b3, ?_, b5, ?_⟩
    · intro i h1 h2; rw [s.cm (by omega)]; exact b4 i h1 h2
    · obtain ⟨X', W', x1, x2⟩ := at' e X W kb (ch_ag ag hN (HI_vok a1) (ch_mono hM b8)) b9
      exact ⟨X', W', kb, b6, b7, x1, x2⟩
  · rw [s.f1 10 rfl]; exact nb_mono a5 hc
theorem AgE.rf {D : (Nat → Nat → Int32)} {T : (Nat → Nat → Int64)} : AgE D D T T := ⟨Nat.le_refl _, Nat.le_refl _, fun _ _ => ⟨fun _ _ _ => rfl, rfl⟩, fun _ _ => rfl⟩
theorem isLO_sm {b j : Nat} {σ ς : (Nat → Nat → Int32)} (e : ∀ f, f = 8 ∨ f = 9 → ς f b = σ f b) (e2 : ∀ f, 8 ≤ f → f ≤ 12 → ς f j = σ f j) (H : isLO ς b j) : isLO σ b j := by
  unfold isLO at *
  rw [e 8 (.inl rfl), e 9 (.inr rfl), e2 11 (by decide) (by decide), e2 12 (by decide) (by decide), e2 8 (by decide) (by decide), e2 9 (by decide) (by decide)] at H
  exact H
theorem ou_hv {S h : Nat} {l : Nat → Nat} {σ : (Nat → Nat → Int32)} {τ : (Nat → Nat → Int64)} : ou (hv S l σ τ h) = cl (σ 37 h) := by
  show cl (cv S h σ 37 0) = _
  rw [cv_1 (f := 37) rfl]
