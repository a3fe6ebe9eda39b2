theorem v_sp {f : Nat} : 1 ≤ v_s f := by
  unfold v_s
  repeat' split
  all_goals omega
theorem sl_ne {s h j i : Nat} (hi : i < s) (h1 : s * j ≤ s * h + i) (h2 : s * h + i < s * j + s) : h = j := by
  rcases Nat.lt_trichotomy h j with e | e | e
  · have := Nat.mul_le_mul_left s (show h + 1 ≤ j from e)
    rw [Nat.mul_succ] at this; omega
  · exact e
  · have := Nat.mul_le_mul_left s (show j + 1 ≤ h from e)
    rw [Nat.mul_succ] at this; omega
theorem F_o {j f i : Nat} {σ ς : (Nat → Nat → Int32)} (H : v_F j σ ς) (h : f < 15 ∨ 43 < f) (h63 : f ≠ 63) (h74 : f ≠ 74) : ς f i = σ f i := by
  rcases H f i with e | e | e | e
  · exact e
  · exact absurd e h74
  · have := e.1; have := e.2.1; omega
  · exact absurd e.1 h63
theorem F_63 {j i : Nat} {σ ς : (Nat → Nat → Int32)} (H : v_F j σ ς) (h : ¬ nI j = σ 61 0) : ς 63 i = σ 63 i := by
  rcases H 63 i with e | e | e | e
  · exact e
  · omega
  · have := e.2.1; omega
  · exact absurd e.2.1 h
theorem F_h {j h f i : Nat} {σ ς : (Nat → Nat → Int32)} (H : v_F j σ ς) (hj : h ≠ j) (hf : f ≠ 63) (h74 : f ≠ 74) (hi : i < v_s f) : ς f (v_s f * h + i) = σ f (v_s f * h + i) := by
  rcases H f (v_s f * h + i) with e | e | e | e
  · exact e
  · exact absurd e h74
  · exact absurd (sl_ne hi e.2.2.2.1 e.2.2.2.2) hj
  · exact absurd e.1 hf
theorem sm_F {j h : Nat} {σ ς : (Nat → Nat → Int32)} {τ υ : (Nat → Nat → Int64)} (H : v_F j σ ς) (hj : h ≠ j) (ht : υ 19 h = τ 19 h) : Sm h σ ς τ υ := by
  refine ⟨?_, ht⟩
  intro f i hf hi
  unfold h_f at hf
  have hf := of_decide_eq_true hf
  by_cases e : 15 ≤ f ∧ f ≤ 42
  · have es : h_s f = v_s f := by unfold h_s; rw [if_neg (by omega), if_neg (by omega)]
    rw [es] at hi ⊢
    exact F_h H hj (by omega) (by omega) hi
  · exact F_o H (by omega) (by omega) (by omega)
theorem sm_ne {h : Nat} {σ ς : (Nat → Nat → Int32)} {τ υ : (Nat → Nat → Int64)} (H : ∀ f, h_f f = true → ς f = σ f) (ht : υ 19 h = τ 19 h) : Sm h σ ς τ υ := ⟨fun f i a _ => by rw [H f a], ht⟩
theorem AgE_ne {σ ς : (Nat → Nat → Int32)} {τ υ : (Nat → Nat → Int64)} (H : ∀ f, 44 ≤ f → f ≤ 51 → ς f = σ f) (ht : υ 49 = τ 49) : AgE σ ς τ υ := by
  refine ⟨by rw [H 44 (by decide) (by decide)]; exact Nat.le_refl _, by rw [H 50 (by decide) (by decide)]; exact Nat.le_refl _, ?_, ?_⟩
  · intro e _; exact ⟨fun f h1 h2 => by rw [H f (by omega) (by omega)], by rw [ht]⟩
  · intro i _; rw [H 51 (by decide) (by decide)]
theorem t2_19 {τ : (Nat → Nat → Int64)} {j h : Nat} {v : Int64} (hj : h ≠ j) : t2 τ 19 j v 19 h = τ 19 h := by
  unfold t2 va_up vp_updL; rw [if_pos rfl, if_neg hj]
theorem t2_19s {τ : (Nat → Nat → Int64)} {j : Nat} {v : Int64} : t2 τ 19 j v 19 j = v := by
  unfold t2 va_up vp_updL; rw [if_pos rfl, if_pos rfl]
theorem t2_49 {τ : (Nat → Nat → Int64)} {j : Nat} {v : Int64} : t2 τ 19 j v 49 = τ 49 := by
  unfold t2 va_up; rw [if_neg (by decide)]
theorem mc_s {τ υ : (Nat → Nat → Int64)} {j : Nat} (h : τ 19 j = Int64.ofNat (mc τ j)) (hm : mc τ j < 2147483000) (hu : υ 19 j = τ 19 j + 1) : mc υ j = mc τ j + 1 ∧ υ 19 j = Int64.ofNat (mc υ j) := by
  have e : υ 19 j = Int64.ofNat (mc τ j + 1) := by rw [hu, h, Int64.ofNat_add]; congr 1
  have e2 : mc υ j = mc τ j + 1 := by
    show (υ 19 j).toInt.toNat = _
    rw [e, Int64.toInt_ofNat_of_lt (by omega)]; omega
  exact ⟨e2, by rw [e2]; exact e⟩
def l1 (l : Nat → Nat) (σ : (Nat → Nat → Int32)) (τ : (Nat → Nat → Int64)) (j : Nat) : Nat → Nat := fun h => if h = j then gl (σ 27 j) (m_stx σ τ j 27 j) (cl (m_stx σ τ j 37 j)) (l j) else l h
theorem l1_s {l : Nat → Nat} {σ : (Nat → Nat → Int32)} {τ : (Nat → Nat → Int64)} {j : Nat} : l1 l σ τ j j = gl (σ 27 j) (m_stx σ τ j 27 j) (cl (m_stx σ τ j 37 j)) (l j) := if_pos rfl
theorem l1_n {l : Nat → Nat} {σ : (Nat → Nat → Int32)} {τ : (Nat → Nat → Int64)} {j h : Nat} (e : h ≠ j) : l1 l σ τ j h = l h := if_neg e
theorem cl_inc {x : Int32} {b : Nat} (H : nb x b) (hb : b < 2147483000) : x + 1 = nI (cl x + 1) ∧ cl (x + 1) = cl x + 1 := by
  have e : x + 1 = nI (cl x + 1) := by rw [← nIv_inc, ← H.1]
  exact ⟨e, by rw [e, cl_nI (by have := H.2; omega)]⟩
theorem HI_step {S M j : Nat} {l : Nat → Nat} {σ ς : (Nat → Nat → Int32)} {τ υ : (Nat → Nat → Int64)} {o : Bool} (H : HI S M l σ τ j) (hM : M < 2147480000) (hO : v_O j o σ (m_stx σ τ j)) (hk : o = true → cl (σ 38 j) < 100) (hs : ∀ f, f = 4 ∨ (15 ≤ f ∧ f ≤ 42) → ς f = m_stx σ τ j f) (hu : υ 19 j = τ 19 j + 1) : HI S (M + 1) (l1 l σ τ j) ς υ j ∧ hv S (l1 l σ τ j) ς υ j = gs S (hv S l σ τ j) := by
  obtain ⟨a1, a2, a3, a4, a5, a6, a7, a8⟩ := H
  have h127 : nb (σ 38 j) 127 := nb_mono a7 (by omega)
  have hR := st_R (τ := τ) a1 h127
  obtain ⟨e1, e2⟩ := mc_s a2 (by omega) hu
  have h37 : cl (σ 37 j) < 2147480000 := by have := a4.2; omega
  have q37 : cl (σ 38 j) ≤ cl (σ 37 j) := a6.2
  have ecv : cv S j ς = cv S j (m_stx σ τ j) := by
    apply cv_eq; intro f i h1 h2 h3 h4 h5 h6; rw [hs f (.inr ⟨h1, by omega⟩)]
  have hB : v_B S j ς := by
    obtain ⟨b1, b2, b3, b4, b5, b6, b7, b9, b8⟩ := hR.2.2.1
    refine ⟨by rw [hs 4 (.inl rfl)]; exact b1, b2, b3, by rw [hs 33 (by omega)]; exact b4, by rw [hs 35 (by omega)]; exact b5, by rw [hs 34 (by omega)]; exact b6, by rw [hs 30 (by omega)]; exact b7, by rw [hs 29 (by omega)]; exact b9, ?_⟩
    intro f i hf
    rw [hs f (by omega)]; exact b8 f i hf
  refine ⟨⟨hB, e2, by omega, ?_⟩, ?_⟩
  · obtain ⟨o1, o2, o3⟩ := hO
    unfold KI
    rw [e1, hs 37 (by omega), hs 38 (by omega), hs 39 (by omega), hs 40 (by omega), hs 41 (by omega), hs 42 (by omega), hs 27 (by omega), hs 28 (by omega), hs 29 (by omega), l1_s]
    cases o with
    | false =>
      obtain ⟨p1, p2, p3, p4, p5⟩ := o2 rfl
      have eg : gl (σ 27 j) (m_stx σ τ j 27 j) (cl (m_stx σ τ j 37 j)) (l j) = l j := by
        unfold gl; rw [if_neg (fun h => h.1 (p5 h.2))]
      rw [eg, p1, p2]
      refine ⟨nb_mono a4 (by omega), a5, a6, a7, ?_⟩
      intro i hi
      obtain ⟨k1, k2, k3, k4⟩ := a8 i hi
      rw [p4 39 _ (by decide) (by decide), p4 40 _ (by decide) (by decide), p4 41 _ (by decide) (by decide), p4 42 _ (by decide) (by decide)]
      refine ⟨k1, k2, k3, ?_⟩
      intro e
      have := k4 e
      have w := o1 this.1
      rw [w.2.1, w.2.2]
      exact ⟨w.1, this.2⟩
    | true =>
      obtain ⟨p1, p2, p3, p4, p5, p6, p7, p8, p9⟩ := o3 rfl
      obtain ⟨c1, c2⟩ := cl_inc a4 (by omega)
      obtain ⟨d1, d2⟩ := cl_inc a7 (by omega)
      have hk := hk rfl
      rw [p1, p2, c2, d2]
      have egl : gl (σ 27 j) (m_stx σ τ j 27 j) (cl (σ 37 j) + 1) (l j) ≤ cl (σ 37 j) + 1 := by
        unfold gl; split <;> omega
      refine ⟨?_, egl, ?_, ?_, ?_⟩
      · rw [c1]; exact nb_n (by have := a4.2; omega) (by omega)
      · rw [d1]; exact nb_n (by omega) (by omega)
      · rw [d1]; exact nb_n (by omega) (by omega)
      · intro i hi
        by_cases hn : i = cl (σ 38 j)
        · subst hn
          refine ⟨?_, p7, p6, ?_⟩
          · rw [p5, c1]; congr 1; omega
          · intro e
            obtain ⟨w1, w2, w3, w4⟩ := p8 e
            refine ⟨w2, w3, w4, ?_⟩
            unfold gl; rw [if_pos ⟨w1, w2⟩]; omega
        · have ne : 128 * j + i ≠ 128 * j + cl (σ 38 j) := by omega
          obtain ⟨k1, k2, k3, k4⟩ := a8 i (by omega)
          rw [p4 39 _ (by decide) (by decide) ne, p4 40 _ (by decide) (by decide) ne, p4 41 _ (by decide) (by decide) ne, p4 42 _ (by decide) (by decide) ne]
          refine ⟨?_, k2, k3, ?_⟩
          · rw [k1]; congr 1; omega
          · intro e
            have := k4 e
            have w := o1 this.1
            rw [w.2.1, w.2.2]
            refine ⟨w.1, this.2.1, this.2.2.1, ?_⟩
            unfold gl; rw [if_neg (fun h => h.1 this.1), this.2.2.2]; omega
  · unfold hv
    rw [gs_step a1 h127 a2, ecv, e1, l1_s]
def OW (F P : Nat) (l : Nat → Nat) (σ : (Nat → Nat → Int32)) (o h a : Nat) : Prop := σ 7 h = 1 ∧ σ 27 h = 1 ∧ σ 69 o = σ 28 h ∧ l h ≤ cl (σ 37 h) - cl (σ 38 h) ∧ ∀ p, F ≤ p → p < P → σ 67 p = nI h → σ 68 p = nI a → p = o
def OI (c : Nat) (l : Nat → Nat) (σ : (Nat → Nat → Int32)) : Prop := nb (σ 65 0) (cl (σ 66 0)) ∧ nb (σ 66 0) c ∧ ∀ o, cl (σ 65 0) ≤ o → o < cl (σ 66 0) → ∃ h a, h < 4 ∧ σ 67 o = nI h ∧ nb (σ 70 o) 7 ∧ σ 68 o = nI a ∧ a ≤ cl (σ 10 h) ∧ (a = cl (σ 10 h) → OW (cl (σ 65 0)) (cl (σ 66 0)) l σ o h a)
def RcI (n S : Nat) (σ : (Nat → Nat → Int32)) : Prop := (σ 60 0 = -1 ∧ σ 61 0 = -1) ∨ ∃ r s, TrAt σ n r s ∧ σ 7 r = 4 ∧ σ 7 s = 1 ∧ σ 11 s = 0 ∧ ∀ a, a < S → σ 63 (a / 256) = 0 → σ 15 (4096 * r + a) = σ 15 (4096 * s + a)
def GI (n pg rm E c : Nat) (σ : (Nat → Nat → Int32)) : Prop := RB σ n pg rm ∧ nb (σ 44 0) E ∧ nb (σ 50 0) (64 * c) ∧ nb (σ 72 0) 4096 ∧ σ 74 0 = 0 ∧ PartOK σ ∧ (σ 5 0 = 0 → σ 60 0 = -1 ∧ ∀ h, h < 4 → (σ 7 h = 0 ∨ σ 7 h = 6) ∧ σ 11 h = 0 ∧ σ 38 h = 0)
def INV (n pg rm c M E d : Nat) (l : Nat → Nat) (σ : (Nat → Nat → Int32)) (τ : (Nat → Nat → Int64)) : Prop := GI n pg rm E c σ ∧ (∀ h, h < 4 → HH (256 * pg) rm M c l σ τ h) ∧ OI d l σ ∧ RcI n (256 * pg) σ
