def EK (d : ED) : Prop := (d.1 = 1 → d.2.1 &&& 255 = d.2.1) ∧ (d.1 = 2 → ∃ N f, d.2.2.1 = some (N, f) ∧ 1 ≤ N ∧ N ≤ 32 ∧ ∀ i, i < N → byt (f i)) ∧ (d.1 = 4 → d.2.2.1 = none ∨ ∃ f, d.2.2.1 = some (64, f)) ∧ (¬ d.1 = 2 → ¬ d.1 = 4 → d.2.2.1 = none)
theorem EK.bo {d : ED} (h : EK d) : BoOK d.1 d.2.2.1 := by
  intro N f e
  refine ⟨fun q => ?_, fun q => ?_⟩
  · obtain ⟨N', f', e', -, h2, h3⟩ := h.2.1 q
    rw [e] at e'; cases e'; exact ⟨h2, h3⟩
  · rcases h.2.2.1 q with r | ⟨f', r⟩
    · rw [e] at r; cases r
    · rw [e] at r; cases r; rfl
def KH (pg j : Nat) (u : (Nat → Nat → Int32)) : Prop := ∃ s, w_W pg j u s u ∧ v_B (256 * pg) j s ∧ s 38 j = 0 ∧ s 61 0 = -1
theorem nI_m1 {j : Nat} (hj : j < 4) : ¬ nI j = -1 := by
  rcases (by omega : j = 0 ∨ j = 1 ∨ j = 2 ∨ j = 3) with e | e | e | e <;> subst e <;> decide
theorem KH_of {pg j : Nat} {u0 s u : (Nat → Nat → Int32)} (hj : j < 4) (H : w_W pg j u0 s u) (hB : v_B (256 * pg) j s) : KH pg j u := by
  obtain ⟨e, k, p, a, d, b, f⟩ := H
  have n : ∀ f, f ≠ 38 → f ≠ 61 → u2 (u2 s 38 j 0) 61 0 (-1) f = s f := fun f h1 h2 => by rw [u2_ne h2, u2_ne h1]
  refine ⟨u2 (u2 s 38 j 0) 61 0 (-1), ⟨?_, ?_, ?_, ?_, ?_, b, fun f i => Or.inl rfl⟩, ?_, by rw [u2_ne (by decide), u2_ss], by rw [u2_ss]⟩
  · intro f i hf hi h15
    rw [n f (by rintro rfl; cases hf) (by rintro rfl; cases hf)]
    exact e f i hf hi h15
  · unfold w_K; rw [n 33 (by decide) (by decide), n 32 (by decide) (by decide)]; exact k
  · unfold w_P; rw [n 34 (by decide) (by decide), n 35 (by decide) (by decide), n 36 (by decide) (by decide)]; exact p
  · unfold w_A; rw [n 17 (by decide) (by decide), n 18 (by decide) (by decide)]; exact a
  · unfold w_D; rw [u2_ss]; exact fun q => absurd q (nI_m1 hj)
  · exact v_B_nf hB (fun f hf => n f (by omega) (by omega))
theorem KH.G {pg j : Nat} {u : (Nat → Nat → Int32)} (H : KH pg j u) : KG u j := by
  obtain ⟨s, ⟨e, k, p, a, d, b, f⟩, hB, -, -⟩ := H
  have e17 := w_g1 17 e rfl
  have e33 := w_g1 33 e rfl
  have e35 := w_g1 35 e rfl
  refine ⟨b, by rw [e17]; exact a.1, k.1, by rw [e33]; exact hB.2.2.2.1, p.1, by rw [e35]; exact hB.2.2.2.2.1, fun h0 => ?_⟩
  rw [e35] at h0
  obtain ⟨q1, q2, -⟩ := p.2 0 h0
  have hl : (cl (u 104 j) + 0) % 4 = cl (u 104 j) := by have := p.1.2; omega
  rw [hl] at q1
  rw [q1]; exact ⟨hB.2.2.2.2.2.1 0 (by omega), q2⟩
theorem KH.R {pg j : Nat} {u : (Nat → Nat → Int32)} (H : KH pg j u) : KR u j := ⟨H.G.2.2.1, H.G.2.2.2.1, H.G.2.2.2.2.1, H.G.2.2.2.2.2.1⟩
theorem KH.Y {pg j : Nat} {u : (Nat → Nat → Int32)} (H : KH pg j u) : BY u := H.G.1
def khf (f : Nat) : Bool := w_f f || decide (100 ≤ f ∧ f ≤ 104)
theorem w_f_v {f : Nat} (h : w_f f = true) : w_s f = v_s f ∧ 15 ≤ f ∧ f ≤ 35 := by
  unfold w_f at h
  simp only [List.contains_eq_mem, List.mem_cons, List.mem_nil_iff, or_false, decide_eq_true_eq] at h
  rcases h with e | e | e | e | e | e | e | e | e | e | e | e | e | e | e | e | e | e <;> subst e <;> exact ⟨rfl, by decide, by decide⟩
theorem KH_nf {pg j : Nat} {u u' : (Nat → Nat → Int32)} (hj : j < 4) (H : KH pg j u) (hb : BY u') (e : ∀ f i, khf f = true → w_s f * j ≤ i → i < w_s f * j + w_s f → u' f i = u f i) : KH pg j u' := by
  obtain ⟨s, ⟨E, k, p, a, d, b, F⟩, hB, h38, h61⟩ := H
  have e1 : ∀ f, f = 101 ∨ f = 104 → u' f j = u f j := fun f hf => by
    rcases hf with q | q <;> subst q <;> exact e _ _ (by decide) (by show 1 * j ≤ j; omega) (by show j < 1 * j + 1; omega)
  refine ⟨s, ⟨?_, ?_, ?_, a, ?_, hb, fun f i => Or.inl rfl⟩, hB, h38, h61⟩
  · intro f i hf hi h15
    obtain ⟨q1, q2, q3⟩ := w_f_v hf
    rw [e f _ (by unfold khf; rw [hf]; rfl) (by rw [q1]; omega) (by rw [q1]; omega)]
    exact E f i hf hi h15
  · unfold w_K
    rw [e1 101 (Or.inl rfl)]
    refine ⟨k.1, fun i hi => ?_⟩
    rw [e 100 _ (by decide) (by show 16 * j ≤ _; omega) (by show _ < 16 * j + 16; omega)]
    exact k.2 i hi
  · unfold w_P
    rw [e1 104 (Or.inr rfl)]
    refine ⟨p.1, fun i hi => ?_⟩
    have hi4 : i < 4 := Nat.lt_of_lt_of_le hi hB.2.2.2.2.1.2
    have hz := (hB.2.2.2.2.2.1 i hi4).2
    obtain ⟨q1, q2, q3⟩ := p.2 i hi
    refine ⟨?_, q2, fun t ht => ?_⟩
    · rw [e 102 _ (by decide) (by show 4 * j ≤ _; omega) (by show _ < 4 * j + 4; omega)]; exact q1
    · rw [e 103 _ (by decide) (by show 128 * j ≤ _; omega) (by show _ < 128 * j + 128; omega)]; exact q3 t ht
  · unfold w_D; rw [h61]; exact fun q => absurd q (nI_m1 hj)
theorem khf_r {f : Nat} (h : khf f = true) : (15 ≤ f ∧ f ≤ 35) ∨ (100 ≤ f ∧ f ≤ 104) := by
  unfold khf at h
  rcases (Bool.or_eq_true _ _).mp h with q | q
  · exact Or.inl (w_f_v q).2
  · exact Or.inr (of_decide_eq_true q)
theorem KH_ff {pg j : Nat} {u u' : (Nat → Nat → Int32)} (hj : j < 4) (H : KH pg j u) (hb : BY u') (e : ∀ f, (15 ≤ f ∧ f ≤ 35) ∨ (100 ≤ f ∧ f ≤ 104) → u' f = u f) : KH pg j u' :=
  KH_nf hj H hb (fun f i hf _ _ => by rw [e f (khf_r hf)])
theorem KH_F {pg j h : Nat} {u u' : (Nat → Nat → Int32)} (hh : h < 4) (H : KH pg h u) (F : w_F j u u') (hne : h ≠ j) (hb : BY u') : KH pg h u' := by
  refine KH_nf hh H hb (fun f i hf h1 h2 => ?_)
  rcases F f i with q | q
  · exact q
  · obtain ⟨-, q1, q2⟩ := q
    obtain ⟨t, rfl⟩ : ∃ t, i = w_s f * h + t := ⟨i - w_s f * h, by omega⟩
    exact absurd (sl_ne (s := w_s f) (h := h) (j := j) (i := t) (by omega) q1 q2) hne
theorem KH_ms {pg j : Nat} {u : (Nat → Nat → Int32)} {υ : (Nat → Nat → Int64)} (H : KH pg j u) (hp : pg ≤ 16) (hj : j < 4) : KH pg j (k_ms (u2 u 20 j 0) υ pg j) ∧ w_F j u (k_ms (u2 u 20 j 0) υ pg j) ∧ (k_ms (u2 u 20 j 0) υ pg j 20 j = 0 ∨ k_ms (u2 u 20 j 0) υ pg j 20 j = 1) ∧ (k_ms (u2 u 20 j 0) υ pg j 106 j = 0 ∨ (nb (k_ms (u2 u 20 j 0) υ pg j 107 j) 32 ∧ m_irq (u2 u 20 j 0) j = false ∧ k_isOut (u2 u 20 j 0) pg j = true)) := by
  obtain ⟨s, W, hB, h38, h61⟩ := H
  obtain ⟨o, O1, O2, O3, O4⟩ := w_stp (τ := υ) (υ := υ) W hB hp rfl
  have hB' := (st_R (τ := υ) hB (by rw [h38]; exact nb_0)).2.2.1
  refine ⟨KH_of hj O3 hB', O3.2.2.2.2.2.2, ?_, ?_⟩
  · rw [w_g1 20 O3.1 rfl]; exact z_stx
  · cases o with
    | false => exact Or.inl (O4.1 rfl)
    | true =>
      right
      obtain ⟨p1, p2⟩ := O2 rfl
      obtain ⟨-, -, q⟩ := O1
      obtain ⟨-, -, -, -, -, q6, q7, -⟩ := q rfl
      obtain ⟨r1, r2, r3, r4⟩ := O4.2 rfl
      have W2 := w_W_1 (v := 0) (w := 0) 20 W rfl rfl
      have hB2 : v_B (256 * pg) j (u2 s 20 j 0) := v_B_g hB (by decide) (fun q => absurd q (by decide)) (fun q => absurd q (by decide)) (fun q => absurd q (by decide)) (fun q => absurd q (by decide)) (fun q => absurd q (by decide)) (fun q => absurd q (by decide))
      refine ⟨?_, by rw [irq_20.1, w_irq W.1]; exact p1, by rw [w_isOut W2 hB2]; exact p2⟩
      rcases q7 with e | e | e
      · rw [(r2 e).1]; exact nb_n (a := 1) (by omega) (by decide)
      · rw [(r3 e).1]
        obtain ⟨N, h1, h2⟩ := q6 e
        rw [h2]; exact nb_n h1 (by decide)
      · rw [r4 e]; exact nb_0
