theorem KD_by {n : Nat} {u u' : (Nat → Nat → Int32)} (h : KD n u) (hb : BY u') (e : ∀ F, F = 124 ∨ F = 125 ∨ F = 72 ∨ F = 112 ∨ F = 38 ∨ F = 118 → u' F = u F) : KD n u' := by
  obtain ⟨a1, a2, a3, a4, a5⟩ := h
  unfold KD
  rw [e 124 (by omega), e 125 (by omega), e 72 (by omega), e 112 (by omega), e 38 (by omega), e 118 (by omega)]
  exact ⟨hb, a2, a3, a4, a5⟩
theorem KH_mem {pg j : Nat} {u u' : (Nat → Nat → Int32)} (hj : j < 4) (H : KH pg j u) (hb : BY u') (e : ∀ f, (16 ≤ f ∧ f ≤ 35) ∨ (100 ≤ f ∧ f ≤ 104) → u' f = u f) : KH pg j u' := by
  obtain ⟨s, ⟨E, k, p, a, d, b, F⟩, hB, h38, h61⟩ := H
  have n : ∀ f, f ≠ 15 → (fun F i => if F = 15 then u' 15 i else s F i) f = s f := fun f h => by funext i; show (if f = 15 then _ else _) = _; rw [if_neg h]
  refine ⟨fun F i => if F = 15 then u' 15 i else s F i, ⟨?_, ?_, ?_, ?_, ?_, hb, fun f i => Or.inl rfl⟩, ?_, h38, h61⟩
  · intro f i hf hi h15
    by_cases q : f = 15
    · subst q; rfl
    · obtain ⟨-, q2, q3⟩ := w_f_v hf
      rw [n f q, e f (Or.inl (by omega))]
      exact E f i hf hi h15
  · unfold w_K; rw [n 33 (by decide), n 32 (by decide), e 100 (by omega), e 101 (by omega)]; exact k
  · unfold w_P; rw [n 34 (by decide), n 35 (by decide), n 36 (by decide), e 102 (by omega), e 103 (by omega), e 104 (by omega)]; exact p
  · unfold w_A; rw [n 17 (by decide), n 18 (by decide)]; exact a
  · unfold w_D; rw [n 61 (by decide), h61]; exact fun q => absurd q (nI_m1 hj)
  · obtain ⟨b1, b2, b3, b4, b5, b6, b7, b8, b9⟩ := hB
    refine ⟨b1, b2, b3, b4, b5, b6, b7, b8, fun f i hf => ?_⟩
    by_cases q : f = 15
    · subst q; exact hb 15 i rfl
    · have := congrFun (n f q) i
      rw [this]; exact b9 f i hf
theorem KH_copy {pg l r : Nat} {u u' : (Nat → Nat → Int32)} (hr : r < 4) (H : KH pg l u) (hb : BY u') (e1 : ∀ f i, w_f f = true → f ≠ 15 → i < v_s f → u' f (v_s f * r + i) = u f (v_s f * l + i)) (e2 : ∀ f i, 100 ≤ f → f ≤ 104 → i < w_s f → u' f (w_s f * r + i) = u f (w_s f * l + i)) : KH pg r u' := by
  obtain ⟨s, ⟨E, k, p, a, d, b, F⟩, hB, h38, h61⟩ := H
  obtain ⟨b1, b2, b3, b4, b5, b6, b7, b8, b9⟩ := hB
  have n0 : ∀ f i, (fun F i => if F = 15 then u' 15 i else if 16 ≤ F ∧ F ≤ 38 then s F (v_s F * l + (i - v_s F * r)) else s F i) f i = (if f = 15 then u' 15 i else if 16 ≤ f ∧ f ≤ 38 then s f (v_s f * l + (i - v_s f * r)) else s f i) := fun f i => rfl
  refine ⟨fun F i => if F = 15 then u' 15 i else if 16 ≤ F ∧ F ≤ 38 then s F (v_s F * l + (i - v_s F * r)) else s F i, ?_, ?_, ?_, ?_⟩
  rotate_left
  · refine ⟨b1, b2, b3, ?_, ?_, ?_, ?_, ?_, ?_⟩
    · rw [n0, if_neg (by decide), if_pos (by decide)]
      show nb (s 33 (1 * l + (r - 1 * r))) 16
      rw [show 1 * l + (r - 1 * r) = l by omega]; exact b4
    · rw [n0, if_neg (by decide), if_pos (by decide)]
      show nb (s 35 (1 * l + (r - 1 * r))) 4
      rw [show 1 * l + (r - 1 * r) = l by omega]; exact b5
    · intro i hi
      rw [n0, if_neg (by decide), if_pos (by decide)]
      show nb (s 34 (4 * l + (4 * r + i - 4 * r))) 32
      rw [show 4 * r + i - 4 * r = i by omega]; exact b6 i hi
    · rw [n0, if_neg (by decide), if_pos (by decide)]
      show nb (s 30 (1 * l + (r - 1 * r))) _
      rw [show 1 * l + (r - 1 * r) = l by omega]; exact b7
    · rw [n0, if_neg (by decide), if_pos (by decide)]
      show nb (s 29 (1 * l + (r - 1 * r))) _
      rw [show 1 * l + (r - 1 * r) = l by omega]; exact b8
    · intro f i hf
      rw [n0]
      by_cases q : f = 15
      · rw [if_pos q]; exact hb 15 i rfl
      · rw [if_neg q, if_pos (by omega)]; exact b9 f _ hf
  · rw [n0, if_neg (by decide), if_pos (by decide)]
    show s 38 (1 * l + (r - 1 * r)) = 0
    rw [show 1 * l + (r - 1 * r) = l by omega]; exact h38
  · exact h61
  · refine ⟨?_, ?_, ?_, ?_, ?_, hb, fun f i => Or.inl rfl⟩
    · intro f i hf hi h15
      by_cases q : f = 15
      · subst q; rfl
      · obtain ⟨-, q2, q3⟩ := w_f_v hf
        rw [e1 f i hf q hi, n0, if_neg q, if_pos (by omega), show v_s f * r + i - v_s f * r = i by omega]
        exact E f i hf hi (fun x => absurd x q)
    · have e100 : ∀ i, i < 16 → u' 100 (16 * r + i) = u 100 (16 * l + i) := fun i hi => e2 100 i (by decide) (by decide) hi
      have e101 : u' 101 r = u 101 l := by have := e2 101 0 (by decide) (by decide) (by decide); rwa [show w_s 101 * r + 0 = r by show 1 * r + 0 = r; omega, show w_s 101 * l + 0 = l by show 1 * l + 0 = l; omega] at this
      unfold w_K
      rw [e101]
      refine ⟨k.1, fun i hi => ?_⟩
      rw [n0, if_neg (by decide), if_pos (by decide)] at hi
      have hi : i < cl (s 33 (1 * l + (r - 1 * r))) := hi
      rw [show 1 * l + (r - 1 * r) = l by omega] at hi
      rw [e100 _ (by omega), n0, if_neg (by decide), if_pos (by decide)]
      show _ = s 32 (16 * l + (16 * r + i - 16 * r))
      rw [show 16 * r + i - 16 * r = i by omega]
      exact k.2 i hi
    · have e102 : ∀ i, i < 4 → u' 102 (4 * r + i) = u 102 (4 * l + i) := fun i hi => e2 102 i (by decide) (by decide) hi
      have e103 : ∀ i, i < 128 → u' 103 (128 * r + i) = u 103 (128 * l + i) := fun i hi => e2 103 i (by decide) (by decide) hi
      have e104 : u' 104 r = u 104 l := by have := e2 104 0 (by decide) (by decide) (by decide); rwa [show w_s 104 * r + 0 = r by show 1 * r + 0 = r; omega, show w_s 104 * l + 0 = l by show 1 * l + 0 = l; omega] at this
      unfold w_P
      rw [e104]
      refine ⟨p.1, fun i hi => ?_⟩
      rw [n0, if_neg (by decide), if_pos (by decide)] at hi
      have hi : i < cl (s 35 (1 * l + (r - 1 * r))) := hi
      rw [show 1 * l + (r - 1 * r) = l by omega] at hi
      have hi4 : i < 4 := Nat.lt_of_lt_of_le hi b5.2
      have hz := (b6 i hi4).2
      have e34 : (if (34 : Nat) = 15 then u' 15 (4 * r + i) else if 16 ≤ 34 ∧ 34 ≤ 38 then s 34 (v_s 34 * l + (4 * r + i - v_s 34 * r)) else s 34 (4 * r + i)) = s 34 (4 * l + i) := by
        rw [if_neg (by decide), if_pos (by decide)]
        show s 34 (4 * l + (4 * r + i - 4 * r)) = _
        rw [show 4 * r + i - 4 * r = i by omega]
      rw [n0, e34]
      obtain ⟨q1, q2, q3⟩ := p.2 i hi
      refine ⟨?_, q2, fun t ht => ?_⟩
      · rw [e102 _ (by omega)]; exact q1
      · rw [e103 _ (by omega), n0, if_neg (by decide), if_pos (by decide)]
        show _ = s 36 (128 * l + (128 * r + (32 * i + t) - 128 * r))
        rw [show 128 * r + (32 * i + t) - 128 * r = 32 * i + t by omega]
        exact q3 t ht
    · unfold w_A
      rw [n0, n0, n0, if_neg (by decide), if_pos (by decide), if_neg (by decide), if_pos (by decide), if_neg (by decide), if_pos (by decide)]
      show s 17 (1 * l + (r - 1 * r)) &&& -4 = s 17 (1 * l + (r - 1 * r)) ∧ s 18 (7 * l + (7 * r + 2 - 7 * r)) &&& -4 = s 18 (7 * l + (7 * r + 2 - 7 * r)) ∧ s 18 (7 * l + (7 * r + 4 - 7 * r)) &&& -4 = s 18 (7 * l + (7 * r + 4 - 7 * r))
      rw [show 1 * l + (r - 1 * r) = l by omega, show 7 * r + 2 - 7 * r = 2 by omega, show 7 * r + 4 - 7 * r = 4 by omega]
      exact a
    · unfold w_D; rw [show (fun F i => if F = 15 then u' 15 i else if 16 ≤ F ∧ F ≤ 38 then s F (v_s F * l + (i - v_s F * r)) else s F i) 61 0 = s 61 0 from rfl, h61]; exact fun q => absurd q (nI_m1 hr)
