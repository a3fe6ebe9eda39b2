theorem keys_lo {s : (Nat → Nat → Int32)} {j : Nat} : ∀ n i, m_keys s j n 32 (16 * j + i) = if i < n then s 32 (16 * j + i + 1) else s 32 (16 * j + i)
  | 0, i => by rw [if_neg (by omega)]; rfl
  | n + 1, i => by
    unfold m_keys
    by_cases e : i = n
    · subst e
      rw [u2_ss, if_pos (by omega)]
      have := keys_lo (s := s) (j := j) i (i + 1)
      rw [if_neg (by omega)] at this
      exact this
    · rw [u2_sn (by omega), keys_lo n i]
      by_cases h : i < n
      · rw [if_pos h, if_pos (by omega)]
      · rw [if_neg h, if_neg (by omega)]
theorem w_took {pg j q : Nat} {u0 s u : (Nat → Nat → Int32)} (H : w_W pg j u0 s u) (hq : cl (s 33 j) = q + 1) (hq2 : q ≤ 15) : w_W pg j u0 (m_took s j q) (k_took u j (cl (u 101 j)) q) := by
  obtain ⟨e, k, p, al, d, b, F⟩ := H
  have ns : ∀ f, f ≠ 32 → f ≠ 33 → m_took s j q f = s f := fun f h1 h2 => by unfold m_took; rw [m_keys_ne h1, u2_ne h2]
  have s33 : m_took s j q 33 = u2 s 33 j (nI q) 33 := by unfold m_took; rw [m_keys_ne (by decide)]
  have s32 : ∀ i, i < q → m_took s j q 32 (16 * j + i) = s 32 (16 * j + i + 1) := fun i hi => by unfold m_took; rw [keys_lo, if_pos hi, u2_ne (by decide)]
  have nu : ∀ f, f ≠ 101 → f ≠ 33 → k_took u j (cl (u 101 j)) q f = u f := fun f h1 h2 => by unfold k_took; rw [u2_ne h2, u2_ne h1]
  have u33 : k_took u j (cl (u 101 j)) q 33 = u2 u 33 j (nI q) 33 := by
    unfold k_took; rw [u2_s, u2_s, u2_ne (by decide)]
  have u101 : k_took u j (cl (u 101 j)) q 101 j = nI ((cl (u 101 j) + 1) % 16) := by unfold k_took; rw [u2_ne (by decide), u2_ss]
  have hk := k.1.2
  refine ⟨?_, ⟨?_, ?_⟩, ?_, ?_, ?_, ?_, ?_⟩
  · intro f i hf hi h15
    by_cases q1 : f = 33
    · subst q1
      rw [s33, u33]; exact w_E_u (f := 33) (i := 0) (v := nI q) e 33 i hf hi h15 |> fun h => by
        rwa [show v_s 33 * j + 0 = j by show 1 * j + 0 = j; omega] at h
    · have : f ≠ 32 ∧ f ≠ 101 := by constructor <;> (intro q; subst q; cases hf)
      rw [ns f this.1 q1, nu f this.2 q1]; exact e f i hf hi h15
  · rw [u101]; exact nb_n (by omega) (by omega)
  · rw [s33, u2_ss, cl_nI (by omega)]
    intro i hi
    rw [u101, cl_nI (by omega), nu 100 (by decide) (by decide), s32 i hi]
    have := k.2 (i + 1) (by omega)
    rw [show (cl (u 101 j) + (i + 1)) % 16 = ((cl (u 101 j) + 1) % 16 + i) % 16 by omega] at this
    exact this
  · unfold w_P; rw [ns 35 (by decide) (by decide), ns 34 (by decide) (by decide), ns 36 (by decide) (by decide), nu 104 (by decide) (by decide), nu 102 (by decide) (by decide), nu 103 (by decide) (by decide)]; exact p
  · unfold w_A; rw [ns 17 (by decide) (by decide), ns 18 (by decide) (by decide)]; exact al
  · unfold w_D; rw [ns 61 (by decide) (by decide), ns 63 (by decide) (by decide), nu 105 (by decide) (by decide)]; exact d
  · unfold k_took; exact (b.u2 (fun q => absurd q (by decide))).u2 (fun q => absurd q (by decide))
  · unfold k_took
    refine w_F_u (w_F_u F ⟨.inr ⟨by decide, by decide⟩, ?_, ?_⟩) ⟨.inl ⟨by decide, by decide⟩, ?_, ?_⟩
    · show 1 * j ≤ _; omega
    · show _ < 1 * j + 1; omega
    · show 1 * j ≤ _; omega
    · show _ < 1 * j + 1; omega
theorem recp_lo {s : (Nat → Nat → Int32)} {j i0 : Nat} : ∀ n x, n ≤ 32 → m_recp s j i0 n 36 x = if 128 * j + 32 * i0 ≤ x ∧ x < 128 * j + 32 * i0 + n then (s 36 (x + 32)).toInt8.toInt32 else s 36 x
  | 0, x, _ => by rw [if_neg (by omega)]; rfl
  | n + 1, x, hn => by
    unfold m_recp
    by_cases e : x = 128 * j + 32 * i0 + n
    · subst e
      rw [u2_ss, recp_lo n _ (by omega), if_neg (by omega), if_pos (by omega)]
      congr 3; omega
    · rw [u2_sn e, recp_lo n x (by omega)]
      by_cases h : 128 * j + 32 * i0 ≤ x ∧ x < 128 * j + 32 * i0 + n
      · rw [if_pos h, if_pos (by omega)]
      · rw [if_neg h, if_neg (by omega)]
theorem recs_34 {s : (Nat → Nat → Int32)} {j : Nat} : ∀ n i, m_recs s j n 34 (4 * j + i) = if i < n then s 34 (4 * j + i + 1) else s 34 (4 * j + i)
  | 0, i => by rw [if_neg (by omega)]; rfl
  | n + 1, i => by
    unfold m_recs
    rw [m_recp_ne (by decide)]
    by_cases e : i = n
    · subst e
      rw [u2_ss, if_pos (by omega)]
      have := recs_34 (s := s) (j := j) i (i + 1)
      rw [if_neg (by omega)] at this
      exact this
    · rw [u2_sn (by omega), recs_34 n i]
      by_cases h : i < n
      · rw [if_pos h, if_pos (by omega)]
      · rw [if_neg h, if_neg (by omega)]
theorem recs_36 {s : (Nat → Nat → Int32)} {j : Nat} : ∀ n x, n ≤ 3 → m_recs s j n 36 (128 * j + x) = if x < 32 * n then (s 36 (128 * j + x + 32)).toInt8.toInt32 else s 36 (128 * j + x)
  | 0, x, _ => by rw [if_neg (by omega)]; rfl
  | n + 1, x, hn => by
    unfold m_recs
    rw [recp_lo 32 _ (by omega), u2_ne (by decide)]
    by_cases e : 128 * j + 32 * n ≤ 128 * j + x ∧ 128 * j + x < 128 * j + 32 * n + 32
    · rw [if_pos e, if_pos (by omega)]
      have := recs_36 (s := s) (j := j) n (x + 32) (by omega)
      rw [if_neg (by omega)] at this
      rw [show 128 * j + x + 32 = 128 * j + (x + 32) by omega, this]
    · rw [if_neg e, recs_36 n x (by omega)]
      by_cases h : x < 32 * n
      · rw [if_pos h, if_pos (by omega)]
      · rw [if_neg h, if_neg (by omega)]
theorem w_recw {pg j A : Nat} {u0 s u : (Nat → Nat → Int32)} {f : Nat → Int32} {o : Nat} (H : w_W pg j u0 s u) (hp : pg ≤ 16) : ∀ z, z ≤ 32 → A + z ≤ 256 * pg → (∀ i, i < z → f (o + i) = s 36 (128 * j + i)) → w_W pg j u0 (m_recw s j A z) (k_wbl u j A o f z)
  | 0, _, _, _ => H
  | z + 1, h1, h2, hf => by
    have ih := w_recw (A := A) (f := f) (o := o) H hp z (by omega) (by omega) (fun i hi => hf i (by omega))
    refine w_write ih (by omega) hp ?_
    rw [hf z (by omega), m_recw_ne (by decide) (by decide)]
theorem w_receives {pg j q z : Nat} {u0 s u : (Nat → Nat → Int32)} {v : Int32} (H : w_W pg j u0 s u) (hB : v_B (256 * pg) j s) (hp : pg ≤ 16) (hq : q = cl (s 35 j)) (hz : z = cl (s 34 (4 * j))) : w_W pg j u0 (m_receives s j q z v) (if q = 0 ∨ k_in pg v (nI z) = false then u else k_rec u j (cl (u 104 j)) (q - 1) (cl v) z) := by
  have hS := hB.1
  have hq4 : q ≤ 4 := by rw [hq]; exact hB.2.2.2.2.1.2
  have hz32 : z ≤ 32 := by rw [hz]; exact (hB.2.2.2.2.2.1 0 (by decide)).2
  unfold m_receives
  rw [hS]
  by_cases c : q = 0 ∨ ¬ (0 ≤ v ∧ v ≤ nI (256 * pg) - nI z)
  · rw [if_pos c, if_pos (by
      rcases c with c | c
      · exact .inl c
      · right; unfold k_in; exact decide_eq_false c)]
    exact H
  have c1 : ¬ q = 0 := fun h => c (.inl h)
  have c2 : 0 ≤ v ∧ v ≤ nI (256 * pg) - nI z := Classical.byContradiction fun h => c (.inr h)
  rw [if_neg c, if_neg (by
    rintro (h | h)
    · exact c1 h
    · unfold k_in at h; exact of_decide_eq_false h c2)]
  have hA : cl v + z ≤ 256 * pg := v_inN hB.2.2.1 (by have := hB.2.1; omega) c2
  have hpf := H.2.2.1.1.2
  obtain ⟨f1, f2, f3⟩ := H.2.2.1.2 0 (by omega)
  have hm : (cl (u 104 j) + 0) % 4 = cl (u 104 j) := by omega
  have e40 : cl (s 34 (4 * j + 0)) = z := by rw [hz]; rfl
  rw [hm] at f1 f3
  rw [e40] at f2 f3
  have H1 := w_recw (A := cl v) (o := 32 * cl (u 104 j)) (f := trI 128 (fun i => u 103 (128 * j + i))) H hp z hz32 hA (by
    intro i hi
    unfold trI
    rw [if_pos (by omega)]
    have := f3 i hi
    rw [show 32 * 0 + i = i by omega] at this
    exact this)
  unfold k_rec k_drpP
  generalize hX : k_wbl u j (cl v) (32 * cl (u 104 j)) (trI 128 (fun i => u 103 (128 * j + i))) z = X at *
  have hXu : ∀ f, f ≠ 15 → f ≠ 105 → X f = u f := fun f h1 h2 => by rw [← hX]; exact k_wbl_ne h1 h2 z
  show w_W pg j u0 (m_recs (u2 (m_recw s j (cl v) z) 35 j (nI (q - 1))) j (q - 1)) _
  generalize hY : m_recw s j (cl v) z = Y at *
  have hYs : ∀ f, f ≠ 15 → f ≠ 63 → Y f = s f := fun f h1 h2 => by rw [← hY]; exact m_recw_ne h1 h2 z
  obtain ⟨e, k, p, al, d, b, F⟩ := H1
  have ns : ∀ f, f ≠ 34 → f ≠ 35 → f ≠ 36 → m_recs (u2 Y 35 j (nI (q - 1))) j (q - 1) f = Y f := fun f h1 h2 h3 => by rw [m_recs_ne h1 h3, u2_ne h2]
  have s35 : m_recs (u2 Y 35 j (nI (q - 1))) j (q - 1) 35 = u2 Y 35 j (nI (q - 1)) 35 := by rw [m_recs_ne (by decide) (by decide)]
  have s34 : ∀ i, i < q - 1 → m_recs (u2 Y 35 j (nI (q - 1))) j (q - 1) 34 (4 * j + i) = s 34 (4 * j + (i + 1)) := fun i hi => by
    rw [recs_34, if_pos hi, u2_ne (by decide), hYs 34 (by decide) (by decide)]; rfl
  have s36 : ∀ x, x < 32 * (q - 1) → m_recs (u2 Y 35 j (nI (q - 1))) j (q - 1) 36 (128 * j + x) = s 36 (128 * j + (x + 32)) := fun x hx => by
    rw [recs_36 _ _ (by omega), if_pos hx, u2_ne (by decide), hYs 36 (by decide) (by decide)]
    exact hB.2.2.2.2.2.2.2.2 36 _ (by omega)
  refine ⟨?_, ?_, ⟨?_, ?_⟩, ?_, ?_, ?_, ?_⟩
  · intro f i hf hi h15
    have h0 : f ≠ 34 ∧ f ≠ 36 ∧ f ≠ 104 := by refine ⟨?_, ?_, ?_⟩ <;> (intro q; subst q; cases hf)
    by_cases q1 : f = 35
    · subst q1
      rw [s35]
      have hi : i < 1 := hi
      have : i = 0 := by omega
      subst this
      rw [show v_s 35 * j + 0 = j by show 1 * j + 0 = j; omega, u2_ss, u2_ss]
    · rw [ns f h0.1 q1 h0.2.1, u2_ne q1, u2_ne h0.2.2]; exact e f i hf hi h15
  · unfold w_K; rw [ns 33 (by decide) (by decide) (by decide), ns 32 (by decide) (by decide) (by decide), u2_ne (by decide), u2_ne (by decide), u2_ne (by decide), u2_ne (by decide)]; exact k
  · rw [u2_ne (by decide), u2_ss]; exact nb_n (by omega) (by omega)
  · rw [s35, u2_ss, cl_nI (by omega)]
    intro i hi
    have w104 : u2 (u2 X 104 j (nI ((cl (u 104 j) + 1) % 4))) 35 j (nI (q - 1)) 104 j = nI ((cl (u 104 j) + 1) % 4) := by rw [u2_ne (by decide), u2_ss]
    rw [w104, cl_nI (by omega), s34 i hi, u2_ne (by decide), u2_ne (by decide), u2_ne (by decide), u2_ne (by decide), hXu 102 (by decide) (by decide), hXu 103 (by decide) (by decide)]
    obtain ⟨g1, g2, g3⟩ := H.2.2.1.2 (i + 1) (by omega)
    have em : (cl (u 104 j) + (i + 1)) % 4 = ((cl (u 104 j) + 1) % 4 + i) % 4 := by omega
    rw [em] at g1 g3
    have h32 : cl (s 34 (4 * j + (i + 1))) ≤ 32 := (hB.2.2.2.2.2.1 (i + 1) (by omega)).2
    refine ⟨g1, g2, ?_⟩
    intro t ht
    rw [s36 (32 * i + t) (by omega), g3 t ht]
    congr 1; omega
  · unfold w_A; rw [ns 17 (by decide) (by decide) (by decide), ns 18 (by decide) (by decide) (by decide)]; exact al
  · unfold w_D; rw [ns 61 (by decide) (by decide) (by decide), ns 63 (by decide) (by decide) (by decide), u2_ne (by decide), u2_ne (by decide)]; exact d
  · exact (b.u2 (fun q => absurd q (by decide))).u2 (fun q => absurd q (by decide))
  · refine w_F_u (w_F_u F ⟨.inr ⟨by decide, by decide⟩, ?_, ?_⟩) ⟨.inl ⟨by decide, by decide⟩, ?_, ?_⟩
    · show 1 * j ≤ _; omega
    · show _ < 1 * j + 1; omega
    · show 1 * j ≤ _; omega
    · show _ < 1 * j + 1; omega
