theorem gst_h {s : (Nat → Nat → Int32)} {j : Nat} : hasG s j = true ↔ gst s j := by unfold hasG gst; exact decide_eq_true_iff
theorem RR_mem {n pg rm c : Nat} {i a : Int32} {z z' : CZ} {y y' : RZ} {r r' : Int32} (hn : n ≤ 4) (hp : pg ≤ 16) (H : RR n pg rm c z y) (o : oMem n pg i a z z' r) (p : pMem n pg i a y y' r') : r = r' := by
  have eg : ∀ j, j < n → (hasG z.1 j = true ↔ hasG y.1 j = true) := fun j hj => by
    have := (H.2.1 j hj).2.2.2.1
    unfold hasG; rw [this]
  rcases o with ⟨-, ⟨q, e⟩ | ⟨j, A, hj, hA, e1, e2, g, e⟩⟩ <;> rcases p with ⟨-, ⟨q', e'⟩ | ⟨j', A', hj', hA', e1', e2', g', e'⟩⟩
  · rw [e, e']
  · exact absurd ⟨j', A', hj', hA', e1', e2', (eg j' hj').mpr g'⟩ q
  · exact absurd ⟨j, A, hj, hA, e1, e2, (eg j hj).mp g⟩ q'
  · have ej : j = j' := nIv_inj (e1.symm.trans e1') (by omega) (by omega)
    have eA : A = A' := nIv_inj (e2.symm.trans e2') (by omega) (by omega)
    subst ej; subst eA
    rw [e, e', w_gm (H.2.1 j hj).1.1 (by omega) hA]
theorem RR_blk {n pg rm c : Nat} {b k : Int32} {z z' : CZ} {y y' : RZ} {r r' : Int32} (H : RR n pg rm c z y) (o : oBlk b k z z' r) (p : pBlk b k y y' r') : r = r' := by
  have n8 : ∀ B, B < 8 → ¬ nI B = 8 := fun B h q => by
    have := nIv_inj (a := B) (b := 8) q (by omega) (by omega); omega
  rcases o with ⟨-, ⟨q, e⟩ | ⟨q1, q2, e⟩ | ⟨B, K, hB, hK, e1, e2, e⟩⟩ <;> rcases p with ⟨-, ⟨q', e'⟩ | ⟨q1', q2', e'⟩ | ⟨B', K', hB', hK', e1', e2', e'⟩⟩
  · rw [e, e']; exact H.1.2.2.2.1
  · exact absurd q q1'
  · rw [e1'] at q; exact absurd q (n8 B' hB')
  · exact absurd q' q1
  · rw [e, e']
  · exact absurd ⟨B', K', hB', hK', e1', e2'⟩ q2
  · rw [e1] at q'; exact absurd q' (n8 B hB)
  · exact absurd ⟨B, K, hB, hK, e1, e2⟩ q2'
  · have eB : B = B' := nIv_inj (e1.symm.trans e1') (by omega) (by omega)
    have eK : K = K' := nIv_inj (e2.symm.trans e2') (by omega) (by omega)
    subst eB; subst eK
    rw [e, e', H.1.2.2.2.2.2.1 _ (by omega)]
theorem CV_cb {n pg rm c j : Nat} {s : (Nat → Nat → Int32)} {τ : (Nat → Nat → Int64)} (V : CV n pg rm c s τ) (hj : j < 4) : nb (s 58 j) c ∧ nb (s 59 j) c ∧ cl (s 58 j) ≤ cl (s 59 j) := by
  obtain ⟨l, inv⟩ := V
  have := (inv.2.1 j hj).2.2.2.2.2.1
  exact ⟨this.1, this.2.1, this.2.2.1⟩
theorem nIv_sub {a b : Nat} (h : b ≤ a) : nI a - nI b = nI (a - b) := by
  have := nIv_add (a - b) b
  rw [show a - b + b = a by omega] at this
  rw [← this, Int32.add_sub_cancel]
theorem kcnt_e {u s : (Nat → Nat → Int32)} {l : Nat} : ∀ p, (∀ i, i < p → u 105 (16 * l + i) = s 63 i) → k_cnt u l p = m_wait s p
  | 0, _ => rfl
  | p + 1, h => by unfold k_cnt m_wait; rw [kcnt_e p (fun i hi => h i (by omega)), h p (by omega)]
theorem RR_rcv {n pg rm c : Nat} {z : CZ} {y : RZ} (V : CV n pg rm c y.1 y.2) (H : RR n pg rm c z y) : (y.1 60 0 = -1 ∧ ∀ j, j < n → ¬ z.1 7 j = 4) ∨ ∃ r l, TrAt y.1 n r l ∧ z.1 7 r = 4 ∧ (∀ j, j < n → z.1 7 j = 4 → j = r) ∧ k_one z.1 n l ∧ y.1 11 l = 0 ∧ (∀ p, p < pg → z.1 105 (16 * l + p) = y.1 63 p) := by
  have e7 : ∀ j, j < n → z.1 7 j = y.1 7 j := fun j hj => (H.2.1 j hj).2.2.2.1
  obtain ⟨x0, x1, x2, x3, x4, x5, x6, x7, x8, x9⟩ := H.2.2.2.2.1
  have hn4 := V.g.1.2.2.2.2.2.2.1
  rcases V.g.2.2.2.2.2.2 with q | ⟨r, l, ht, h4, h1, h11, -⟩
  · refine Or.inl ⟨q.1, fun j hj w => ?_⟩
    rw [e7 j hj] at w
    have := x6 j (by omega) w
    rw [q.1] at this; exact absurd this.symm (nI_m1 (by omega))
  · obtain ⟨t60, t61, hr, hl, hlr⟩ := id ht
    have n60 : ¬ y.1 60 0 = -1 := by rw [t60]; exact nI_m1 (by omega)
    refine Or.inr ⟨r, l, ht, by rw [e7 r hr]; exact h4, fun j hj w => ?_, ⟨hl, by rw [e7 l hl]; exact h1, fun t ht w => ?_⟩, h11, fun p hp => (H.2.1 l hl).1.2.2.2.2 t61.symm p hp⟩
    · rw [e7 j hj] at w
      exact nIv_inj ((x6 j (by omega) w).symm.trans t60) (by omega) (by omega)
    · rw [e7 t ht] at w
      exact nIv_inj ((x7 n60 t (by omega) w).symm.trans t61) (by omega) (by omega)
theorem hostv_e {n pg rm c j w : Nat} {z : CZ} {y : RZ} {p : Int32} (V : CV n pg rm c y.1 y.2) (H : RR n pg rm c z y) (hj : j < n) (hw : w ≤ 14 ∨ 32 ≤ w) (hw2 : w ≤ 71) (hp : k_ptsv z.1 n pg j p) : k_hostv z.1 z.2.1 j w p = m_hostv y.1 y.2 pg j w := by
  obtain ⟨ra, h37, h19, h7, h10, h111, f1, f2, f3⟩ := H.2.1 j hj
  have hn4 := V.g.1.2.2.2.2.2.2.1
  have E := ra.1
  have hG : hasG z.1 j = hasG y.1 j := by unfold hasG; rw [h7]
  obtain ⟨c1, c2, c3⟩ := CV_cb V (show j < 4 by omega)
  by_cases w0 : w = 0
  · subst w0; show (z.1 7 j).toInt64 = (y.1 7 j).toInt64; rw [h7]
  by_cases w8 : w = 8
  · subst w8
    show p.toInt64 = if nI j = y.1 60 0 then (nI (m_wait y.1 pg)).toInt64 else 0
    rcases RR_rcv V H with ⟨q1, q2⟩ | ⟨r, l, ht, a1, a2, a3, a4, a5⟩
    · rw [if_neg (by rw [q1]; exact nI_m1 (by omega))]
      rcases hp with ⟨-, e⟩ | ⟨l, e, -⟩
      · rw [e]; rfl
      · exact absurd e (q2 j hj)
    · by_cases x : j = r
      · subst x
        rw [if_pos ht.1.symm]
        rcases hp with ⟨q | q, -⟩ | ⟨l', -, e2, e3⟩
        · exact absurd a1 q
        · exact absurd a3 (q l)
        · have : l' = l := a3.2.2 l' e2.1 e2.2.1
          subst this
          rw [e3, kcnt_e pg a5]
      · rw [if_neg (fun q => x (nIv_inj (q.trans ht.1) (by omega) (by have := ht.2.2.1; omega)))]
        rcases hp with ⟨-, e⟩ | ⟨l', e, -⟩
        · rw [e]; rfl
        · exact absurd (a2 j hj e) x
  cases hg : hasG y.1 j with
  | false =>
    have hg' : hasG z.1 j = false := hG.trans hg
    unfold k_hostv m_hostv
    rw [if_neg w0, if_neg w8, if_pos hg', if_neg w0, if_neg w8, if_pos hg]
  | true =>
    have hg' : hasG z.1 j = true := hG.trans hg
    have g := gst_h.mp hg
    have ng : ¬ hasG z.1 j = false := by rw [hg']; decide
    have ng2 : ¬ hasG y.1 j = false := by rw [hg]; decide
    have go : ∀ A B : Int64, A = B → (if hasG z.1 j = false then 0 else A) = (if hasG y.1 j = false then 0 else B) := fun A B e => by rw [if_neg ng, if_neg ng2, e]
    by_cases w71 : w = 71
    · subst w71
      refine go (u32 (k_cvl z.1 z.2.1 j 7)) (u32 (m_pending y.1 j)) ?_
      show u32 (m_pending z.1 j) = _
      rw [w_pending E]
    by_cases w64 : 64 ≤ w
    · unfold k_hostv m_hostv k_ans
      rw [if_neg w0, if_neg w8, if_neg ng, if_neg (by omega), if_neg (by omega), if_neg (by omega), if_neg (by omega), if_pos w64, if_neg w0, if_neg w8, if_neg ng2, if_neg w71, if_pos w64]
      unfold k_cvl
      rw [if_pos (by omega), w_gc E (by omega)]
    by_cases w32 : 32 ≤ w
    · unfold k_hostv m_hostv k_ans
      rw [if_neg w0, if_neg w8, if_neg ng, if_neg (by omega), if_neg (by omega), if_neg (by omega), if_neg (by omega), if_neg w64, if_pos w32, if_neg w0, if_neg w8, if_neg ng2, if_neg w71, if_neg w64, if_pos w32, w_gx E (by omega)]
    rcases (by omega : w = 1 ∨ w = 2 ∨ w = 3 ∨ w = 4 ∨ w = 5 ∨ w = 6 ∨ w = 7 ∨ w = 9 ∨ w = 10 ∨ w = 11 ∨ w = 12 ∨ w = 13 ∨ w = 14) with e | e | e | e | e | e | e | e | e | e | e | e | e <;> subst e
    · exact go (z.2.1 19 j) (y.2 19 j) h19
    · exact go (u32 (z.1 17 j)) (u32 (y.1 17 j)) (by rw [w_g1 17 E rfl])
    · exact go (if z.1 20 j = 0 then 0 else 1) (if y.1 20 j = 0 then 0 else 1) (by rw [w_g1 20 E rfl])
    · exact go (z.1 37 j).toInt64 (y.1 37 j).toInt64 (by rw [h37])
    · exact go (z.1 38 j).toInt64 (y.1 38 j).toInt64 (by rw [(f3.1 g).1])
    · refine go (z.1 114 j).toInt64 (if y.1 7 j = 1 ∧ ¬ y.1 11 j = 0 then (y.1 55 j).toInt64 else 0) ?_
      by_cases q : y.1 7 j = 1
      · obtain ⟨-, -, -, q4, q5⟩ := f1.1 q
        by_cases q2 : y.1 11 j = 0
        · rw [if_neg (fun x => x.2 q2), (q4 q2).1]; rfl
        · rw [if_pos ⟨q, q2⟩, (q5 q2).2]
      · rw [if_neg (fun x => q x.1), (f1.2.1 q).1]; rfl
    · refine go (z.1 121 j).toInt64 (if y.1 7 j = 1 then 0 else (y.1 59 j - y.1 58 j).toInt64) ?_
      by_cases q : y.1 7 j = 1
      · rw [if_pos q, (f1.1 q).2.2.1]; rfl
      · rw [if_neg q, (f1.2.2.1 (g.resolve_left q)).2, ← nIv_sub c3, ← c1.1, ← c2.1]
    · exact go (u32 (z.1 21 j)) (u32 (y.1 21 j)) (by rw [w_g1 21 E rfl])
    · exact go (u32 (z.1 22 j)) (u32 (y.1 22 j)) (by rw [w_g1 22 E rfl])
    · exact go (z.1 27 j).toInt64 (y.1 27 j).toInt64 (by rw [w_g1 27 E rfl])
    · exact go (z.1 33 j).toInt64 (y.1 33 j).toInt64 (by rw [w_g1 33 E rfl])
    · exact go (z.1 35 j).toInt64 (y.1 35 j).toInt64 (by rw [w_g1 35 E rfl])
    · refine go (z.1 113 j).toInt64 (if ¬ y.1 7 j = 1 ∨ ¬ y.1 11 j = 0 then (y.1 9 j).toInt64 else 0) ?_
      by_cases q : y.1 7 j = 1
      · obtain ⟨-, -, -, q4, q5⟩ := f1.1 q
        by_cases q2 : y.1 11 j = 0
        · rw [if_neg (fun x => x.elim (fun x => x q) (fun x => x q2)), (q4 q2).2]; rfl
        · rw [if_pos (Or.inr q2), (q5 q2).1]
      · rw [if_pos (Or.inl q), (f1.2.2.1 (g.resolve_left q)).1]
theorem RR_hos {n pg rm c : Nat} {i s : Int32} {z z' : CZ} {y y' : RZ} {r r' : Int64} (V : CV n pg rm c y.1 y.2) (H : RR n pg rm c z y) (o : oHos n pg i s z z' r) (p : pHos n pg i s y y' r') : r = r' := by
  have hn4 := V.g.1.2.2.2.2.2.2.1
  have ho : ∀ w, (w ≤ 14 ∨ 32 ≤ w) → w ≤ 71 → HoIn (nI w) := fun w h1 h2 => by
    unfold HoIn
    rintro (q | ⟨q1, q2⟩ | q)
    · exact nI_pos (by omega) q
    · have a := (nI_ltI (a := 14) (b := w) (by omega) (by omega)).mp q1
      have b := (nI_ltI (a := w) (b := 32) (by omega) (by omega)).mp q2
      omega
    · have a := (nI_ltI (a := 71) (b := w) (by omega) (by omega)).mp q
      omega
  rcases o with ⟨-, ⟨q, e⟩ | ⟨q1, q2, e⟩ | ⟨j, w, pv, hj, e1, e2, h1, h2, h3, e⟩⟩ <;> rcases p with ⟨-, ⟨q', e'⟩ | ⟨q1', q2', e'⟩ | ⟨j', w', hj', e1', e2', h1', h2', e'⟩⟩
  · rw [e, e']
  · exact absurd q1' q
  · exact absurd ⟨j', hj', e1'⟩ q
  · exact absurd q1 q'
  · rw [e, e']
  · rw [e2'] at q2; exact absurd (ho w' h1' h2') q2
  · exact absurd ⟨j, hj, e1⟩ q'
  · rw [e2] at q2'; exact absurd (ho w h1 h2) q2'
  · have ej : j = j' := nIv_inj (e1.symm.trans e1') (by omega) (by omega)
    have ew : w = w' := nIv_inj (e2.symm.trans e2') (by omega) (by omega)
    subst ej; subst ew
    rw [e, e']; exact hostv_e V H hj h1 h2 h3
