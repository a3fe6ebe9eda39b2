theorem wf_l {f : Nat} (h : w_f f = true) : f = 15 ∨ f = 16 ∨ f = 17 ∨ f = 18 ∨ f = 20 ∨ f = 21 ∨ f = 22 ∨ f = 23 ∨ f = 24 ∨ f = 25 ∨ f = 26 ∨ f = 27 ∨ f = 28 ∨ f = 29 ∨ f = 30 ∨ f = 31 ∨ f = 33 ∨ f = 35 := by
  unfold w_f at h
  simp only [List.contains_eq_mem, List.mem_cons, List.mem_nil_iff, or_false, decide_eq_true_eq] at h
  exact h
theorem call_by {u : (Nat → Nat → Int32)} {l r : Nat} (h : BY u) : BY (k_call u l r) := by
  unfold k_call k_ca2 k_ca1 k_cd k_cd0 k_cpP
  have h1 := k_cw_by (j := l) (r := r) h
  have h2 := (((h1.u2 (F := 28) (i := r) (v := k_cw u l r 28 l) (fun q => absurd q (by decide))).u2 (F := 29) (i := r) (v := k_cw u l r 29 l) (fun q => absurd q (by decide))).u2 (F := 30) (i := r) (v := k_cw u l r 30 l) (fun q => absurd q (by decide))).cp (A := 31) (a := 64 * l + 0) (B := 31) (b := 64 * r + 0) (N := 64) (fun _ => rfl)
  refine BY.u2 (BY.u2 (BY.u2 (BY.cp (BY.cp (BY.u2 (BY.u2 (BY.u2 (BY.u2 (BY.u2 (BY.u2 (BY.u2 h2 ?_) ?_) ?_) ?_) ?_) ?_) ?_) ?_) ?_) ?_) ?_) ?_ <;> exact fun q => absurd q (by decide)
theorem call_oth {u : (Nat → Nat → Int32)} {l r h f i : Nat} (hlr : l ≠ r) (hh : h ≠ r) (hf : khf f = true) (h1 : w_s f * h ≤ i) (h2 : i < w_s f * h + w_s f) : k_call u l r f i = u f i := by
  unfold khf at hf
  rcases (Bool.or_eq_true _ _).mp hf with q | q
  · rcases wf_l q with e | e | e | e | e | e | e | e | e | e | e | e | e | e | e | e | e | e <;> subst e
    · rw [call_ne (by omega)]
    · have h1 : 32 * h ≤ i := h1
      have h2 : i < 32 * h + 32 := h2
      rw [call_16 hlr, if_neg (by omega)]
    · have h1 : 1 * h ≤ i := h1
      have h2 : i < 1 * h + 1 := h2
      rw [call_17 hlr, if_neg (by omega)]
    · have h1 : 7 * h ≤ i := h1
      have h2 : i < 7 * h + 7 := h2
      rw [call_18 hlr, if_neg (by omega)]
    · have h1 : 1 * h ≤ i := h1
      have h2 : i < 1 * h + 1 := h2
      rw [call_20 hlr, if_neg (by omega)]
    · have h1 : 1 * h ≤ i := h1
      have h2 : i < 1 * h + 1 := h2
      rw [call_21 hlr, if_neg (by omega)]
    · have h1 : 1 * h ≤ i := h1
      have h2 : i < 1 * h + 1 := h2
      rw [call_22 hlr, if_neg (by omega)]
    · have h1 : 1 * h ≤ i := h1
      have h2 : i < 1 * h + 1 := h2
      rw [call_23 hlr, if_neg (by omega)]
    · have h1 : 1 * h ≤ i := h1
      have h2 : i < 1 * h + 1 := h2
      rw [call_24 hlr, if_neg (by omega)]
    · have h1 : 1 * h ≤ i := h1
      have h2 : i < 1 * h + 1 := h2
      rw [call_25 hlr, if_neg (by omega)]
    · have h1 : 1 * h ≤ i := h1
      have h2 : i < 1 * h + 1 := h2
      rw [call_26 hlr, if_neg (by omega)]
    · have h1 : 1 * h ≤ i := h1
      have h2 : i < 1 * h + 1 := h2
      rw [call_27 hlr, if_neg (by omega)]
    · have h1 : 1 * h ≤ i := h1
      have h2 : i < 1 * h + 1 := h2
      rw [call_28 hlr, if_neg (by omega)]
    · have h1 : 1 * h ≤ i := h1
      have h2 : i < 1 * h + 1 := h2
      rw [call_29 hlr, if_neg (by omega)]
    · have h1 : 1 * h ≤ i := h1
      have h2 : i < 1 * h + 1 := h2
      rw [call_30 hlr, if_neg (by omega)]
    · have h1 : 64 * h ≤ i := h1
      have h2 : i < 64 * h + 64 := h2
      rw [call_31 hlr, if_neg (by omega)]
    · have h1 : 1 * h ≤ i := h1
      have h2 : i < 1 * h + 1 := h2
      rw [call_33 hlr, if_neg (by omega)]
    · have h1 : 1 * h ≤ i := h1
      have h2 : i < 1 * h + 1 := h2
      rw [call_35 hlr, if_neg (by omega)]
  · have q := of_decide_eq_true q
    rcases (by omega : f = 100 ∨ f = 101 ∨ f = 102 ∨ f = 103 ∨ f = 104) with e | e | e | e | e <;> subst e
    · have h1 : 16 * h ≤ i := h1
      have h2 : i < 16 * h + 16 := h2
      rw [call_100 hlr, if_neg (by omega)]
    · have h1 : 1 * h ≤ i := h1
      have h2 : i < 1 * h + 1 := h2
      rw [call_101 hlr, if_neg (by omega)]
    · have h1 : 4 * h ≤ i := h1
      have h2 : i < 4 * h + 4 := h2
      rw [call_102 hlr, if_neg (by omega)]
    · have h1 : 128 * h ≤ i := h1
      have h2 : i < 128 * h + 128 := h2
      rw [call_103 hlr, if_neg (by omega)]
    · have h1 : 1 * h ≤ i := h1
      have h2 : i < 1 * h + 1 := h2
      rw [call_104 hlr, if_neg (by omega)]
theorem call_e1 {u : (Nat → Nat → Int32)} {l r f i : Nat} (hlr : l ≠ r) (hf : w_f f = true) (h15 : f ≠ 15) (hi : i < v_s f) : k_call u l r f (v_s f * r + i) = u f (v_s f * l + i) := by
  rcases wf_l hf with e | e | e | e | e | e | e | e | e | e | e | e | e | e | e | e | e | e <;> subst e
  · exact absurd rfl h15
  · have hi : i < 32 := hi
    show k_call u l r 16 (32 * r + i) = u 16 (32 * l + i)
    rw [call_16 hlr, if_pos (by omega), show 32 * r + i - 32 * r = i by omega]
  · have hi : i < 1 := hi
    show k_call u l r 17 (1 * r + i) = u 17 (1 * l + i)
    rw [call_17 hlr, if_pos (by omega), show 1 * l + i = l by omega]
  · have hi : i < 7 := hi
    show k_call u l r 18 (7 * r + i) = u 18 (7 * l + i)
    rw [call_18 hlr, if_pos (by omega), show 7 * r + i - 7 * r = i by omega]
  · have hi : i < 1 := hi
    show k_call u l r 20 (1 * r + i) = u 20 (1 * l + i)
    rw [call_20 hlr, if_pos (by omega), show 1 * l + i = l by omega]
  · have hi : i < 1 := hi
    show k_call u l r 21 (1 * r + i) = u 21 (1 * l + i)
    rw [call_21 hlr, if_pos (by omega), show 1 * l + i = l by omega]
  · have hi : i < 1 := hi
    show k_call u l r 22 (1 * r + i) = u 22 (1 * l + i)
    rw [call_22 hlr, if_pos (by omega), show 1 * l + i = l by omega]
  · have hi : i < 1 := hi
    show k_call u l r 23 (1 * r + i) = u 23 (1 * l + i)
    rw [call_23 hlr, if_pos (by omega), show 1 * l + i = l by omega]
  · have hi : i < 1 := hi
    show k_call u l r 24 (1 * r + i) = u 24 (1 * l + i)
    rw [call_24 hlr, if_pos (by omega), show 1 * l + i = l by omega]
  · have hi : i < 1 := hi
    show k_call u l r 25 (1 * r + i) = u 25 (1 * l + i)
    rw [call_25 hlr, if_pos (by omega), show 1 * l + i = l by omega]
  · have hi : i < 1 := hi
    show k_call u l r 26 (1 * r + i) = u 26 (1 * l + i)
    rw [call_26 hlr, if_pos (by omega), show 1 * l + i = l by omega]
  · have hi : i < 1 := hi
    show k_call u l r 27 (1 * r + i) = u 27 (1 * l + i)
    rw [call_27 hlr, if_pos (by omega), show 1 * l + i = l by omega]
  · have hi : i < 1 := hi
    show k_call u l r 28 (1 * r + i) = u 28 (1 * l + i)
    rw [call_28 hlr, if_pos (by omega), show 1 * l + i = l by omega]
  · have hi : i < 1 := hi
    show k_call u l r 29 (1 * r + i) = u 29 (1 * l + i)
    rw [call_29 hlr, if_pos (by omega), show 1 * l + i = l by omega]
  · have hi : i < 1 := hi
    show k_call u l r 30 (1 * r + i) = u 30 (1 * l + i)
    rw [call_30 hlr, if_pos (by omega), show 1 * l + i = l by omega]
  · have hi : i < 64 := hi
    show k_call u l r 31 (64 * r + i) = u 31 (64 * l + i)
    rw [call_31 hlr, if_pos (by omega), show 64 * r + i - 64 * r = i by omega]
  · have hi : i < 1 := hi
    show k_call u l r 33 (1 * r + i) = u 33 (1 * l + i)
    rw [call_33 hlr, if_pos (by omega), show 1 * l + i = l by omega]
  · have hi : i < 1 := hi
    show k_call u l r 35 (1 * r + i) = u 35 (1 * l + i)
    rw [call_35 hlr, if_pos (by omega), show 1 * l + i = l by omega]
theorem call_e2 {u : (Nat → Nat → Int32)} {l r f i : Nat} (hlr : l ≠ r) (h1 : 100 ≤ f) (h2 : f ≤ 104) (hi : i < w_s f) : k_call u l r f (w_s f * r + i) = u f (w_s f * l + i) := by
  rcases (by omega : f = 100 ∨ f = 101 ∨ f = 102 ∨ f = 103 ∨ f = 104) with e | e | e | e | e <;> subst e
  · have hi : i < 16 := hi
    show k_call u l r 100 (16 * r + i) = u 100 (16 * l + i)
    rw [call_100 hlr, if_pos (by omega), show 16 * r + i - 16 * r = i by omega]
  · have hi : i < 1 := hi
    show k_call u l r 101 (1 * r + i) = u 101 (1 * l + i)
    rw [call_101 hlr, if_pos (by omega), show 1 * l + i = l by omega]
  · have hi : i < 4 := hi
    show k_call u l r 102 (4 * r + i) = u 102 (4 * l + i)
    rw [call_102 hlr, if_pos (by omega), show 4 * r + i - 4 * r = i by omega]
  · have hi : i < 128 := hi
    show k_call u l r 103 (128 * r + i) = u 103 (128 * l + i)
    rw [call_103 hlr, if_pos (by omega), show 128 * r + i - 128 * r = i by omega]
  · have hi : i < 1 := hi
    show k_call u l r 104 (1 * r + i) = u 104 (1 * l + i)
    rw [call_104 hlr, if_pos (by omega), show 1 * l + i = l by omega]
theorem SC_call {n pg rm c l r : Nat} {u : (Nat → Nat → Int32)} (hn : n ≤ 4) (h : SC n pg rm c u) (hl : l < n) (hr : r < n) (hlr : l ≠ r) : SC n pg rm c (k_call u l r) := by
  have hb := call_by (l := l) (r := r) h.1.1
  refine ⟨KD_by h.1 hb (fun F hF => call_ne (by omega)), fun t ht => ?_, fun t ht => ?_, KS_nf h.2.2.2 (fun f hf => call_ne (by omega))⟩
  · by_cases q : t = r
    · subst q
      exact KH_copy (by omega) (h.2.1 l hl) hb (fun f i hf h15 hi => call_e1 hlr hf h15 hi) (fun f i h1 h2 hi => call_e2 hlr h1 h2 hi)
    · exact KH_nf (by omega) (h.2.1 t ht) hb (fun f i hf h1 h2 => call_oth hlr q hf h1 h2)
  · rw [call_20 hlr]
    by_cases q : t = r
    · rw [if_pos q]; exact h.2.2.1 l hl
    · rw [if_neg q]; exact h.2.2.1 t ht
theorem SC_mp {n pg rm c l r : Nat} {u : (Nat → Nat → Int32)} (hn : n ≤ 4) (h : SC n pg rm c u) (hl : l < n) (hr : r < n) (hlr : l ≠ r) : SC n pg rm c (k_mp u l r) := by
  have h1 : SC n pg rm c (k_mp1 u l r) := SC_u 113 hn (SC_u 115 hn (SC_u 123 hn (SC_u 122 hn (SC_u 13 hn (SC_fgt hn h) (by decide) (by decide)) (by decide) (by decide)) (by decide) (by decide)) (by decide) (by decide)) (by decide) (by decide)
  exact SC_u 7 hn (SC_u 113 hn (SC_call hn h1 hl hr hlr) (by decide) (by decide)) (by decide) (by decide)
