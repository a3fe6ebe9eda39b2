theorem KD_u {n f i : Nat} {u : (Nat → Nat → Int32)} {v : Int32} (h : KD n u) (hf : bya f = false ∧ f ≠ 124 ∧ f ≠ 125 ∧ f ≠ 72 ∧ f ≠ 112 ∧ f ≠ 38 ∧ f ≠ 118) : KD n (u2 u f i v) :=
  KD_nf h (fun F hF => u2_ne (by
    rintro rfl
    rcases hF with q | q | q | q | q | q | q
    · rw [hf.1] at q; cases q
    · exact hf.2.1 q
    · exact hf.2.2.1 q
    · exact hf.2.2.2.1 q
    · exact hf.2.2.2.2.1 q
    · exact hf.2.2.2.2.2.1 q
    · exact hf.2.2.2.2.2.2 q))
theorem SC_u {n pg rm c i : Nat} {u : (Nat → Nat → Int32)} {v : Int32} (f : Nat) (hn : n ≤ 4) (h : SC n pg rm c u) (hf : bya f = false ∧ f ≠ 124 ∧ f ≠ 125 ∧ f ≠ 72 ∧ f ≠ 112 ∧ f ≠ 38 ∧ f ≠ 118) (h2 : ¬ (15 ≤ f ∧ f ≤ 35) ∧ ¬ (100 ≤ f ∧ f ≤ 104) ∧ f ≠ 3 ∧ f ≠ 114 ∧ ¬ (132 ≤ f ∧ f ≤ 135)) : SC n pg rm c (u2 u f i v) :=
  SC_nf hn h (KD_u h.1 hf) (fun F hF => u2_ne (by omega))
theorem SC_la {n pg rm c j : Nat} {u : (Nat → Nat → Int32)} (hn : n ≤ 4) (h : SC n pg rm c u) (hj : j < n) : SC n pg rm c (k_la u j) := SC_nf hn h (KD_la h.1 hj) (fun f hf => k_la_ne (by omega) (by omega))
theorem SC_dap {n pg rm c j : Nat} {u : (Nat → Nat → Int32)} (hn : n ≤ 4) (h : SC n pg rm c u) : SC n pg rm c (k_dap u j) := SC_nf hn h (KD_dap h.1) (fun f hf => k_dap_ne (by omega))
theorem SC_lv {n pg rm c j : Nat} {u : (Nat → Nat → Int32)} {kd ln : Int32} {g : Nat → Int32} (hn : n ≤ 4) (h : SC n pg rm c u) : SC n pg rm c (k_lv u j kd ln g) := SC_nf hn h (KD_lv h.1) (fun f hf => k_lv_ne (by omega) (by omega))
theorem SC_drop {n pg rm c j f k g : Nat} {u : (Nat → Nat → Int32)} (hn : n ≤ 4) (h : SC n pg rm c u) (hk : k ≤ 64) : SC n pg rm c (k_drop u j f k g) := SC_nf hn h (KD_drop h.1 hk) (fun f hf => k_drop_ne (by omega) (by omega))
theorem SC_keep {n pg rm c j : Nat} {u : (Nat → Nat → Int32)} (hn : n ≤ 4) (h : SC n pg rm c u) (h107 : nb (u 107 j) 32) (hj : j < n) : SC n pg rm c (k_kp u j) := SC_nf hn h (KD_kp h.1 h107 hj) (fun f hf => k_kp_ne (by omega))
theorem nby {F : Nat} (h : bya F = true ∨ F = 124 ∨ F = 125 ∨ F = 72 ∨ F = 112 ∨ F = 38 ∨ F = 118) : F = 6 ∨ F = 15 ∨ F = 31 ∨ F = 64 ∨ F = 103 ∨ F = 108 ∨ F = 119 ∨ F = 131 ∨ F = 124 ∨ F = 125 ∨ F = 72 ∨ F = 112 ∨ F = 38 ∨ F = 118 := by
  rcases h with q | q
  · have := bya_r q; omega
  · omega
theorem SC_lvP {n pg rm c j : Nat} {u : (Nat → Nat → Int32)} (hn : n ≤ 4) (h : SC n pg rm c u) : SC n pg rm c (k_lvP u j) := by
  obtain ⟨s1, s2, s3, s4, s5, s6⟩ := h.2.2.2
  refine SC_ks hn h (KD_nf h.1 (fun F hF => k_lvP_ne (by have := nby hF; omega))) (fun f hf => k_lvP_ne (by omega)) ⟨by rw [k_lvP_ne (by omega)]; exact s1, by rw [k_lvP_ne (by omega)]; exact s2, by rw [k_lvP_ne (by omega)]; exact s3, by rw [k_lvP_ne (by omega)]; exact s4, by rw [k_lvP_ne (by omega)]; exact s5, fun t ht => ?_⟩
  have e : k_lvP u j 114 t = if t = j then 0 else u 114 t := by
    unfold k_lvP
    rw [u2_ne (by decide)]
    by_cases q : t = j
    · rw [if_pos q, q, u2_ss]
    · rw [if_neg q, u2_sn q, u2_ne (by decide), u2_ne (by decide)]
  rw [e]
  by_cases q : t = j
  · rw [if_pos q]; exact ⟨by show -(c : Int) ≤ 0; omega, by decide⟩
  · rw [if_neg q]; exact s6 t ht
theorem fgt_ne {u : (Nat → Nat → Int32)} {F : Nat} (h : F ≠ 122 ∧ F ≠ 123 ∧ (F < 132 ∨ 135 < F)) : k_fgt u F = u F := k_fgt_ne h
theorem fgt_0 {u : (Nat → Nat → Int32)} {F : Nat} (h : F = 132 ∨ F = 133 ∨ F = 134 ∨ F = 135) : k_fgt u F 0 = 0 := by
  unfold k_fgt
  rw [u2_ne (by omega), u2_ne (by omega)]
  rcases h with e | e | e | e <;> subst e
  · rw [u2_ne (by decide), u2_ne (by decide), u2_ne (by decide), u2_ss]
  · rw [u2_ne (by decide), u2_ne (by decide), u2_ss]
  · rw [u2_ne (by decide), u2_ss]
  · rw [u2_ss]
theorem SC_fgt {n pg rm c : Nat} {u : (Nat → Nat → Int32)} (hn : n ≤ 4) (h : SC n pg rm c u) : SC n pg rm c (k_fgt u) := by
  obtain ⟨s1, s2, s3, s4, s5, s6⟩ := h.2.2.2
  refine SC_ks hn h (KD_nf h.1 (fun F hF => fgt_ne (by have := nby hF; omega))) (fun f hf => fgt_ne (by omega)) ⟨by rw [fgt_ne (by omega)]; exact s1, ?_, ?_, ?_, ?_, by rw [fgt_ne (by omega)]; exact s6⟩
  · rw [fgt_0 (by omega)]; exact nb_0
  · rw [fgt_0 (by omega)]; exact nb_0
  · rw [fgt_0 (by omega)]; exact nb_0
  · rw [fgt_0 (by omega)]; exact nb_0
theorem SC_gi {n pg rm c j : Nat} {u : (Nat → Nat → Int32)} (hn : n ≤ 4) (h : SC n pg rm c u) (hj : j < n) : SC n pg rm c (k_gi u j) := by
  unfold k_gi
  by_cases q : u 7 j = 3 ∧ u 121 j = 0
  · rw [if_pos q]
    have h1 : SC n pg rm c (k_go1 u j) := SC_lvP hn (SC_u 7 hn h (by decide) (by decide))
    unfold k_go
    by_cases r : k_kop (k_go1 u j) j (cl (u 112 j)) (cl (u 38 j)) = false ∧ u 27 j = 1
    · rw [if_pos r]; exact SC_dap hn (SC_la hn h1 hj)
    · rw [if_neg r]; exact SC_la hn h1 hj
  · rw [if_neg q]; exact h
theorem SC_stop {n pg rm c j f k : Nat} {u : (Nat → Nat → Int32)} {v : Int32} (hn : n ≤ 4) (h : SC n pg rm c u) (hk : k ≤ 64) : SC n pg rm c (k_stop u j f k v) :=
  SC_drop hn (SC_u 121 hn (SC_u 120 hn (SC_lvP hn (SC_u 10 hn (SC_u 7 hn h (by decide) (by decide)) (by decide) (by decide))) (by decide) (by decide)) (by decide) (by decide)) hk
theorem SC_dl {n pg rm c j : Nat} {u : (Nat → Nat → Int32)} (hn : n ≤ 4) (hr : rm ≤ 32) (hr1 : 1 ≤ rm) (h : SC n pg rm c u) : SC n pg rm c (k_dl u rm j) := by
  obtain ⟨s1, s2, s3, s4, s5, s6⟩ := h.2.2.2
  have e : ∀ F, F ≠ 132 → F ≠ 133 → F ≠ 121 → F ≠ 135 → k_dl u rm j F = u F := fun F h1 h2 h3 h4 => by
    unfold k_dl k_dl1
    by_cases q : cl (u 135 0) = rm
    · rw [if_pos q, u2_ne h3, u2_ne h2, u2_ne h1]
    · rw [if_neg q, u2_ne h4, u2_ne h3, u2_ne h2, u2_ne h1]
  have e1 : ∀ F, F ≠ 135 → k_dl u rm j F = k_dl1 u rm j F := fun F h4 => by
    unfold k_dl
    by_cases q : cl (u 135 0) = rm
    · rw [if_pos q]
    · rw [if_neg q, u2_ne h4]
  refine SC_ks hn h (KD_nf h.1 (fun F hF => by have := nby hF; exact e F (by omega) (by omega) (by omega) (by omega))) (fun f hf => e f (by omega) (by omega) (by omega) (by omega)) ⟨by rw [e 3 (by decide) (by decide) (by decide) (by decide)]; exact s1, ?_, ?_, by rw [e 134 (by decide) (by decide) (by decide) (by decide)]; exact s4, ?_, by rw [e 114 (by decide) (by decide) (by decide) (by decide)]; exact s6⟩
  · rw [e1 132 (by decide)]; unfold k_dl1
    rw [u2_ne (by decide), u2_ne (by decide), u2_ss]
    exact nb_n (by have := k_wr_lt (L := rm) (x := cl (u 132 0) + 1) (by have := s2.2; omega); omega) (by omega)
  · rw [e1 133 (by decide)]; unfold k_dl1
    rw [u2_ne (by decide), u2_ss]
    exact nb_n (by have := s3.2; omega) (by omega)
  · unfold k_dl
    by_cases q : cl (u 135 0) = rm
    · rw [if_pos q]; unfold k_dl1; rw [u2_ne (by decide), u2_ne (by decide), u2_ne (by decide)]; exact s5
    · rw [if_neg q, u2_ss, nIv_inc]; exact nb_n (by have := s5.2; omega) (by omega)
theorem SC_ak1 {n pg rm c j : Nat} {u : (Nat → Nat → Int32)} (hn : n ≤ 4) (hr : rm ≤ 32) (hr1 : 1 ≤ rm) (hc : c ≤ 1000) (h : SC n pg rm c u) : SC n pg rm (c + 1) (k_ak1 u rm j) := by
  obtain ⟨s1, s2, s3, s4, s5, s6⟩ := h.2.2.2
  refine SC_ks hn h (KD_ak1 h.1) (fun f hf => k_ak1_ne (by omega)) ⟨by rw [k_ak1_ne (by decide)]; exact s1, by rw [k_ak1_ne (by decide)]; exact s2, by rw [k_ak1_ne (by decide)]; exact s3, ?_, ?_, fun t ht => ?_⟩
  · unfold k_ak1; rw [u2_ne (by decide), u2_ne (by decide), u2_ss]
    exact nb_n (by have := k_wr_lt (L := rm) (x := cl (u 134 0) + 1) (by have := s4.2; omega); omega) (by omega)
  · unfold k_ak1; rw [u2_ne (by decide), u2_ss]; exact nb_n (by have := s5.2; omega) (by omega)
  · unfold k_ak1
    obtain ⟨p1, p2⟩ := s6 t ht
    by_cases q : t = j
    · subst q; rw [u2_ss, i_dec (by omega)]; exact ⟨by omega, by omega⟩
    · rw [u2_sn q, u2_ne (by decide), u2_ne (by decide)]; exact ⟨by omega, p2⟩
theorem SC_ak {n pg rm c j : Nat} {u : (Nat → Nat → Int32)} {kd : Int32} (hn : n ≤ 4) (hr : rm ≤ 32) (hr1 : 1 ≤ rm) (hc : c ≤ 1000) (h : SC n pg rm c u) (hj : j < n) : SC n pg rm (c + 1) (k_ak u rm j kd) := by
  unfold k_ak
  have h1 := SC_ak1 (j := j) hn hr hr1 hc h
  by_cases q : kd = 0 ∧ ¬ cl (u 38 j) = 0
  · rw [if_pos q]; exact SC_drop hn (SC_lv hn h1) ((h.1.2.2.2.2 j hj).2.1.2)
  · rw [if_neg q]; exact h1
theorem all_ne {u : (Nat → Nat → Int32)} {j F : Nat} (h : F ≠ 105) : ∀ i, k_all u j i F = u F
  | 0 => rfl
  | i + 1 => by rw [k_all, u2_ne h, all_ne h i]
theorem SC_prot {n pg rm c j l : Nat} {u : (Nat → Nat → Int32)} (hn : n ≤ 4) (h : SC n pg rm c u) : SC n pg rm c (u2 (k_all (u2 u 7 j 4) l pg) 62 0 0) := by
  refine SC_u 62 hn (SC_nf hn (SC_u (i := j) (v := 4) 7 hn h (by decide) (by decide)) ?_ (fun f hf => all_ne (by omega) pg)) (by decide) (by decide)
  exact KD_nf (KD_u h.1 (by decide)) (fun F hF => all_ne (by have := nby hF; omega) pg)
theorem SC_send {n pg rm c l r p : Nat} {u : (Nat → Nat → Int32)} (hn : n ≤ 4) (h : SC n pg rm c u) : SC n pg rm c (u2 (k_send u l r p) 62 0 (u 62 0 + 1)) := by
  have e : ∀ F, F ≠ 15 → F ≠ 105 → F ≠ 62 → u2 (k_send u l r p) 62 0 (u 62 0 + 1) F = u F := fun F h1 h2 h3 => by unfold k_send; rw [u2_ne h3, u2_ne h2, k_cp_ne h1]
  have hb : BY (u2 (k_send u l r p) 62 0 (u 62 0 + 1)) := ((h.1.1.cp (fun _ => rfl)).u2 (fun q => absurd q (by decide))).u2 (fun q => absurd q (by decide))
  exact ⟨KD_by h.1 hb (fun F hF => e F (by omega) (by omega) (by omega)), fun j hj => KH_mem (by omega) (h.2.1 j hj) hb (fun f hf => e f (by omega) (by omega) (by omega)), fun j hj => by rw [e 20 (by decide) (by decide) (by decide)]; exact h.2.2.1 j hj, KS_nf h.2.2.2 (fun f hf => e f (by omega) (by omega) (by omega))⟩
theorem SC_co {n pg rm c : Nat} {u : (Nat → Nat → Int32)} (hn : n ≤ 4) (h : SC n pg rm c u) : SC n pg rm c (k_co u) := by
  have e : ∀ F, F ≠ 124 → F ≠ 125 → F ≠ 64 → k_co u F = u F := fun F h1 h2 h3 => by
    unfold k_co
    by_cases q : u 126 (cl (u 124 0)) = 1
    · rw [if_pos q, k_co1_ne ⟨h1, h2⟩]
    · rw [if_neg q, k_cp_ne h3, k_co1_ne ⟨h1, h2⟩]
  have hb1 : BY (k_co1 u) := (h.1.1.u2 (fun q => absurd q (by decide))).u2 (fun q => absurd q (by decide))
  have hb : BY (k_co u) := by
    unfold k_co
    by_cases q : u 126 (cl (u 124 0)) = 1
    · rw [if_pos q]; exact hb1
    · rw [if_neg q]; exact hb1.cp (fun _ => rfl)
  have e1 : ∀ F, F ≠ 64 → k_co u F = k_co1 u F := fun F h3 => by
    unfold k_co
    by_cases q : u 126 (cl (u 124 0)) = 1
    · rw [if_pos q]
    · rw [if_neg q, k_cp_ne h3]
  obtain ⟨a1, a2, a3, a4, a5⟩ := h.1
  refine SC_nf hn h ⟨hb, ?_, ?_, by rw [e 72 (by decide) (by decide) (by decide)]; exact a4, by rw [e 112 (by decide) (by decide) (by decide), e 38 (by decide) (by decide) (by decide), e 118 (by decide) (by decide) (by decide)]; exact a5⟩ (fun f hf => e f (by omega) (by omega) (by omega))
  · rw [e1 124 (by decide)]; unfold k_co1; rw [u2_ne (by decide), u2_ss]; exact nb_n (by omega) (by decide)
  · rw [e1 125 (by decide)]; unfold k_co1; rw [u2_ss]; exact nb_n (by have := a3.2; omega) (by decide)
