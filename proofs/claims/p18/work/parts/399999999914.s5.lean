def KS (n rm c : Nat) (u : (Nat → Nat → Int32)) : Prop := u 3 0 = nI rm ∧ nb (u 132 0) (rm - 1) ∧ nb (u 133 0) rm ∧ nb (u 134 0) (rm - 1) ∧ nb (u 135 0) rm ∧ ∀ j, j < n → -(c : Int) ≤ (u 114 j).toInt ∧ (u 114 j).toInt ≤ 32
theorem KS_nf {n rm c : Nat} {u u' : (Nat → Nat → Int32)} (h : KS n rm c u) (e : ∀ f, f = 3 ∨ f = 114 ∨ f = 132 ∨ f = 133 ∨ f = 134 ∨ f = 135 → u' f = u f) : KS n rm c u' := by
  unfold KS
  rw [e 3 (by omega), e 114 (by omega), e 132 (by omega), e 133 (by omega), e 134 (by omega), e 135 (by omega)]
  exact h
theorem KS_up {n rm c d : Nat} {u : (Nat → Nat → Int32)} (h : KS n rm c u) (hc : c ≤ d) : KS n rm d u :=
  ⟨h.1, h.2.1, h.2.2.1, h.2.2.2.1, h.2.2.2.2.1, fun j hj => ⟨by have := (h.2.2.2.2.2 j hj).1; omega, (h.2.2.2.2.2 j hj).2⟩⟩
def SC (n pg rm c : Nat) (u : (Nat → Nat → Int32)) : Prop := KD n u ∧ (∀ j, j < n → KH pg j u) ∧ (∀ j, j < n → u 20 j = 0 ∨ u 20 j = 1) ∧ KS n rm c u
theorem SC_up {n pg rm c d : Nat} {u : (Nat → Nat → Int32)} (h : SC n pg rm c u) (hc : c ≤ d) : SC n pg rm d u := ⟨h.1, h.2.1, h.2.2.1, KS_up h.2.2.2 hc⟩
theorem SC_ks {n pg rm c d : Nat} {u u' : (Nat → Nat → Int32)} (hn : n ≤ 4) (h : SC n pg rm c u) (hk : KD n u') (e : ∀ f, (15 ≤ f ∧ f ≤ 35) ∨ (100 ≤ f ∧ f ≤ 104) → u' f = u f) (hp : KS n rm d u') : SC n pg rm d u' :=
  ⟨hk, fun j hj => KH_ff (by omega) (h.2.1 j hj) hk.1 (fun f hf => e f hf), fun j hj => by rw [e 20 (by omega)]; exact h.2.2.1 j hj, hp⟩
theorem SC_nf {n pg rm c : Nat} {u u' : (Nat → Nat → Int32)} (hn : n ≤ 4) (h : SC n pg rm c u) (hk : KD n u') (e : ∀ f, (15 ≤ f ∧ f ≤ 35) ∨ (100 ≤ f ∧ f ≤ 104) ∨ f = 3 ∨ f = 114 ∨ f = 132 ∨ f = 133 ∨ f = 134 ∨ f = 135 → u' f = u f) : SC n pg rm c u' :=
  SC_ks hn h hk (fun f hf => e f (by omega)) (KS_nf h.2.2.2 (fun f hf => e f (by omega)))
theorem putl_BY {u : (Nat → Nat → Int32)} {A : Nat} {v : Int64} (h : BY u) : ∀ i, BY (m_putl u A v i)
  | 0 => h
  | i + 1 => by unfold m_putl; exact (putl_BY h i).u2 (fun _ => byt_n _)
theorem SC_put {n pg rm c A : Nat} {u : (Nat → Nat → Int32)} {v : Int64} (hn : n ≤ 4) (h : SC n pg rm c u) : SC n pg rm c (m_putl u A v 8) :=
  SC_nf hn h (KD_by h.1 (putl_BY h.1.1 8) (fun F hF => m_putl_ne (by omega) 8)) (fun f hf => m_putl_ne (by omega) 8)
theorem SC_boot {n pg rm c : Nat} {u : (Nat → Nat → Int32)} (hn : n ≤ 4) (h : SC n pg rm c u) : SC n pg rm c (k_bootS u pg) := by
  obtain ⟨hk, hh, hz, hs⟩ := h
  have e : ∀ f, f ≠ 5 → f ≠ 7 → f ≠ 15 → k_bootS u pg f = u f := fun f h1 h2 h3 => by unfold k_bootS; rw [k_cp_ne h3, u2_ne h2, u2_ne h1]
  have hb : BY (k_bootS u pg) := ((hk.1.u2 (fun q => absurd q (by decide))).u2 (fun q => absurd q (by decide))).cp (fun _ => rfl)
  exact ⟨KD_by hk hb (fun F hF => e F (by omega) (by omega) (by omega)), fun j hj => KH_mem (by omega) (hh j hj) hb (fun f hf => e f (by omega) (by omega) (by omega)), fun j hj => by rw [e 20 (by decide) (by decide) (by decide)]; exact hz j hj, KS_nf hs (fun f hf => e f (by omega) (by omega) (by omega))⟩
theorem k_rcv_n2 {u : (Nat → Nat → Int32)} {pg j F : Nat} {kd vl : Int32} {bo : Option (Nat × (Nat → Int32))} (h : F ≠ 33 ∧ F ≠ 100 ∧ F ≠ 35 ∧ F ≠ 102 ∧ F ≠ 103 ∧ F ≠ 21 ∧ F ≠ 27 ∧ F ≠ 15 ∧ F ≠ 105) : k_rcv u pg j kd vl bo F = u F := by
  obtain ⟨h1, h2, h3, h4, h5, h6, h7, h8, h9⟩ := h
  unfold k_rcv
  by_cases e1 : kd = 1
  · rw [if_pos e1]
    by_cases f1 : cl (u 33 j) = 16
    · rw [if_pos f1]
    · rw [if_neg f1]; unfold k_appK; rw [u2_ne h1, u2_ne h2]
  rw [if_neg e1]
  by_cases e2 : kd = 2
  · rw [if_pos e2]
    cases bo with
    | none => rfl
    | some q =>
      obtain ⟨N, f⟩ := q
      show (if cl (u 35 j) = 4 then u else k_apP u j (cl (u 104 j)) (cl (u 35 j)) N f) F = _
      by_cases f1 : cl (u 35 j) = 4
      · rw [if_pos f1]
      · rw [if_neg f1, k_apP_ne ⟨h3, h4, h5⟩]
  rw [if_neg e2]
  by_cases e3 : kd = 3
  · rw [if_pos e3, u2_ne h6]
  rw [if_neg e3]
  by_cases e4 : kd = 4
  · rw [if_pos e4]
    cases bo with
    | none => show u2 u 27 j 2 F = _; rw [u2_ne h7]
    | some q =>
      obtain ⟨N, f⟩ := q
      show k_fin u pg j f F = _
      rw [k_fin_ne ⟨h7, h8, h9⟩]
  rw [if_neg e4]
theorem SC_rcv {n pg rm c j : Nat} {u : (Nat → Nat → Int32)} {d : ED} (hn : n ≤ 4) (hp : pg ≤ 16) (h : SC n pg rm c u) (hj : j < n) (ek : EK d) : SC n pg rm c (k_rcv u pg j d.1 d.2.1 d.2.2.1) := by
  obtain ⟨q1, q2⟩ := KH_rcv (h.2.1 j hj) hp (by omega) ek
  have hk := KD_rcv (pg := pg) (j := j) (vl := d.2.1) h.1 ek.bo
  refine ⟨hk, fun t ht => ?_, fun t ht => ?_, KS_nf h.2.2.2 (fun f hf => k_rcv_n2 (by omega))⟩
  · by_cases e : t = j
    · subst e; exact q1
    · exact KH_F (by omega) (h.2.1 t ht) q2 e hk.1
  · rw [k_rcv_n2 (by decide)]; exact h.2.2.1 t ht
theorem i_inc {x : Int32} {b : Int} (h : x.toInt < b) (hb : b ≤ 1000) : (x + 1).toInt = x.toInt + 1 := by
  have h1 := Int32.le_toInt x
  rw [Int32.toInt_add]
  show (x.toInt + 1).bmod (2 ^ 32) = _
  exact Int.bmod_eq_of_le (by omega) (by omega)
theorem i_dec {x : Int32} (h : -100000 ≤ x.toInt) : (x - 1).toInt = x.toInt - 1 := by
  have h1 := Int32.toInt_lt x
  rw [Int32.toInt_sub]
  show (x.toInt - 1).bmod (2 ^ 32) = _
  exact Int.bmod_eq_of_le (by omega) (by omega)
theorem room_lt {n rm c j : Nat} {u : (Nat → Nat → Int32)} (h : KS n rm c u) (hr : rm ≤ 32) (h115 : ¬ u 115 j = 0) (hm : k_room u j = true) : (u 114 j).toInt < 32 := by
  unfold k_room at hm
  have hm : ¬ (¬ u 115 j = 0 ∧ u 3 0 ≤ u 114 j) := fun q => by rw [show decide (¬ u 115 j = 0 ∧ u 3 0 ≤ u 114 j) = true from decide_eq_true q] at hm; exact absurd hm (by decide)
  have q : ¬ u 3 0 ≤ u 114 j := fun q => hm ⟨h115, q⟩
  rw [h.1] at q
  rw [Int32.le_iff_toInt_le] at q
  have e : (nI rm).toInt = rm := by
    rcases (by omega : rm = 0 ∨ rm = 1 ∨ rm = 2 ∨ rm = 3 ∨ rm = 4 ∨ rm = 5 ∨ rm = 6 ∨ rm = 7 ∨ rm = 8 ∨ rm = 9 ∨ rm = 10 ∨ rm = 11 ∨ rm = 12 ∨ rm = 13 ∨ rm = 14 ∨ rm = 15 ∨ rm = 16 ∨ rm = 17 ∨ rm = 18 ∨ rm = 19 ∨ rm = 20 ∨ rm = 21 ∨ rm = 22 ∨ rm = 23 ∨ rm = 24 ∨ rm = 25 ∨ rm = 26 ∨ rm = 27 ∨ rm = 28 ∨ rm = 29 ∨ rm = 30 ∨ rm = 31 ∨ rm = 32) with e | e | e | e | e | e | e | e | e | e | e | e | e | e | e | e | e | e | e | e | e | e | e | e | e | e | e | e | e | e | e | e | e <;> subst e <;> rfl
  rw [e] at q
  omega
theorem ic_ne {u : (Nat → Nat → Int32)} {rm j f : Nat} (h1 : f ≠ 114) (h2 : f ≠ 133) : k_icS u rm j f = u f := by
  unfold k_icS
  by_cases q : u 116 j = 0 ∧ ¬ cl (u 133 0) = rm
  · rw [if_pos q, u2_ne h2, u2_ne h1]
  · rw [if_neg q, u2_ne h1]
theorem ic_114 {u : (Nat → Nat → Int32)} {rm j : Nat} : k_icS u rm j 114 = u2 u 114 j (u 114 j + 1) 114 := by
  unfold k_icS
  by_cases q : u 116 j = 0 ∧ ¬ cl (u 133 0) = rm
  · rw [if_pos q, u2_ne (by decide)]
  · rw [if_neg q]
theorem ic_133 {u : (Nat → Nat → Int32)} {rm j : Nat} : k_icS u rm j 133 0 = if u 116 j = 0 ∧ ¬ cl (u 133 0) = rm then nI (cl (u 133 0) + 1) else u 133 0 := by
  unfold k_icS
  by_cases q : u 116 j = 0 ∧ ¬ cl (u 133 0) = rm
  · rw [if_pos q, if_pos q, u2_ss, nIv_inc]
  · rw [if_neg q, if_neg q, u2_ne (by decide)]
theorem SC_ic {n pg rm c j : Nat} {u : (Nat → Nat → Int32)} (hn : n ≤ 4) (hr : rm ≤ 32) (h : SC n pg rm c u) (hm : (u 114 j).toInt < 32) : SC n pg rm c (k_icS u rm j) := by
  obtain ⟨s1, s2, s3, s4, s5, s6⟩ := h.2.2.2
  refine SC_ks hn h (KD_nf h.1 (fun F hF => ?_)) (fun f hf => ic_ne (by omega) (by omega)) ⟨by rw [ic_ne (by decide) (by decide)]; exact s1, by rw [ic_ne (by decide) (by decide)]; exact s2, ?_, by rw [ic_ne (by decide) (by decide)]; exact s4, by rw [ic_ne (by decide) (by decide)]; exact s5, fun t ht => ?_⟩
  · rcases hF with q | q
    · have := bya_r q; exact ic_ne (by omega) (by omega)
    · exact ic_ne (by omega) (by omega)
  · rw [ic_133]
    by_cases q : u 116 j = 0 ∧ ¬ cl (u 133 0) = rm
    · rw [if_pos q]; exact nb_n (by have := s3.2; omega) (by omega)
    · rw [if_neg q]; exact s3
  · rw [ic_114]
    obtain ⟨p1, p2⟩ := s6 t ht
    by_cases q : t = j
    · subst q; rw [u2_ss, i_inc hm (by decide)]; exact ⟨by omega, by omega⟩
    · rw [u2_sn q]; exact ⟨p1, p2⟩
theorem SC_br {n pg rm c j : Nat} {u : (Nat → Nat → Int32)} {d : ED} (hn : n ≤ 4) (hp : pg ≤ 16) (hr : rm ≤ 32) (h : SC n pg rm c u) (hj : j < n) (ek : EK d) (hm : k_room u j = true) : SC n pg rm c (k_brS u pg rm j d.1 d.2.1 d.2.2.1) := by
  unfold k_brS
  have hq := SC_rcv hn hp h hj ek
  by_cases q : u 115 j = 0
  · rw [if_pos q]; exact hq
  · rw [if_neg q]
    exact SC_ic hn hr hq (by rw [k_rcv_n2 (by decide)]; exact room_lt h.2.2.2 hr q hm)
