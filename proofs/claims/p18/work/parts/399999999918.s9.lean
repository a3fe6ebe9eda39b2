def EA (ca : Nat → Nat → Nat) (n : Nat) (h : xH) (a : Nat) (d : ED) : Prop := EN ca n h a d ∧ EK d
theorem EA.cx {ca : Nat → Nat → Nat} {n a : Nat} {h h' : xH} {d : ED} (H : EA ca n h a d) (f : CX ca n h h') : EA ca n h' a d := ⟨H.1.cx f, H.2⟩
theorem EA.ne {ca : Nat → Nat → Nat} {n a b : Nat} {h : xH} {d : ED} (H : EA ca n h a d) (hb : h b = none) : a ≠ b := by
  rintro rfl
  obtain ⟨⟨⟨-, bv, e, -⟩, -⟩, -⟩ := H
  rw [hb] at e; cases e
def QC (ca : Nat → Nat → Nat) (n : Nat) (h : xH) (ε : Nat → ED) (ρ : Nat → Nat → Option Nat) (q L f z : Nat) : Prop := ∀ i, i < z → ∃ a, ρ q (k_wr L (f + i)) = some a ∧ EA ca n h a (ε a)
def QQ (ca : Nat → Nat → Nat) (n rm : Nat) (h : xH) (ε : Nat → ED) (ρ : Nat → Nat → Option Nat) (u : (Nat → Nat → Int32)) : Prop := (∀ j, j < n → nb (u 120 j) 511 ∧ nb (u 121 j) 512 ∧ QC ca n h ε ρ j 512 (cl (u 120 j)) (cl (u 121 j))) ∧ QC ca n h ε ρ 4 rm (cl (u 132 0)) (cl (u 133 0)) ∧ QC ca n h ε ρ 5 rm (cl (u 134 0)) (cl (u 135 0))
theorem QC.mo {ca : Nat → Nat → Nat} {n q L f z : Nat} {h h' : xH} {ε : Nat → ED} {ρ : Nat → Nat → Option Nat} (H : QC ca n h ε ρ q L f z) (m : ∀ a d, EA ca n h a d → EA ca n h' a d) : QC ca n h' ε ρ q L f z := fun i hi => by
  obtain ⟨a, e, x⟩ := H i hi
  exact ⟨a, e, m _ _ x⟩
theorem QQ.mo {ca : Nat → Nat → Nat} {n rm : Nat} {h h' : xH} {ε : Nat → ED} {ρ : Nat → Nat → Option Nat} {u : (Nat → Nat → Int32)} (H : QQ ca n rm h ε ρ u) (m : ∀ a d, EA ca n h a d → EA ca n h' a d) : QQ ca n rm h' ε ρ u :=
  ⟨fun j hj => ⟨(H.1 j hj).1, (H.1 j hj).2.1, (H.1 j hj).2.2.mo m⟩, H.2.1.mo m, H.2.2.mo m⟩
theorem QQ.cx {ca : Nat → Nat → Nat} {n rm : Nat} {h h' : xH} {ε : Nat → ED} {ρ : Nat → Nat → Option Nat} {u : (Nat → Nat → Int32)} (H : QQ ca n rm h ε ρ u) (f : CX ca n h h') : QQ ca n rm h' ε ρ u := H.mo (fun _ _ x => x.cx f)
theorem QQ.nf {ca : Nat → Nat → Nat} {n rm : Nat} {h : xH} {ε : Nat → ED} {ρ : Nat → Nat → Option Nat} {u u' : (Nat → Nat → Int32)} (H : QQ ca n rm h ε ρ u) (e : ∀ f, f = 120 ∨ f = 121 ∨ f = 132 ∨ f = 133 ∨ f = 134 ∨ f = 135 → u' f = u f) : QQ ca n rm h ε ρ u' := by
  unfold QQ
  rw [e 120 (by omega), e 121 (by omega), e 132 (by omega), e 133 (by omega), e 134 (by omega), e 135 (by omega)]
  exact H
theorem QQ.I {ca : Nat → Nat → Nat} {n rm j : Nat} {h : xH} {ε : Nat → ED} {ρ : Nat → Nat → Option Nat} {u : (Nat → Nat → Int32)} (H : QQ ca n rm h ε ρ u) (hj : j < n) : QI ca n h ε ρ u j :=
  ⟨(H.1 j hj).1, (H.1 j hj).2.1, fun i hi => by
    obtain ⟨a, e, x⟩ := (H.1 j hj).2.2 i hi
    exact ⟨a, e, x.1⟩⟩
def eu (ε : Nat → ED) (a : Nat) (d : ED) : Nat → ED := fun x => if x = a then d else ε x
theorem eu_s {ε : Nat → ED} {a : Nat} {d : ED} : eu ε a d a = d := if_pos rfl
theorem eu_n {ε : Nat → ED} {a x : Nat} {d : ED} (h : x ≠ a) : eu ε a d x = ε x := if_neg h
theorem QC.eu {ca : Nat → Nat → Nat} {n q L f z b : Nat} {h : xH} {ε : Nat → ED} {ρ : Nat → Nat → Option Nat} {d : ED} (H : QC ca n h ε ρ q L f z) (hb : h b = none) : QC ca n h (eu ε b d) ρ q L f z := fun i hi => by
  obtain ⟨a, e, x⟩ := H i hi
  exact ⟨a, e, by rw [eu_n (x.ne hb)]; exact x⟩
theorem QQ.eu {ca : Nat → Nat → Nat} {n rm b : Nat} {h : xH} {ε : Nat → ED} {ρ : Nat → Nat → Option Nat} {u : (Nat → Nat → Int32)} {d : ED} (H : QQ ca n rm h ε ρ u) (hb : h b = none) : QQ ca n rm h (eu ε b d) ρ u :=
  ⟨fun j hj => ⟨(H.1 j hj).1, (H.1 j hj).2.1, (H.1 j hj).2.2.eu hb⟩, H.2.1.eu hb, H.2.2.eu hb⟩
theorem wr_ne {L f i z : Nat} (hf : f < L) (hi : i < z) (hz : z < L) : k_wr L (f + i) ≠ k_wr L (f + z) := by
  unfold k_wr
  by_cases q : f + i < L
  · rw [if_pos q]
    by_cases r : f + z < L
    · rw [if_pos r]; omega
    · rw [if_neg r]; omega
  · rw [if_neg q, if_neg (by omega)]; omega
theorem wr_adv {L f i : Nat} (hf : f < L) (hi : i + 1 < L + 1) : k_wr L (k_wr L (f + 1) + i) = k_wr L (f + (i + 1)) := by
  by_cases q : f + 1 < L
  · rw [show k_wr L (f + 1) = f + 1 from if_pos q, show f + 1 + i = f + (i + 1) by omega]
  · rw [show k_wr L (f + 1) = f + 1 - L from if_neg q, show f + 1 - L + i = i by omega]
    unfold k_wr
    by_cases r : i < L
    · rw [if_pos r, if_neg (by omega)]; omega
    · omega
theorem QC.push {ca : Nat → Nat → Nat} {n q L f z a : Nat} {h : xH} {ε : Nat → ED} {ρ : Nat → Nat → Option Nat} (H : QC ca n h ε ρ q L f z) (hf : f < L) (hz : z < L) (x : EA ca n h a (ε a)) : QC ca n h ε (r2 ρ q (k_wr L (f + z)) (some a)) q L f (z + 1) := fun i hi => by
  by_cases e : i = z
  · subst e; exact ⟨a, r2_ss, x⟩
  · obtain ⟨b, g, y⟩ := H i (by omega)
    exact ⟨b, by rw [r2_sn (wr_ne hf (by omega) hz)]; exact g, y⟩
theorem QC.oth {ca : Nat → Nat → Nat} {n q L f z k i : Nat} {h : xH} {ε : Nat → ED} {ρ : Nat → Nat → Option Nat} {o : Option Nat} (H : QC ca n h ε ρ q L f z) (hk : q ≠ k) : QC ca n h ε (r2 ρ k i o) q L f z := fun t ht => by
  obtain ⟨b, g, y⟩ := H t ht
  exact ⟨b, by rw [r2_ne hk]; exact g, y⟩
theorem QC.adv {ca : Nat → Nat → Nat} {n q L f z : Nat} {h : xH} {ε : Nat → ED} {ρ : Nat → Nat → Option Nat} (H : QC ca n h ε ρ q L f z) (hf : f < L) (hz : z ≤ L) : QC ca n h ε ρ q L (k_wr L (f + 1)) (z - 1) := fun i hi => by
  obtain ⟨b, g, y⟩ := H (i + 1) (by omega)
  exact ⟨b, by rw [wr_adv hf (by omega)]; exact g, y⟩
theorem QC.z {ca : Nat → Nat → Nat} {n q L f : Nat} {h : xH} {ε : Nat → ED} {ρ : Nat → Nat → Option Nat} : QC ca n h ε ρ q L f 0 := fun i hi => absurd hi (by omega)
theorem cl0 : cl (0 : Int32) = 0 := rfl
theorem QQ_ic {ca : Nat → Nat → Nat} {n pg rm c j a : Nat} {h : xH} {ε : Nat → ED} {ρ : Nat → Nat → Option Nat} {u : (Nat → Nat → Int32)} (hn : n ≤ 4) (hr1 : 1 ≤ rm) (hr : rm ≤ 32) (K : KS n rm c u) (H : QQ ca n rm h ε ρ u) (x : EA ca n h a (ε a)) : QQ ca n rm h ε (k_icR ρ u rm j a) (k_icS u rm j) := by
  obtain ⟨s1, s2, s3, s4, s5, s6⟩ := K
  unfold QQ
  rw [ic_ne (f := 120) (by decide) (by decide), ic_ne (f := 121) (by decide) (by decide), ic_ne (f := 132) (by decide) (by decide), ic_ne (f := 134) (by decide) (by decide), ic_ne (f := 135) (by decide) (by decide), ic_133]
  unfold k_icR
  by_cases q : u 116 j = 0 ∧ ¬ cl (u 133 0) = rm
  · rw [if_pos q, if_pos q, cl_nI (by have := s3.2; omega)]
    exact ⟨fun t ht => ⟨(H.1 t ht).1, (H.1 t ht).2.1, (H.1 t ht).2.2.oth (by omega)⟩, H.2.1.push (by have := s2.2; omega) (by have := s3.2; omega) x, H.2.2.oth (by decide)⟩
  · rw [if_neg q, if_neg q]; exact H
theorem QQ_br {ca : Nat → Nat → Nat} {n pg rm c j a : Nat} {h : xH} {ε : Nat → ED} {ρ : Nat → Nat → Option Nat} {u : (Nat → Nat → Int32)} {kd vl : Int32} {bo : Option (Nat × (Nat → Int32))} (hn : n ≤ 4) (hr1 : 1 ≤ rm) (hr : rm ≤ 32) (K : KS n rm c u) (H : QQ ca n rm h ε ρ u) (x : EA ca n h a (ε a)) : QQ ca n rm h ε (k_brR ρ u rm j a) (k_brS u pg rm j kd vl bo) := by
  have e : ∀ f, f = 3 ∨ f = 114 ∨ f = 116 ∨ f = 120 ∨ f = 121 ∨ f = 132 ∨ f = 133 ∨ f = 134 ∨ f = 135 → k_rcv u pg j kd vl bo f = u f := fun f hf => k_rcv_n2 (by omega)
  have H1 : QQ ca n rm h ε ρ (k_rcv u pg j kd vl bo) := H.nf (fun f hf => e f (by omega))
  unfold k_brR k_brS
  by_cases q : u 115 j = 0
  · rw [if_pos q, if_pos q]; exact H1
  · rw [if_neg q, if_neg q]
    have := QQ_ic (pg := pg) (j := j) hn hr1 hr (KS_nf K (fun f hf => e f (by omega))) H1 x
    unfold k_icR at this ⊢
    rw [e 116 (by omega), e 132 (by omega), e 133 (by omega)] at this
    exact this
theorem QQ_dl {ca : Nat → Nat → Nat} {n rm c j a : Nat} {h : xH} {ε : Nat → ED} {ρ : Nat → Nat → Option Nat} {u : (Nat → Nat → Int32)} (hn : n ≤ 4) (hr1 : 1 ≤ rm) (hr : rm ≤ 32) (K : KS n rm c u) (H : QQ ca n rm h ε ρ u) (hj : j < n) (h121 : ¬ cl (u 121 j) = 512) (h133 : ¬ cl (u 133 0) = 0) (ha : ρ 4 (cl (u 132 0)) = some a) : QQ ca n rm h ε (k_dlR ρ u rm j a) (k_dl u rm j) := by
  obtain ⟨s1, s2, s3, s4, s5, s6⟩ := K
  have x : EA ca n h a (ε a) := by
    obtain ⟨b, g, y⟩ := H.2.1 0 (by omega)
    have e0 : k_wr rm (cl (u 132 0) + 0) = cl (u 132 0) := if_pos (by have := s2.2; omega)
    rw [e0, ha] at g
    cases g; exact y
  have e1 : ∀ F, F ≠ 135 → k_dl u rm j F = k_dl1 u rm j F := fun F h4 => by
    unfold k_dl
    by_cases q : cl (u 135 0) = rm
    · rw [if_pos q]
    · rw [if_neg q, u2_ne h4]
  have v132 : k_dl u rm j 132 0 = nI (k_wr rm (cl (u 132 0) + 1)) := by rw [e1 132 (by decide)]; unfold k_dl1; rw [u2_ne (by decide), u2_ne (by decide), u2_ss]
  have v133 : k_dl u rm j 133 0 = nI (cl (u 133 0) - 1) := by rw [e1 133 (by decide)]; unfold k_dl1; rw [u2_ne (by decide), u2_ss]
  have v134 : k_dl u rm j 134 = u 134 := by rw [e1 134 (by decide)]; unfold k_dl1; rw [u2_ne (by decide), u2_ne (by decide), u2_ne (by decide)]
  have v120 : k_dl u rm j 120 = u 120 := by rw [e1 120 (by decide)]; unfold k_dl1; rw [u2_ne (by decide), u2_ne (by decide), u2_ne (by decide)]
  have v121 : ∀ t, k_dl u rm j 121 t = if t = j then nI (cl (u 121 j) + 1) else u 121 t := fun t => by
    rw [e1 121 (by decide)]; unfold k_dl1
    by_cases q : t = j
    · rw [if_pos q, q, u2_ss, nIv_inc]
    · rw [if_neg q, u2_sn q, u2_ne (by decide), u2_ne (by decide)]
  have v135 : k_dl u rm j 135 0 = if cl (u 135 0) = rm then u 135 0 else nI (cl (u 135 0) + 1) := by
    unfold k_dl
    by_cases q : cl (u 135 0) = rm
    · rw [if_pos q, if_pos q]; unfold k_dl1; rw [u2_ne (by decide), u2_ne (by decide), u2_ne (by decide)]
    · rw [if_neg q, if_neg q, u2_ss, nIv_inc]
  have hw := k_wr_lt (L := rm) (x := cl (u 132 0) + 1) (by have := s2.2; omega)
  have R1 : ∀ t, t < n → nb (k_dl u rm j 120 t) 511 ∧ nb (k_dl u rm j 121 t) 512 ∧ QC ca n h ε (r2 ρ j (k_wr 512 (cl (u 120 j) + cl (u 121 j))) (some a)) t 512 (cl (k_dl u rm j 120 t)) (cl (k_dl u rm j 121 t)) := fun t ht => by
    obtain ⟨p1, p2, p3⟩ := H.1 t ht
    rw [v120, v121]
    by_cases q : t = j
    · subst q
      have := p2.2
      have := p1.2
      rw [if_pos rfl, cl_nI (by omega)]
      exact ⟨p1, nb_n (by omega) (by decide), p3.push (by omega) (by omega) x⟩
    · rw [if_neg q]; exact ⟨p1, p2, p3.oth q⟩
  have R2 : QC ca n h ε ρ 4 rm (cl (k_dl u rm j 132 0)) (cl (k_dl u rm j 133 0)) := by
    rw [v132, v133, cl_nI (by omega), cl_nI (by have := s3.2; omega)]
    exact H.2.1.adv (by have := s2.2; omega) s3.2
  unfold k_dlR
  by_cases q : cl (u 135 0) = rm
  · rw [if_pos q]
    refine ⟨R1, R2.oth (by omega), ?_⟩
    rw [v134, v135, if_pos q]; exact H.2.2.oth (by omega)
  · rw [if_neg q]
    refine ⟨fun t ht => ⟨(R1 t ht).1, (R1 t ht).2.1, (R1 t ht).2.2.oth (by omega)⟩, (R2.oth (by omega)).oth (by decide), ?_⟩
    rw [v134, v135, if_neg q, cl_nI (by have := s5.2; omega)]
    exact (H.2.2.oth (by omega)).push (by have := s4.2; omega) (by have := s5.2; omega) x
theorem QQ_ak1 {ca : Nat → Nat → Nat} {n rm c j : Nat} {h : xH} {ε : Nat → ED} {ρ : Nat → Nat → Option Nat} {u : (Nat → Nat → Int32)} (hr1 : 1 ≤ rm) (hr : rm ≤ 32) (K : KS n rm c u) (H : QQ ca n rm h ε ρ u) : QQ ca n rm h ε ρ (k_ak1 u rm j) := by
  obtain ⟨s1, s2, s3, s4, s5, s6⟩ := K
  have hw := k_wr_lt (L := rm) (x := cl (u 134 0) + 1) (by have := s4.2; omega)
  unfold QQ
  rw [k_ak1_ne (F := 120) (by decide), k_ak1_ne (F := 121) (by decide), k_ak1_ne (F := 132) (by decide), k_ak1_ne (F := 133) (by decide)]
  refine ⟨H.1, H.2.1, ?_⟩
  have v134 : k_ak1 u rm j 134 0 = nI (k_wr rm (cl (u 134 0) + 1)) := by unfold k_ak1; rw [u2_ne (by decide), u2_ne (by decide), u2_ss]
  have v135 : k_ak1 u rm j 135 0 = nI (cl (u 135 0) - 1) := by unfold k_ak1; rw [u2_ne (by decide), u2_ss]
  rw [v134, v135, cl_nI (by omega), cl_nI (by have := s5.2; omega)]
  exact H.2.2.adv (by have := s4.2; omega) s5.2
theorem QQ_fgt {ca : Nat → Nat → Nat} {n rm : Nat} {h : xH} {ε : Nat → ED} {ρ : Nat → Nat → Option Nat} {u : (Nat → Nat → Int32)} (H : QQ ca n rm h ε ρ u) : QQ ca n rm h ε ρ (k_fgt u) := by
  unfold QQ
  rw [fgt_ne (F := 120) (by omega), fgt_ne (F := 121) (by omega), fgt_0 (by omega), fgt_0 (by omega), fgt_0 (by omega), fgt_0 (by omega)]
  exact ⟨H.1, QC.z, QC.z⟩
theorem QQ_in0 {ca : Nat → Nat → Nat} {n rm j : Nat} {h : xH} {ε : Nat → ED} {ρ : Nat → Nat → Option Nat} {u : (Nat → Nat → Int32)} (H : QQ ca n rm h ε ρ u) : QQ ca n rm h ε ρ (u2 (u2 u 120 j 0) 121 j 0) := by
  unfold QQ
  rw [u2_ne (show (132 : Nat) ≠ 121 by decide), u2_ne (show (132 : Nat) ≠ 120 by decide), u2_ne (show (133 : Nat) ≠ 121 by decide), u2_ne (show (133 : Nat) ≠ 120 by decide), u2_ne (show (134 : Nat) ≠ 121 by decide), u2_ne (show (134 : Nat) ≠ 120 by decide), u2_ne (show (135 : Nat) ≠ 121 by decide), u2_ne (show (135 : Nat) ≠ 120 by decide)]
  refine ⟨fun t ht => ?_, H.2⟩
  rw [u2_ne (show (120 : Nat) ≠ 121 by decide)]
  by_cases q : t = j
  · subst q; rw [u2_ss, u2_ss]; exact ⟨nb_0, nb_0, QC.z⟩
  · rw [u2_sn q, u2_sn q, u2_ne (show (121 : Nat) ≠ 120 by decide)]; exact H.1 t ht
