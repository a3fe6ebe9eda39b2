theorem RR_comQ {n pg rm c j kd N a : Nat} {z : CZ} {y : RZ} {k v : Int32} {b : Option (Nat × (Nat → Int32))} (S : SC n pg rm c z.1) (V : CV n pg rm c y.1 y.2) (hc : c ≤ 511) (H : RR n pg rm c z y) (hj : j < n) (h7 : y.1 7 j = 1) (h11 : ¬ y.1 11 j = 0) (h12 : ¬ y.1 12 j = 0) (hroom : ¬ y.1 3 0 ≤ y.1 55 j) (D : EDk y.1 (cl (y.1 50 0)) kd N k v b) (Q : CmQ y.1 j kd N) (fr : FRQ n rm z.2.2.1 z.1 a) : RR n pg rm (c + 1) (evZ pg rm j a k v b z.1 z) (m_comes y.1 j kd N, m_comesT y.1 y.2 j) := by
  obtain ⟨l, inv⟩ := id V
  have hn4 := V.g.1.2.2.2.2.2.2.1
  have hp16 : pg ≤ 16 := V.g.1.2.2.2.2.2.2.2.2.1
  have hrm : rm ≤ 32 := V.g.1.2.2.2.2.2.2.2.2.2.2
  have y3 : y.1 3 0 = nI rm := V.g.1.2.2.2.1
  have hj4 : j < 4 := by omega
  obtain ⟨hg, hh, hp, hd', hx, ht, hm⟩ := H
  have hHj := inv.2.1 j hj4
  obtain ⟨c1, c2, c3, c4, c5, c6, c7⟩ := hHj.2.1 h11
  have n44 := inv.1.2.1
  have n50 := inv.1.2.2.1
  have b44 := n44.2
  have b50 := n50.2
  have hU : cl (y.1 55 j) < rm := by
    rw [y3, c2.1, nIv_le (by omega) (by have := c2.2; omega)] at hroom; omega
  have hC : cl (y.1 53 j) ≤ cl (y.1 55 j) := c1.2
  have Q0 := Q
  obtain ⟨p1, p2, p3, p4, p5⟩ := Q
  obtain ⟨ra, rt⟩ := hh j hj
  have f1 := rt.2.2.2.2.2.1
  obtain ⟨i115, i116, i121, -, i113⟩ := f1.1 h7
  have u115 : ¬ z.1 115 j = 0 := by rw [i115]; exact h11
  have u116 : ¬ z.1 116 j = 0 := by rw [i116]; exact h12
  have noL : ∀ l, l < 4 → ¬ LKl y.1 l := fun l hl w => by
    have e := ((hx.2.2.1 l hl w).2.2.2.1 j hj4).1 h7
    subst e; exact h12 w.2
  have hp0 : z.1 122 0 = -1 ∧ z.1 123 0 = -1 ∧ z.1 133 0 = 0 ∧ z.1 135 0 = 0 := by
    rcases hp with ⟨-, w⟩ | ⟨l, hl, w, -⟩
    · exact w
    · exact absurd w (noL l (by omega))
  have es := (comes_e (s := y.1) (j := j) (kd := kd) (N := N) (by omega) p2).2 h11 hroom
  have eT : m_comesT y.1 y.2 j = t2 y.2 49 (cl (y.1 44 0)) (y.2 19 j) := by unfold m_comesT; rw [if_pos h11, if_neg hroom]
  rw [es, eT]
  have r116 : k_rcv z.1 pg j k v b 116 = z.1 116 := k_rcv_ne (by omega)
  have r133 : k_rcv z.1 pg j k v b 133 = z.1 133 := k_rcv_ne (by omega)
  have r114 : k_rcv z.1 pg j k v b 114 = z.1 114 := k_rcv_ne (by omega)
  have eS : k_brS z.1 pg rm j k v b = u2 (k_rcv z.1 pg j k v b) 114 j (z.1 114 j + 1) := by
    unfold k_brS; rw [if_neg u115]; unfold k_icS; rw [r116, r133, r114, if_neg (fun w => u116 w.1)]
  have eR : k_brR z.2.2.1 z.1 rm j a = z.2.2.1 := by
    unfold k_brR; rw [if_neg u115]; unfold k_icR; rw [if_neg (fun w => u116 w.1)]
  unfold evZ
  rw [eS, eR]
  obtain ⟨agL, l44, l50⟩ := lg_ag (σ := y.1) (j := j) (n := N) (k := nI kd) (τ := y.2) (υ := t2 y.2 49 (cl (y.1 44 0)) (y.2 19 j)) (nb_mono n44 (by omega)) (nb_mono n50 (by omega)) p2 (fun e he => t2_49n he)
  have v45 : lg y.1 j (nI kd) (nI N) 45 (cl (y.1 44 0)) = nI kd := by rw [lg_en (by decide), m_entry_45]
  have v46 : lg y.1 j (nI kd) (nI N) 46 (cl (y.1 44 0)) = y.1 37 j - y.1 38 j := by rw [lg_en (by decide), m_entry_46]
  have v47 : lg y.1 j (nI kd) (nI N) 47 (cl (y.1 44 0)) = nI N := by rw [lg_en (by decide), m_entry_47]
  have v48 : lg y.1 j (nI kd) (nI N) 48 (cl (y.1 44 0)) = y.1 50 0 := by rw [lg_en (by decide), m_entry_48]
  have v53 : lg y.1 j (nI kd) (nI N) 53 j = nI (cl (y.1 53 j) + 1) := lg_53
  have v55 : lg y.1 j (nI kd) (nI N) 55 j = nI (cl (y.1 55 j) + 1) := lg_55
  have v52 : ∀ i, lg y.1 j (nI kd) (nI N) 52 (64 * j + i) = if i = cl (y.1 53 j) then nI (cl (y.1 44 0)) else y.1 52 (64 * j + i) := fun i => lg_52
  have v54 : ∀ i, lg y.1 j (nI kd) (nI N) 54 (64 * j + i) = if i = cl (y.1 55 j) then nI (cl (y.1 44 0)) else y.1 54 (64 * j + i) := fun i => lg_54
  have v56 : lg y.1 j (nI kd) (nI N) 56 = y.1 56 := lg_nf (by omega)
  have eL : ∀ f, f < 44 ∨ f = 49 ∨ f = 51 ∨ 55 < f → lg y.1 j (nI kd) (nI N) f = y.1 f := fun f hf => lg_nf hf
  have smL : ∀ h, h ≠ j → Sm h y.1 (lg y.1 j (nI kd) (nI N)) y.2 (t2 y.2 49 (cl (y.1 44 0)) (y.2 19 j)) := fun h hh => lg_sm hh (by omega) (by omega) (by rw [t2_4919])
  generalize lg y.1 j (nI kd) (nI N) = L at *
  have ok := EvOK_new inv hj4 (by omega) (by omega) Q0 v45 v47 v48 (fun f hf => eL f (by omega))
  have e37 : z.1 37 j = y.1 37 j := rt.1
  have e38 : z.1 38 j = y.1 38 j := (rt.2.2.2.2.2.2.2.1 (Or.inl h7)).1
  have e19 : z.2.1 19 j = y.2 19 j := rt.2.1
  have er : ER L (t2 y.2 49 (cl (y.1 44 0)) (y.2 19 j)) (cl (y.1 44 0)) (k, v, b, z.2.1 19 j, z.1 37 j - z.1 38 j) := ER_of D v45 v47 (by rw [v48]) (eL 51 (by omega)) (by omega) p2 (by rw [t2_49s, e19]) (by rw [v46, e37, e38])
  generalize hy' : m_ev L j (cl (y.1 44 0)) = s'
  have ne : ∀ f, f < 15 ∨ 36 < f → f ≠ 63 → s' f = L f := fun f h1 h2 => by rw [← hy']; exact evne h1 h2
  have ny : ∀ f, f < 15 ∨ (36 < f ∧ f < 44) ∨ 55 < f → f ≠ 63 → s' f = y.1 f := fun f h1 h2 => by rw [ne f (by omega) h2, eL f (by omega)]
  obtain ⟨raN, wF⟩ := RA_ev (s' := s') ra S.1.1 hHj.1.1 hp16 (fun f hf => eL f (by omega)) ok er (fun q1 q2 => by rw [v45, cl_nI (by omega)] at q1; rw [eL 28 (by omega)] at q2; rw [v47, cl_nI (by omega)]; exact p5 q1 q2) (fun f hf => by rw [hy'])
  have vR := ev_R (v_B_nf hHj.1.1 (fun f hf => eL f (by omega))) (by rw [eL 38 (by omega)]; exact nb_mono hHj.1.2.2.2.2.2.2.1 (by omega)) ok
  rw [hy'] at vR
  have vF := vR.1
  have ag : AgE y.1 s' y.2 (t2 y.2 49 (cl (y.1 44 0)) (y.2 19 j)) := by
    obtain ⟨y1, y2, y3', y4⟩ := agL
    refine ⟨by rw [ne 44 (by omega) (by omega)]; exact y1, by rw [ne 50 (by omega) (by omega)]; exact y2, fun e he => ⟨fun f h1 h2 => by rw [ne f (by omega) (by omega)]; exact (y3' e he).1 f h1 h2, (y3' e he).2⟩, fun i hi => by rw [ne 51 (by omega) (by omega)]; exact y4 i hi⟩
  have enew : EV s' (t2 y.2 49 (cl (y.1 44 0)) (y.2 19 j)) (cl (y.1 44 0)) (k, v, b, z.2.1 19 j, z.1 37 j - z.1 38 j) := by
    refine ⟨ER_of D (by rw [ne 45 (by omega) (by omega)]; exact v45) (by rw [ne 47 (by omega) (by omega)]; exact v47) (by rw [ne 48 (by omega) (by omega), v48]) (by rw [ne 51 (by omega) (by omega), eL 51 (by omega)]) (by omega) p2 (by rw [t2_49s, e19]) (by rw [ne 46 (by omega) (by omega), v46, e37, e38]), ?_, ?_, fun q => ?_, ?_⟩
    · rw [ne 44 (by omega) (by omega), l44]; omega
    · rw [ne 48 (by omega) (by omega), ne 47 (by omega) (by omega), ne 50 (by omega) (by omega), v48, v47, l50, cl_nI (by omega)]; exact Nat.le_refl _
    · rw [ne 45 (by omega) (by omega), v45, cl_nI (by omega)] at q
      rw [ne 47 (by omega) (by omega), v47, cl_nI (by omega)]; exact (p3 q).2
    · rw [ne 45 (by omega) (by omega), v45]; exact nb_n (by omega) (by omega)
  have t19 : ∀ h, t2 y.2 49 (cl (y.1 44 0)) (y.2 19 j) 19 h = y.2 19 h := fun h => by rw [t2_4919]
  have zlo : ∀ f, f < 15 ∨ (37 < f ∧ f < 100) ∨ 108 < f → k_rcv z.1 pg j k v b f = z.1 f := fun f hf => funext fun i => wF_lo wF hf
  have z37 : k_rcv z.1 pg j k v b 37 = z.1 37 := k_rcv_ne (by omega)
  generalize k_rcv z.1 pg j k v b = U at *
  have zz : ∀ f, f ≠ 114 → f ≠ 133 → u2 U 114 j (z.1 114 j + 1) f = U f := fun f h1 _ => by rw [u2_ne h1]
  have epe : ∀ q, ∀ x, ((∃ i, q < n ∧ i < cl (z.1 121 q) ∧ z.2.2.1 q (k_wr 512 (cl (z.1 120 q) + i)) = some x) ∨ (∃ i, i < cl (z.1 133 0) ∧ z.2.2.1 4 (k_wr rm (cl (z.1 132 0) + i)) = some x) ∨ (∃ i, i < cl (z.1 135 0) ∧ z.2.2.1 5 (k_wr rm (cl (z.1 134 0) + i)) = some x)) → eu z.2.2.2 a (k, v, b, z.2.1 19 j, z.1 37 j - z.1 38 j) x = z.2.2.2 x := fun q x w => by
    refine eu_n (fun e => ?_)
    subst e
    rcases w with ⟨i, w1, w2, w3⟩ | ⟨i, w2, w3⟩ | ⟨i, w2, w3⟩
    · exact fr.1 q i w1 w2 w3
    · exact fr.2.1 i w2 w3
    · exact fr.2.2 i w2 w3
  refine ⟨?_, fun h hhn => ?_, Or.inl ⟨fun l hl w => ?_, ?_, ?_, ?_, ?_⟩, ?_, ?_, ?_, ?_⟩
  · exact RG_nf hg (fun f hf => (zz f (by omega) (by omega)).trans (zlo f (by omega))) (fun f hf => ny f (by omega) (by omega))
  · by_cases x : h = j
    · subst x
      refine ⟨?_, ?_, ?_, ?_, ?_, ?_, ⟨fun _ => ?_, fun w => ?_, fun w => ?_, fun w => ?_⟩, fun w => ?_, ?_⟩
      · show RA pg h s' (u2 U 114 h (z.1 114 h + 1))
        obtain ⟨r1, r2, r3, r4, r5⟩ := raN
        refine ⟨fun f i hf hi h15 => ?_, ?_, ?_, r4, ?_⟩
        · have := wf_r hf
          rw [zz f (by omega) (by omega)]; exact r1 f i hf hi h15
        · unfold w_K at r2 ⊢; rw [zz 101 (by decide) (by decide), zz 100 (by decide) (by decide)]; exact r2
        · unfold w_P at r3 ⊢; rw [zz 104 (by decide) (by decide), zz 102 (by decide) (by decide), zz 103 (by decide) (by decide)]; exact r3
        · unfold w_D at r5 ⊢; rw [zz 105 (by decide) (by decide)]; exact r5
      · show u2 U 114 h (z.1 114 h + 1) 37 h = s' 37 h
        rw [zz 37 (by decide) (by decide), z37, ny 37 (by omega) (by omega)]; exact e37
      · exact e19.trans (t19 h).symm
      · show u2 U 114 h (z.1 114 h + 1) 7 h = s' 7 h
        rw [zz 7 (by decide) (by decide), zlo 7 (by omega), ny 7 (by omega) (by omega)]; exact rt.2.2.1
      · show u2 U 114 h (z.1 114 h + 1) 10 h = s' 10 h
        rw [zz 10 (by decide) (by decide), zlo 10 (by omega), ny 10 (by omega) (by omega)]; exact rt.2.2.2.1
      · show u2 U 114 h (z.1 114 h + 1) 111 h = _
        rw [zz 111 (by decide) (by decide), zlo 111 (by omega)]; exact rt.2.2.2.2.1
      · show u2 U 114 h (z.1 114 h + 1) 115 h = s' 11 h ∧ u2 U 114 h (z.1 114 h + 1) 116 h = s' 12 h ∧ u2 U 114 h (z.1 114 h + 1) 121 h = 0 ∧ (s' 11 h = 0 → _) ∧ (¬ s' 11 h = 0 → u2 U 114 h (z.1 114 h + 1) 113 h = s' 9 h ∧ u2 U 114 h (z.1 114 h + 1) 114 h = s' 55 h)
        rw [zz 115 (by decide) (by decide), zz 116 (by decide) (by decide), zz 121 (by decide) (by decide), zz 113 (by decide) (by decide), zlo 115 (by omega), zlo 116 (by omega), zlo 121 (by omega), zlo 113 (by omega), ny 11 (by omega) (by omega), ny 12 (by omega) (by omega), ny 9 (by omega) (by omega), ne 55 (by omega) (by omega), v55, u2_ss]
        refine ⟨i115, i116, i121, fun w => absurd w h11, fun _ => ⟨(i113 h11).1, ?_⟩⟩
        rw [(i113 h11).2]; exact (cl_inc c2 (by omega)).1
      · exact absurd (show s' 7 h = 1 by rw [ny 7 (by omega) (by omega)]; exact h7) w
      · exact absurd (show s' 7 h = 2 ∨ s' 7 h = 3 from w) (by rw [ny 7 (by omega) (by omega), h7]; decide)
      · exact absurd (Or.inl (show s' 7 h = 1 by rw [ny 7 (by omega) (by omega)]; exact h7)) w
      · exact absurd (show s' 7 h = 2 ∨ s' 7 h = 3 from w) (by rw [ny 7 (by omega) (by omega), h7]; decide)
      · refine RF3_z (u := U) (zz 38 (by decide) (by decide)) (zz 112 (by decide) (by decide)) (zz 117 (by decide) (by decide)) ?_
        have f3 := rt.2.2.2.2.2.2.2
        unfold RF3 KE k_sl gst at f3 ⊢
        show (s' 7 h = 1 ∨ s' 7 h = 2 ∨ s' 7 h = 3 → U 38 h = s' 38 h ∧ ∀ i, i < cl (s' 38 h) → U 117 (64 * h + (cl (U 112 h) + i) % 64) = s' 39 (128 * h + i) + 1 ∧ (s' 39 (128 * h + i) = 2 → ∀ x, x < 64 → s' 43 (64 * (128 * h + i) + x) = s' 31 (64 * h + x))) ∧ (¬ (s' 7 h = 1 ∨ s' 7 h = 2 ∨ s' 7 h = 3) → U 38 h = 0)
        rw [zlo 38 (by omega), zlo 112 (by omega), zlo 117 (by omega), ny 7 (by omega) (by omega), ny 38 (by omega) (by omega), ny 39 (by omega) (by omega), ny 43 (by omega) (by omega), show s' 31 = y.1 31 by rw [← hy', m_ev_ne (by decide) (by decide) (by decide) (by decide) (by decide) (by decide) (by decide) (by decide) (by decide), eL 31 (by omega)]]
        exact f3
    · refine RH_fr (inv.2.1 h (by omega)) rfl hp16 (by omega) (hh h hhn) ⟨fun f i hf hi => ?_, rfl, fun _ => rfl, fun i x w1 w2 => epe h x (Or.inl ⟨i, hhn, w1, w2⟩)⟩ ⟨⟨fun f i hf hi => ?_, t19 h⟩, fun i hi => ?_⟩ ag (fun w => ?_)
      · show u2 U 114 j (z.1 114 j + 1) f _ = z.1 f _
        have q := of_decide_eq_true hf
        by_cases q2 : f = 114
        · subst q2
          have hi1 : i < 1 := hi
          rw [u2_sn (by show ¬ 1 * h + i = j; omega)]
          exact wF_h wF x hi
        · rw [zz f q2 (by omega)]; exact wF_h wF x hi
      · show s' f _ = y.1 f _
        have q1 := (smL h x).1 f i hf hi
        have q2 := (sm_F (τ := y.2) (υ := y.2) vF x rfl).1 f i hf hi
        rw [q2, q1]
      · show s' 43 _ = y.1 43 _
        rw [ny 43 (by omega) (by omega)]
      · have w' : nI h = s' 61 0 := w
        rw [ny 61 (by omega) (by omega)] at w'
        refine ⟨w', fun p _ => ?_⟩
        show s' 63 p = _
        rw [F_63 vF (fun q => ?_), eL 63 (by omega)]
        rw [eL 61 (by omega), ← w'] at q
        exact x (nIv_inj q (by omega) (by omega)).symm
  · have w' : ¬ s' 11 l = 0 ∧ s' 12 l = 0 := w
    rw [ny 11 (by omega) (by omega), ny 12 (by omega) (by omega)] at w'
    exact noL l hl w'
  · show u2 U 114 j (z.1 114 j + 1) 122 0 = _
    rw [zz 122 (by decide) (by decide), zlo 122 (by omega)]; exact hp0.1
  · show u2 U 114 j (z.1 114 j + 1) 123 0 = _
    rw [zz 123 (by decide) (by decide), zlo 123 (by omega)]; exact hp0.2.1
  · show u2 U 114 j (z.1 114 j + 1) 133 0 = _
    rw [u2_ne (by decide), r133]; exact hp0.2.2.1
  · show u2 U 114 j (z.1 114 j + 1) 135 0 = _
    rw [zz 135 (by decide) (by decide), zlo 135 (by omega)]; exact hp0.2.2.2
  · exact RD_fr hd' (fun f h1 h2 => (zz f (by omega) (by omega)).trans (zlo f (by omega))) (fun f h1 h2 => ny f (by omega) (by omega))
  · exact EX_nf hx (by omega) (fun f hf => ny f (by omega) (by omega))
  · refine TK_63 ht (by omega) (fun f hf => ny f (by omega) (by omega)) (fun i => ?_)
    show s' 63 i = _ ∨ s' 63 i = 1
    have := ev_63 vF i
    rw [eL 63 (by omega)] at this
    exact this
  · show CM n s'
    exact cm_ev (L := L) hm (fun f hf => eL f (by omega)) (fun f hf => by rw [hy']) (fun i hi => vF_27 vF hi)
