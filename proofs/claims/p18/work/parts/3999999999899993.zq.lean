theorem RR_lg {n pg rm c j a : Nat} {z : CZ} {y : RZ} (b132 : nb (z.1 132 0) (rm - 1)) (hp16 : pg ≤ 16) (hn4 : n ≤ 4) (hrm : rm ≤ 32) (hc : c ≤ 512) (Vh : ∀ h, h < n → Hw pg c y.1 h) (H : RR n pg rm c z y) (hj : j < n) (h7 : y.1 7 j = 1) (h11 : ¬ y.1 11 j = 0) (c1 : nb (y.1 53 j) (cl (y.1 55 j))) (hU : cl (y.1 55 j) < rm) (c2 : nb (y.1 55 j) rm) (c3 : nb (y.1 56 j) (cl (y.1 55 j))) (c6 : y.1 12 j = 0 → cl (y.1 56 j) + cl (y.1 53 j) = cl (y.1 55 j)) (n44 : nb (y.1 44 0) 23999) (n50 : nb (y.1 50 0) 40000) (fr : FRQ n rm z.2.2.1 z.1 a) : RR n pg rm c (k_icS z.1 rm j, z.2.1, k_icR z.2.2.1 z.1 rm j a, eu z.2.2.2 a (0, 0, none, z.2.1 19 j, z.1 37 j - z.1 38 j)) (lg y.1 j 4 0, t2 y.2 49 (cl (y.1 44 0)) (y.2 19 j)) := by
  have hj4 : j < 4 := by omega
  obtain ⟨hg, hh, hp, hd', hx, ht, hm⟩ := H
  have b44 := n44.2
  have b50 := n50.2
  have hC : cl (y.1 53 j) ≤ cl (y.1 55 j) := c1.2
  obtain ⟨ra, rt⟩ := hh j hj
  have f1 := rt.2.2.2.2.2.1
  obtain ⟨i115, i116, i121, -, i113⟩ := f1.1 h7
  obtain ⟨agL, l44, l50⟩ := lg_ag (σ := y.1) (j := j) (n := 0) (k := 4) (τ := y.2) (υ := t2 y.2 49 (cl (y.1 44 0)) (y.2 19 j)) (nb_mono n44 (by omega)) (nb_mono n50 (by omega)) (by omega) (fun e he => t2_49n he)
  have l44 : cl (lg y.1 j 4 0 44 0) = cl (y.1 44 0) + 1 := l44
  have l50 : cl (lg y.1 j 4 0 50 0) = cl (y.1 50 0) + 0 := l50
  have agL : AgE y.1 (lg y.1 j 4 0) y.2 (t2 y.2 49 (cl (y.1 44 0)) (y.2 19 j)) := agL
  have v45 : lg y.1 j 4 0 45 (cl (y.1 44 0)) = nI 4 := by rw [lg_en (by decide), m_entry_45]; rfl
  have v46 : lg y.1 j 4 0 46 (cl (y.1 44 0)) = y.1 37 j - y.1 38 j := by rw [lg_en (by decide), m_entry_46]
  have v47 : lg y.1 j 4 0 47 (cl (y.1 44 0)) = nI 0 := by rw [lg_en (by decide), m_entry_47]; rfl
  have v48 : lg y.1 j 4 0 48 (cl (y.1 44 0)) = y.1 50 0 := by rw [lg_en (by decide), m_entry_48]
  have v53 : lg y.1 j 4 0 53 j = nI (cl (y.1 53 j) + 1) := lg_53
  have v55 : lg y.1 j 4 0 55 j = nI (cl (y.1 55 j) + 1) := lg_55
  have v52 : ∀ i, lg y.1 j 4 0 52 (64 * j + i) = if i = cl (y.1 53 j) then nI (cl (y.1 44 0)) else y.1 52 (64 * j + i) := fun i => lg_52
  have v54 : ∀ i, lg y.1 j 4 0 54 (64 * j + i) = if i = cl (y.1 55 j) then nI (cl (y.1 44 0)) else y.1 54 (64 * j + i) := fun i => lg_54
  have v56 : lg y.1 j 4 0 56 = y.1 56 := lg_nf (by omega)
  have eL : ∀ f, f < 44 ∨ f = 49 ∨ f = 51 ∨ 55 < f → lg y.1 j 4 0 f = y.1 f := fun f hf => lg_nf hf
  have smL : ∀ h, h ≠ j → Sm h y.1 (lg y.1 j 4 0) y.2 (t2 y.2 49 (cl (y.1 44 0)) (y.2 19 j)) := fun h hh => lg_sm hh (by omega) (by omega) (by rw [t2_4919])
  generalize lg y.1 j 4 0 = L at *
  have e37 : z.1 37 j = y.1 37 j := rt.1
  have e38 : z.1 38 j = y.1 38 j := (rt.2.2.2.2.2.2.2.1 (Or.inl h7)).1
  have e19 : z.2.1 19 j = y.2 19 j := rt.2.1
  have D : EDk y.1 (cl (y.1 50 0)) 4 0 0 0 none := ⟨rfl, fun q => absurd q (by decide), fun q => absurd q (by decide), fun q => absurd q (by decide), fun _ _ => rfl⟩
  have er : ER L (t2 y.2 49 (cl (y.1 44 0)) (y.2 19 j)) (cl (y.1 44 0)) (0, 0, none, z.2.1 19 j, z.1 37 j - z.1 38 j) := ER_of D v45 v47 (by rw [v48]) (eL 51 (by omega)) (by omega) (by omega) (by rw [t2_49s, e19]) (by rw [v46, e37, e38])
  have enew : EV L (t2 y.2 49 (cl (y.1 44 0)) (y.2 19 j)) (cl (y.1 44 0)) (0, 0, none, z.2.1 19 j, z.1 37 j - z.1 38 j) := by
    refine ⟨er, by rw [l44]; omega, ?_, fun q => ?_, ?_⟩
    · rw [v48, v47, l50, cl_nI (by omega)]; omega
    · rw [v45, cl_nI (by omega)] at q; exact absurd q (by decide)
    · rw [v45]; exact nb_n (by omega) (by omega)
  have t19 : ∀ h, t2 y.2 49 (cl (y.1 44 0)) (y.2 19 j) 19 h = y.2 19 h := fun h => by rw [t2_4919]
  have epe : ∀ q, ∀ x, ((∃ i, q < n ∧ i < cl (z.1 121 q) ∧ z.2.2.1 q (k_wr 512 (cl (z.1 120 q) + i)) = some x) ∨ (∃ i, i < cl (z.1 133 0) ∧ z.2.2.1 4 (k_wr rm (cl (z.1 132 0) + i)) = some x) ∨ (∃ i, i < cl (z.1 135 0) ∧ z.2.2.1 5 (k_wr rm (cl (z.1 134 0) + i)) = some x)) → eu z.2.2.2 a (0, 0, none, z.2.1 19 j, z.1 37 j - z.1 38 j) x = z.2.2.2 x := fun q x w => by
    refine eu_n (fun e => ?_)
    subst e
    rcases w with ⟨i, w1, w2, w3⟩ | ⟨i, w2, w3⟩ | ⟨i, w2, w3⟩
    · exact fr.1 q i w1 w2 w3
    · exact fr.2.1 i w2 w3
    · exact fr.2.2 i w2 w3
  have hD : ∀ h, nI h = L 61 0 → nI h = y.1 61 0 ∧ ∀ p, p < pg → L 63 p = y.1 63 p := fun h w => ⟨by rw [← eL 61 (by omega)]; exact w, fun p _ => by rw [eL 63 (by omega)]⟩
  have main : ∀ (U : (Nat → Nat → Int32)) (R : Nat → Nat → Option Nat), (∀ f, f ≠ 114 → f ≠ 133 → U f = z.1 f) → (∀ h, U 114 h = if h = j then z.1 114 j + 1 else z.1 114 h) → (∀ h i, h < 4 → R h i = z.2.2.1 h i) → RP n rm (U, z.2.1, R, eu z.2.2.2 a (0, 0, none, z.2.1 19 j, z.1 37 j - z.1 38 j)) (L, t2 y.2 49 (cl (y.1 44 0)) (y.2 19 j)) → RR n pg rm c (U, z.2.1, R, eu z.2.2.2 a (0, 0, none, z.2.1 19 j, z.1 37 j - z.1 38 j)) (L, t2 y.2 49 (cl (y.1 44 0)) (y.2 19 j)) := by
    intro U R ez z114 hR rp
    refine ⟨RG_nf hg (fun f hf => ez f (by omega) (by omega)) (fun f hf => eL f (by omega)), fun h hhn => ?_, rp, RD_fr hd' (fun f h1 h2 => ez f (by omega) (by omega)) (fun f h1 h2 => eL f (by omega)), EX_nf hx (Nat.le_refl _) (fun f hf => eL f (by omega)), TK_nf ht (Nat.le_refl _) (fun f hf => eL f (by omega)), CM_nf hm (fun f hf => eL f (by omega))⟩
    obtain ⟨raH, rtH⟩ := hh h hhn
    refine ⟨RA_nf raH (fun f hf => eL f (by omega)) (fun f hf => ez f (by omega) (by omega)) (hD h), ?_⟩
    by_cases x : h = j
    · subst x
      have n7 : L 7 h = 1 := by rw [eL 7 (by omega)]; exact h7
      have n23 : ¬ (L 7 h = 2 ∨ L 7 h = 3) := by rw [n7]; decide
      refine ⟨?_, ?_, ?_, ?_, ?_, ⟨fun _ => ?_, fun w => absurd n7 w, fun w => absurd w n23, fun w => absurd (Or.inl n7) w⟩, fun w => absurd w n23, ?_⟩
      · show U 37 h = L 37 h; rw [ez 37 (by decide) (by decide), eL 37 (by omega)]; exact e37
      · exact e19.trans (t19 h).symm
      · show U 7 h = L 7 h; rw [ez 7 (by decide) (by decide), eL 7 (by omega)]; exact rt.2.2.1
      · show U 10 h = L 10 h; rw [ez 10 (by decide) (by decide), eL 10 (by omega)]; exact rt.2.2.2.1
      · show U 111 h = _; rw [ez 111 (by decide) (by decide)]; exact rt.2.2.2.2.1
      · show U 115 h = L 11 h ∧ U 116 h = L 12 h ∧ U 121 h = 0 ∧ (L 11 h = 0 → U 114 h = 0 ∧ U 113 h = 0) ∧ (¬ L 11 h = 0 → U 113 h = L 9 h ∧ U 114 h = L 55 h)
        rw [ez 115 (by decide) (by decide), ez 116 (by decide) (by decide), ez 121 (by decide) (by decide), ez 113 (by decide) (by decide), z114, if_pos rfl, eL 11 (by omega), eL 12 (by omega), eL 9 (by omega), v55]
        refine ⟨i115, i116, i121, fun w => absurd w h11, fun _ => ⟨(i113 h11).1, ?_⟩⟩
        rw [(i113 h11).2]; exact (cl_inc c2 (by omega)).1
      · have f3 := rt.2.2.2.2.2.2.2
        show RF3 L U h
        unfold RF3 KE k_sl gst at f3 ⊢
        rw [ez 38 (by decide) (by decide), ez 112 (by decide) (by decide), ez 117 (by decide) (by decide), eL 7 (by omega), eL 38 (by omega), eL 39 (by omega), eL 43 (by omega), eL 31 (by omega)]
        exact f3
    · have fz : ∀ f i, zF f = true → i < zS f → U f (zS f * h + i) = z.1 f (zS f * h + i) := fun f i hf hi => by
        have w := of_decide_eq_true hf
        by_cases y1 : f = 114
        · subst y1
          have hk1 : i < 1 := hi
          rw [z114, if_neg (by show ¬ 1 * h + i = j; omega)]
        · rw [ez f y1 (by omega)]
      exact (RH_frw (z' := (U, z.2.1, R, eu z.2.2.2 a (0, 0, none, z.2.1 19 j, z.1 37 j - z.1 38 j))) (y' := (L, t2 y.2 49 (cl (y.1 44 0)) (y.2 19 j))) (Vh h hhn) hp16 (by omega) (hh h hhn) ⟨fz, rfl, fun i => hR h i (by omega), fun i x w1 w2 => epe h x (Or.inl ⟨i, hhn, w1, w2⟩)⟩ ⟨smL h x, fun i _ => by show L 43 _ = y.1 43 _; rw [eL 43 (by omega)]⟩ agL (hD h)).2
  by_cases h12 : y.1 12 j = 0
  · obtain ⟨ch1, ch2, ch3, ch4, ch5, ch6, ch7⟩ := RP_at hp hx hj hn4 ⟨h11, h12⟩
    have u116 : z.1 116 j = 0 := by rw [i116]; exact h12
    have x133 : ¬ cl (z.1 133 0) = rm := by rw [ch3]; omega
    have eS : k_icS z.1 rm j = u2 (u2 z.1 114 j (z.1 114 j + 1)) 133 0 (nI (cl (z.1 133 0)) + 1) := by unfold k_icS; rw [if_pos ⟨u116, x133⟩]
    have eR : k_icR z.2.2.1 z.1 rm j a = r2 z.2.2.1 4 (k_wr rm (cl (z.1 132 0) + cl (z.1 133 0))) (some a) := by unfold k_icR; rw [if_pos ⟨u116, x133⟩]
    rw [eS, eR]
    have zz : ∀ f, f ≠ 114 → f ≠ 133 → u2 (u2 z.1 114 j (z.1 114 j + 1)) 133 0 (nI (cl (z.1 133 0)) + 1) f = z.1 f := fun f h1 h2 => by rw [u2_ne h2, u2_ne h1]
    have c6' := c6 h12
    refine main _ _ zz (fun h => by rw [u2_ne (by decide), u2_i]) (fun h i hh4 => by rw [r2_ne (by omega)]) (Or.inr ⟨j, hj, ?_, ?_, ?_, ?_, ?_, fun i hi => ?_, fun i hi => ?_, fun i hi => ?_⟩)
    · show ¬ L 11 j = 0 ∧ L 12 j = 0
      rw [eL 11 (by omega), eL 12 (by omega)]; exact ⟨h11, h12⟩
    · show u2 (u2 z.1 114 j (z.1 114 j + 1)) 133 0 (nI (cl (z.1 133 0)) + 1) 122 0 = _
      rw [zz 122 (by decide) (by decide)]; exact ch1
    · show u2 (u2 z.1 114 j (z.1 114 j + 1)) 133 0 (nI (cl (z.1 133 0)) + 1) 123 0 = L 8 j
      rw [zz 123 (by decide) (by decide), eL 8 (by omega)]; exact ch2
    · show u2 (u2 z.1 114 j (z.1 114 j + 1)) 133 0 (nI (cl (z.1 133 0)) + 1) 133 0 = L 53 j
      rw [u2_ss, v53, ch3]; exact nIv_add _ 1
    · show u2 (u2 z.1 114 j (z.1 114 j + 1)) 133 0 (nI (cl (z.1 133 0)) + 1) 135 0 = L 56 j
      rw [zz 135 (by decide) (by decide), v56]; exact ch4
    · have hi' : i < cl (L 53 j) := hi
      rw [v53, cl_nI (by omega)] at hi'
      show ∃ x, r2 z.2.2.1 4 (k_wr rm (cl (z.1 132 0) + cl (z.1 133 0))) (some a) 4 (k_wr rm (cl (u2 (u2 z.1 114 j (z.1 114 j + 1)) 133 0 (nI (cl (z.1 133 0)) + 1) 132 0) + i)) = some x ∧ EV L (t2 y.2 49 (cl (y.1 44 0)) (y.2 19 j)) (cl (L 52 (64 * j + i))) (eu z.2.2.2 a (0, 0, none, z.2.1 19 j, z.1 37 j - z.1 38 j) x)
      rw [zz 132 (by decide) (by decide), v52]
      by_cases q : i = cl (y.1 53 j)
      · rw [if_pos q, cl_nI (by omega)]
        refine ⟨a, ?_, ?_⟩
        · rw [q, ← ch3, r2_ss]
        · rw [eu_s]; exact enew
      · rw [if_neg q]
        obtain ⟨x, x1, x2⟩ := ch5 i (by omega)
        refine ⟨x, ?_, ?_⟩
        · rw [r2_sn (wr_ne (by have := b132.2; omega) (by rw [ch3]; omega) (by rw [ch3]; omega))]; exact x1
        · rw [epe 0 x (Or.inr (Or.inl ⟨i, by rw [ch3]; omega, x1⟩))]
          exact EV_ag agL x2
    · have hi' : i < cl (L 56 j) := hi
      rw [v56] at hi'
      show ∃ x, r2 z.2.2.1 4 (k_wr rm (cl (z.1 132 0) + cl (z.1 133 0))) (some a) 5 (k_wr rm (cl (u2 (u2 z.1 114 j (z.1 114 j + 1)) 133 0 (nI (cl (z.1 133 0)) + 1) 134 0) + i)) = some x ∧ EV L (t2 y.2 49 (cl (y.1 44 0)) (y.2 19 j)) (cl (L 54 (64 * j + i))) (eu z.2.2.2 a (0, 0, none, z.2.1 19 j, z.1 37 j - z.1 38 j) x)
      have b56 := c3.2
      rw [zz 134 (by decide) (by decide), v54, if_neg (by omega), r2_ne (by decide)]
      obtain ⟨x, x1, x2⟩ := ch6 i hi'
      refine ⟨x, x1, ?_⟩
      rw [epe 0 x (Or.inr (Or.inr ⟨i, by rw [ch4]; exact hi', x1⟩))]
      exact EV_ag agL x2
    · have hi' : i < cl (L 53 j) := hi
      rw [v53, cl_nI (by omega)] at hi'
      show L 54 (64 * j + (cl (L 56 j) + i)) = L 52 (64 * j + i)
      rw [v56, v54, v52]
      by_cases q : i = cl (y.1 53 j)
      · rw [if_pos q, if_pos (by omega)]
      · rw [if_neg q, if_neg (by omega)]; exact ch7 i (by omega)
  · have u116 : ¬ z.1 116 j = 0 := by rw [i116]; exact h12
    have noL : ∀ l, l < 4 → ¬ LKl y.1 l := fun l hl w => by
      have e := ((hx.2.2.1 l hl w).2.2.2.1 j hj4).1 h7
      subst e; exact h12 w.2
    have hp0 : z.1 122 0 = -1 ∧ z.1 123 0 = -1 ∧ z.1 133 0 = 0 ∧ z.1 135 0 = 0 := by
      rcases hp with ⟨-, w⟩ | ⟨l, hl, w, -⟩
      · exact w
      · exact absurd w (noL l (by omega))
    have eS : k_icS z.1 rm j = u2 z.1 114 j (z.1 114 j + 1) := by unfold k_icS; rw [if_neg (fun w => u116 w.1)]
    have eR : k_icR z.2.2.1 z.1 rm j a = z.2.2.1 := by unfold k_icR; rw [if_neg (fun w => u116 w.1)]
    rw [eS, eR]
    refine main _ _ (fun f h1 _ => u2_ne h1) (fun h => u2_i) (fun h i _ => rfl) (Or.inl ⟨fun l hl w => noL l hl ?_, ?_, ?_, ?_, ?_⟩)
    · have w' : ¬ L 11 l = 0 ∧ L 12 l = 0 := w
      rw [eL 11 (by omega), eL 12 (by omega)] at w'; exact w'
    · show u2 z.1 114 j (z.1 114 j + 1) 122 0 = -1; rw [u2_ne (by decide)]; exact hp0.1
    · show u2 z.1 114 j (z.1 114 j + 1) 123 0 = -1; rw [u2_ne (by decide)]; exact hp0.2.1
    · show u2 z.1 114 j (z.1 114 j + 1) 133 0 = 0; rw [u2_ne (by decide)]; exact hp0.2.2.1
    · show u2 z.1 114 j (z.1 114 j + 1) 135 0 = 0; rw [u2_ne (by decide)]; exact hp0.2.2.2
