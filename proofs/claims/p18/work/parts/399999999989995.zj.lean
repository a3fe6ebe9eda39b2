theorem RR_tk {n pg rm c j : Nat} {z : CZ} {y : RZ} {U s' : (Nat → Nat → Int32)} (hc : c ≤ 511) (H : RR n pg rm c z y) (hj : j < n) (h7 : y.1 7 j = 2)
    (ez : ∀ f, f ≠ 7 ∧ f ≠ 14 ∧ f ≠ 114 ∧ f ≠ 116 ∧ f ≠ 122 ∧ f ≠ 123 ∧ (f < 132 ∨ 135 < f) → U f = z.1 f) (z7 : ∀ h, U 7 h = if h = j then 3 else z.1 7 h) (z14 : U 14 0 = y.1 9 j) (zf : U 122 0 = -1 ∧ U 123 0 = -1 ∧ U 133 0 = 0 ∧ U 135 0 = 0)
    (es : ∀ f, f ≠ 7 ∧ f ≠ 12 ∧ f ≠ 14 ∧ f ≠ 53 ∧ f ≠ 55 ∧ f ≠ 56 → s' f = y.1 f) (s7 : ∀ h, s' 7 h = if h = j then 3 else y.1 7 h) (s14 : s' 14 0 = y.1 9 j)
    (hq : ∀ h, h < n → (U 114 h = z.1 114 h ∧ U 116 h = z.1 116 h ∧ ((s' 12 h = y.1 12 h ∧ s' 55 h = y.1 55 h) ∨ ¬ y.1 7 h = 1)) ∨ (y.1 7 h = 1 ∧ ¬ y.1 11 h = 0 ∧ U 116 h = 1 ∧ s' 12 h = 1 ∧ U 114 h = 0 ∧ s' 55 h = 0))
    (hxN : EX n (c + 1) s') (nLK : ∀ l, l < 4 → ¬ LKl s' l) : RR n pg rm (c + 1) (U, z.2) (s', y.2) := by
  obtain ⟨hg, hh, hp, hd', hx, ht, hm'⟩ := H
  have ag : AgE y.1 s' y.2 y.2 := AgE_ne (fun f h1 h2 => es f (by omega)) rfl
  have hD : ∀ h, nI h = s' 61 0 → nI h = y.1 61 0 ∧ ∀ p, p < pg → s' 63 p = y.1 63 p := fun h w => ⟨by rw [← es 61 (by decide)]; exact w, fun p _ => by rw [es 63 (by decide)]⟩
  have gg : ∀ h, gst s' h → gst y.1 h := fun h g => by
    unfold gst at g ⊢
    rw [s7] at g
    by_cases x : h = j
    · subst x; exact Or.inr (Or.inl h7)
    · rw [if_neg x] at g; exact g
  have gg' : ∀ h, gst y.1 h → gst s' h := fun h g => by
    unfold gst at g ⊢
    rw [s7]
    by_cases x : h = j
    · rw [if_pos x]; exact Or.inr (Or.inr rfl)
    · rw [if_neg x]; exact g
  have g2 : ∀ h, (s' 7 h = 2 ∨ s' 7 h = 3) → (y.1 7 h = 2 ∨ y.1 7 h = 3) := fun h g => by
    rw [s7] at g
    by_cases x : h = j
    · subst x; exact Or.inl h7
    · rw [if_neg x] at g; exact g
  have g1 : ∀ h, s' 7 h = 1 → y.1 7 h = 1 ∧ h ≠ j := fun h g => by
    rw [s7] at g
    by_cases x : h = j
    · rw [if_pos x] at g; exact absurd g (by decide)
    · rw [if_neg x] at g; exact ⟨g, x⟩
  refine ⟨?_, fun h hhn => ?_, Or.inl ⟨nLK, zf⟩, RD_fr hd' (fun f h1 h2 => ez f (by omega)) (fun f h1 h2 => es f (by omega)), hxN, ?_, CM_nf hm' (fun f hf => es f (by omega))⟩
  · obtain ⟨g1, g2, g3, g4, g5, g6, g7, g8⟩ := hg
    show U 5 0 = s' 5 0 ∧ (∀ i, i < 256 * pg → U 6 i = s' 6 i) ∧ U 13 0 = s' 13 0 ∧ U 14 0 = s' 14 0 ∧ U 62 0 = s' 62 0 ∧ (∀ i, i < 512 → U 64 i = s' 64 i) ∧ U 2 0 = nI pg ∧ U 3 0 = nI rm
    rw [ez 5 (by decide), ez 6 (by decide), ez 13 (by decide), ez 62 (by decide), ez 64 (by decide), ez 2 (by decide), ez 3 (by decide), es 5 (by decide), es 6 (by decide), es 13 (by decide), es 62 (by decide), es 64 (by decide), z14, s14]
    exact ⟨g1, g2, g3, rfl, g5, g6, g7, g8⟩
  · obtain ⟨ra, h37, h19, e7, h10, h111, f1, f2, f3⟩ := hh h hhn
    refine ⟨RA_nf ra (fun f hf => es f (by omega)) (fun f hf => ez f (by omega)) (hD h), ?_, h19, ?_, ?_, ?_, ⟨fun w => ?_, fun w => ?_, fun w => ?_, fun w => ?_⟩, fun w i hi => ?_, ⟨fun w => ?_, fun w => ?_⟩⟩
    · show U 37 h = s' 37 h; rw [ez 37 (by decide), es 37 (by decide)]; exact h37
    · show U 7 h = s' 7 h; rw [z7, s7, e7]
    · show U 10 h = s' 10 h; rw [ez 10 (by decide), es 10 (by decide)]; exact h10
    · show U 111 h = _; rw [ez 111 (by decide)]; exact h111
    · have w' : s' 7 h = 1 := w
      obtain ⟨k1, k2⟩ := g1 h w'
      obtain ⟨a1, a2, a3, a4, a5⟩ := f1.1 k1
      show U 115 h = s' 11 h ∧ U 116 h = s' 12 h ∧ U 121 h = 0 ∧ (s' 11 h = 0 → U 114 h = 0 ∧ U 113 h = 0) ∧ (¬ s' 11 h = 0 → U 113 h = s' 9 h ∧ U 114 h = s' 55 h)
      rw [ez 115 (by decide), ez 121 (by decide), ez 113 (by decide), es 11 (by decide), es 9 (by decide)]
      rcases hq h hhn with ⟨b1, b2, b3⟩ | ⟨-, b1, b2, b3, b4, b5⟩
      · rcases b3 with ⟨b3, b4⟩ | b3
        · rw [b1, b2, b3, b4]; exact ⟨a1, a2, a3, a4, a5⟩
        · exact absurd k1 b3
      · rw [b2, b3, b4, b5]
        exact ⟨a1, rfl, a3, fun q => absurd q b1, fun q => ⟨(a5 q).1, rfl⟩⟩
    · have w' : ¬ s' 7 h = 1 := w
      have k1 : ¬ y.1 7 h = 1 := fun q => by
        rw [s7] at w'
        by_cases x : h = j
        · rw [x, h7] at q; exact absurd q (by decide)
        · rw [if_neg x] at w'; exact w' q
      obtain ⟨a1, a2, a3⟩ := f1.2.1 k1
      show U 114 h = 0 ∧ U 115 h = 0 ∧ U 116 h = 0
      rcases hq h hhn with ⟨b1, b2, -⟩ | ⟨b0, -⟩
      · rw [b1, b2, ez 115 (by decide)]; exact ⟨a1, a2, a3⟩
      · exact absurd b0 k1
    · show U 113 h = s' 9 h ∧ U 121 h = nI (cl (s' 59 h) - cl (s' 58 h))
      rw [ez 113 (by decide), ez 121 (by decide), es 9 (by decide), es 59 (by decide), es 58 (by decide)]
      exact f1.2.2.1 (g2 h w)
    · show U 113 h = 0 ∧ U 121 h = 0
      rw [ez 113 (by decide), ez 121 (by decide)]
      exact f1.2.2.2 (fun q => w (gg' h q))
    · have hi' : i < cl (s' 59 h) - cl (s' 58 h) := hi
      rw [es 59 (by decide), es 58 (by decide)] at hi'
      obtain ⟨a, a1, a2⟩ := f2 (g2 h w) i hi'
      refine ⟨a, ?_, ?_⟩
      · show z.2.2.1 h (k_wr 512 (cl (U 120 h) + i)) = some a
        rw [ez 120 (by decide)]; exact a1
      · show EV s' y.2 (cl (s' 57 (4200 * h + (cl (s' 58 h) + i)))) (z.2.2.2 a)
        rw [es 57 (by decide), es 58 (by decide)]; exact EV_ag ag a2
    · have k := f3.1 (gg h w)
      show U 38 h = s' 38 h ∧ ∀ i, i < cl (s' 38 h) → KE s' U h i
      unfold KE k_sl at k ⊢
      rw [ez 38 (by decide), ez 112 (by decide), ez 117 (by decide), es 38 (by decide), es 39 (by decide), es 43 (by decide), es 31 (by decide)]
      exact k
    · show U 38 h = 0
      rw [ez 38 (by decide)]; exact f3.2 (fun q => w (gg' h q))
  · show TK pg (c + 1) s'
    obtain ⟨t, P, t1, t2, t3⟩ := ht
    refine ⟨t, P, fun h hh4 g w => t1 h hh4 (gg h g) (fun o w1 w2 w3 => ?_), ?_, ?_⟩
    · refine w o (by rw [es 65 (by decide)]; exact w1) (by rw [es 66 (by decide)]; exact w2) ?_
      rw [es 67 (by decide), es 68 (by decide), es 10 (by decide)]; exact w3
    · rw [es 65 (by decide), es 66 (by decide), es 5 (by decide)]; exact t2
    · rw [es 60 (by decide), pgc_e (s := y.1) pg (fun i _ => by rw [es 63 (by decide)])]; omega
theorem RR_spB {n pg rm c j : Nat} {z : CZ} {y : RZ} {W σ1 : (Nat → Nat → Int32)} (S1 : SC n pg rm (c + 1) (u2 (k_fgt W) 7 j 3)) (V : CV n pg rm c y.1 y.2) (hc : c ≤ 511) (H : RR n pg rm c z y) (hj : j < n) (h7 : y.1 7 j = 2) (hm : ¬ y.1 9 j ≤ y.1 14 0)
    (ez : ∀ f, f ≠ 14 → f ≠ 114 → f ≠ 116 → W f = z.1 f) (z14 : W 14 0 = y.1 9 j) (es : ∀ f, f ≠ 12 → f ≠ 14 → f ≠ 53 → f ≠ 55 → f ≠ 56 → σ1 f = y.1 f) (s14 : σ1 14 0 = y.1 9 j)
    (e12 : (∃ l, l < 4 ∧ isLO y.1 j l ∧ ∀ h, σ1 12 h = if h = l then 1 else y.1 12 h) ∨ ((∀ l, l < 4 → ¬ isLO y.1 j l) ∧ σ1 12 = y.1 12))
    (hq : ∀ h, h < n → (W 114 h = z.1 114 h ∧ W 116 h = z.1 116 h ∧ ((σ1 12 h = y.1 12 h ∧ σ1 55 h = y.1 55 h) ∨ ¬ y.1 7 h = 1)) ∨ (y.1 7 h = 1 ∧ ¬ y.1 11 h = 0 ∧ W 116 h = 1 ∧ σ1 12 h = 1 ∧ W 114 h = 0 ∧ σ1 55 h = 0)) :
    RR n pg rm (c + 1) (k_gi (u2 (k_fgt W) 7 j 3) j, z.2) (m_spB y.1 σ1 j, y.2) := by
  have hn4 := V.g.1.2.2.2.2.2.2.1
  have hp16 : pg ≤ 16 := V.g.1.2.2.2.2.2.2.2.2.1
  obtain ⟨l0, inv⟩ := id V
  have hx := H.2.2.2.2.1
  have hH := inv.2.1 j (by omega)
  have h5 : ¬ y.1 5 0 = 0 := fun q => by
    rcases ((inv.1.2.2.2.2.2.2 q).2 j (by omega)).1 with w | w <;> rw [h7] at w <;> exact absurd w (by decide)
  have hR : ¬ y.1 60 0 = -1 → ∃ r, r < 4 ∧ y.1 7 r = 4 := fun q => by
    rcases inv.2.2.2 with w | ⟨r, s, t, w, -⟩
    · exact absurd w.1 q
    · exact ⟨r, by have := t.2.2.1; omega, w⟩
  have hlt := sp_lt hx (show j < 4 by omega) hm (by omega)
  obtain ⟨xB, nB⟩ := EX_spB (σ1 := σ1) hx (show j < 4 by omega) h7 hm h5 (by omega) hR (fun f hf => es f (by omega) (by omega) (by omega) (by omega) (by omega)) s14 e12
  have u7 : ∀ h, u2 σ1 7 j 3 7 h = if h = j then 3 else y.1 7 h := fun h => by rw [u2_i, es 7 (by decide) (by decide) (by decide) (by decide) (by decide)]
  have en : ∀ f, f ≠ 7 ∧ f ≠ 12 ∧ f ≠ 14 ∧ f ≠ 53 ∧ f ≠ 55 ∧ f ≠ 56 → u2 σ1 7 j 3 f = y.1 f := fun f h => by rw [u2_ne h.1, es f h.2.1 h.2.2.1 h.2.2.2.1 h.2.2.2.2.1 h.2.2.2.2.2]
  have e12' : (∃ l, l < 4 ∧ isLO y.1 j l ∧ ∀ h, u2 σ1 7 j 3 12 h = if h = l then 1 else y.1 12 h) ∨ (NoL y.1 ∧ u2 σ1 7 j 3 12 = y.1 12) := by
    rw [u2_ne (by decide)]
    rcases e12 with q | ⟨q1, q2⟩
    · exact Or.inl q
    · rcases hx.2.2.2.1 j (by omega) ⟨h7, hlt⟩ with ⟨l, hl, r⟩ | r
      · exact absurd r (q1 l hl)
      · exact Or.inr ⟨r, q2⟩
  obtain ⟨xT, nT⟩ := EX_tk (s' := u2 σ1 7 j 3) hx (show j < 4 by omega) h7 hlt h5 (by omega) u7 (by rw [u2_ne (by decide)]; exact s14) (fun f hf => en f (by omega)) e12'
  have R0 : RR n pg rm (c + 1) (u2 (k_fgt W) 7 j 3, z.2) (u2 σ1 7 j 3, y.2) := by
    refine RR_tk hc H hj h7 (fun f h => ?_) (fun h => ?_) ?_ ?_ en u7 (by rw [u2_ne (by decide)]; exact s14) (fun h hh => ?_) xT nT
    · rw [u2_ne h.1, k_fgt_ne (by omega), ez f (by omega) (by omega) (by omega)]
    · rw [u2_i, k_fgt_ne (by decide), ez 7 (by decide) (by decide) (by decide)]
    · rw [u2_ne (by decide), k_fgt_ne (by decide)]; exact z14
    · rw [u2_ne (by decide), u2_ne (by decide), u2_ne (by decide), u2_ne (by decide)]; exact fgt_v
    · rw [u2_ne (by decide), u2_ne (by decide), u2_ne (by decide), u2_ne (by decide), k_fgt_ne (by decide), k_fgt_ne (by decide)]
      exact hq h hh
  have i121 := ((H.2.1 j hj).2.2.2.2.2.2.1.2.2.1 (Or.inl h7)).2
  obtain ⟨b58, b59, b589, -⟩ := hH.2.2.2.2.2.1
  have z121 : u2 (k_fgt W) 7 j 3 121 j = nI (cl (y.1 59 j) - cl (y.1 58 j)) := by rw [u2_ne (by decide), k_fgt_ne (by decide), ez 121 (by decide) (by decide) (by decide)]; exact i121
  have v59 := b59.2
  unfold k_gi m_spB
  by_cases q : y.1 58 j = y.1 59 j
  · have c0 : u2 (k_fgt W) 7 j 3 7 j = 3 ∧ u2 (k_fgt W) 7 j 3 121 j = 0 := ⟨u2_ss, by rw [z121, q, Nat.sub_self]; rfl⟩
    rw [if_pos q, if_pos c0]
    have xG : EX n (c + 1) (m_go0 (u2 σ1 7 j 3) j) := by
      unfold m_spB at xB
      rw [if_pos q] at xB
      refine EX_nf xB (Nat.le_refl _) (fun f hf => ?_)
      by_cases w : f < 38
      · rw [goL_e w]
      · rw [m_go0_ne (by omega) (by omega) (by omega) (by omega)]
        exact (m_goLive_ne (by omega) (by omega) (by omega) (by omega) (by omega) (by omega) (by omega) (by omega) (by omega) (by omega) (by omega) (by omega) (by omega) (by omega) (by omega) (by omega) (by omega) (by omega)).symm
    have R1 := RR_go (z := (u2 (k_fgt W) 7 j 3, z.2)) (y := (u2 σ1 7 j 3, y.2)) (M := 2000 * c) (l := l0) hp16 hn4 (by omega) (by omega) hj S1 (fun h hh => Hw_up (Hw_nf (inv.2.1 h (by omega)).w (fun f hf => en f (by omega))) (by omega)) R0 (by show u2 σ1 7 j 3 7 j = 3; rw [u2_ss]) (by show cl (u2 σ1 7 j 3 58 j) = cl (u2 σ1 7 j 3 59 j); rw [en 58 (by decide), en 59 (by decide), q]) (HI_nf hH.1 (fun f hf => en f (by omega)) rfl) (by show nb (u2 σ1 7 j 3 10 j) (c + 1); rw [en 10 (by decide)]; exact nb_up hH.2.2.2.2.1 (by omega)) ?_ (Or.inl (by show cl (u2 σ1 7 j 3 66 0) ≤ c + 1; rw [en 66 (by decide)]; exact Nat.le_trans inv.2.2.1.2.1.2 (by omega))) xG
    · dsimp only at R1
      rw [en 38 (by decide)] at R1
      exact R1
    · refine OI_up (OI_st inv.2.2.1 (Nat.le_refl _) (fun f h1 h2 => en f (by omega)) (fun h _ => by show u2 σ1 7 j 3 10 h = _; rw [en 10 (by decide)]) (fun h _ y1 y2 => ?_)) (by omega)
      show u2 σ1 7 j 3 7 h = 1 ∧ u2 σ1 7 j 3 27 h = 1 ∧ u2 σ1 7 j 3 28 h = y.1 28 h ∧ (l0 h ≤ cl (y.1 37 h) - cl (y.1 38 h) → l0 h ≤ cl (u2 σ1 7 j 3 37 h) - cl (u2 σ1 7 j 3 38 h))
      have hne : h ≠ j := fun e => by rw [e, h7] at y1; exact absurd y1 (by decide)
      rw [u7, if_neg hne, en 27 (by decide), en 28 (by decide), en 37 (by decide), en 38 (by decide)]
      exact ⟨y1, y2, rfl, id⟩
  · have c0 : ¬ (u2 (k_fgt W) 7 j 3 7 j = 3 ∧ u2 (k_fgt W) 7 j 3 121 j = 0) := fun w => by
      have w2 := w.2
      rw [z121] at w2
      have : cl (y.1 59 j) - cl (y.1 58 j) = 0 := nIv_inj (b := 0) w2 (by omega) (by omega)
      exact q (by rw [b58.1, b59.1, show cl (y.1 58 j) = cl (y.1 59 j) by omega])
    rw [if_neg q, if_neg c0]
    exact R0
