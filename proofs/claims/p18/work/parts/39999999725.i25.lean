theorem sh_lo {σ : (Nat → Nat → Int32)} {K l : Nat} : ∀ n i, m_sh σ K l n K (64 * l + i) = if i < n then σ K (64 * l + i + 1) else σ K (64 * l + i)
  | 0, i => by rw [if_neg (by omega)]; rfl
  | n + 1, i => by
    unfold m_sh
    by_cases e : i = n
    · subst e; rw [u2_ss, if_pos (by omega)]
    · rw [u2_sn (by omega), sh_lo n i]
      by_cases h : i < n
      · rw [if_pos h, if_pos (by omega)]
      · rw [if_neg h, if_neg (by omega)]
theorem sh_out {σ : (Nat → Nat → Int32)} {K l h i : Nat} (hh : h ≠ l) (hi : i < 64) : ∀ n, n ≤ 63 → m_sh σ K l n K (64 * h + i) = σ K (64 * h + i)
  | 0, _ => rfl
  | n + 1, hn => by unfold m_sh; rw [u2_sn (by omega), sh_out hh hi n (by omega)]
theorem cnt_sh {σ ς : (Nat → Nat → Int32)} {h : Nat} : ∀ k, (∀ x, x < k → ς 45 (cl (ς 54 (64 * h + x))) = σ 45 (cl (σ 54 (64 * h + (x + 1))))) → cnt σ h (k + 1) = cnt ς h k + (if σ 45 (cl (σ 54 (64 * h))) = 4 then 1 else 0)
  | 0, _ => by simp only [cnt, Nat.add_zero]
  | k + 1, H => by
    rw [cnt, cnt_sh k (fun x hx => H x (by omega)), cnt, H k (by omega)]
    omega
theorem CV_ack {n pg rm c j : Nat} {σ : (Nat → Nat → Int32)} {τ : (Nat → Nat → Int64)} (hc : c ≤ 511) (H : CV n pg rm c σ τ) (hj : j < 4) (hA : AkAt σ j) : CV n pg rm (c + 1) (m_ack σ j) τ ∧ AkOK σ j := by
  obtain ⟨l, H⟩ := H
  have H0 := H
  obtain ⟨g, hs, ho, hri⟩ := H
  have hrm : rm ≤ 32 := g.1.2.2.2.2.2.2.2.2.2.2
  obtain ⟨h7, h11, h56⟩ := hA
  obtain ⟨a1, a2, a3, a4, a5, a6, a0⟩ := hs j hj
  obtain ⟨c1, c2, c3, c4, c5, c6, c7⟩ := a2 h11
  have h12 : σ 12 j = 0 := Classical.byContradiction fun h => h56 (c7 h).1
  obtain ⟨d1, d2⟩ := c6 h12
  have hU := c2.2
  have hA1 : 1 ≤ cl (σ 56 j) := by
    have : cl (σ 56 j) ≠ 0 := by intro e; apply h56; rw [c3.1, e]; rfl
    omega
  have hU1 : 1 ≤ cl (σ 55 j) := by omega
  have hk0 : σ 45 (cl (σ 54 (64 * j))) = 4 → 1 ≤ cl (σ 38 j) := by
    intro h
    rw [← d2]
    have : cl (σ 55 j) = (cl (σ 55 j) - 1) + 1 := by omega
    rw [this, cnt_sh (σ := σ) (ς := fun f i => if f = 54 then σ 54 (i + 1) else σ f i) _ (fun x _ => by
      show σ 45 (cl (σ 54 (64 * j + x + 1))) = _
      rfl), if_pos h]
    omega
  have ok : AkOK σ j := by
    refine ⟨nb_mono c2 (by omega), hU1, ?_, ?_⟩
    · have := (c5 0 (by omega)).1; rwa [Nat.add_zero] at this
    · intro h
      refine ⟨nb_mono a1.2.2.2.2.2.2.1 (by omega), hk0 h, g.2.2.2.1, nb_mono ho.2.1 (by omega), ?_⟩
      intro e
      have := (a1.2.2.2.2.2.2.2 0 (by have := hk0 h; omega)).2.2.1
      rw [Nat.add_zero] at this
      exact this e
  refine ⟨?_, ok⟩
  have e0 : ∀ f, f ≠ 54 → f ≠ 55 → f ≠ 56 → m_ack0 σ j f = σ f := fun f x y z => by unfold m_ack0; rw [m_sh_ne x, u2_ne y, u2_ne z]
  have e55 : m_ack0 σ j 55 j = nI (cl (σ 55 j) - 1) := by unfold m_ack0; rw [m_sh_ne (by decide), u2_ss]
  have e56 : m_ack0 σ j 56 j = nI (cl (σ 56 j) - 1) := by
    unfold m_ack0; rw [m_sh_ne (by decide), u2_ne (by decide), u2_ss]
    have e : cl (σ 56 j) = (cl (σ 56 j) - 1) + 1 := by omega
    rw [c3.1]
    have q := nI_sub1 (cl (σ 56 j) - 1) 1
    rw [← e] at q
    have : cl (nI (cl (σ 56 j))) = cl (σ 56 j) := by rw [← c3.1]
    rw [this]; exact q
  have e54 : ∀ i, i < cl (σ 55 j) - 1 → m_ack0 σ j 54 (64 * j + i) = σ 54 (64 * j + (i + 1)) := by
    intro i hi; unfold m_ack0; rw [sh_lo, if_pos hi, u2_ne (by decide), u2_ne (by decide)]; rfl
  have s0 : ∀ h, h ≠ j → Sm h σ (m_ack0 σ j) τ τ := by
    intro h hh
    refine ⟨?_, rfl⟩
    intro f i _ hi
    by_cases x : f = 54
    · subst x
      unfold m_ack0
      rw [show h_s 54 = 64 from rfl] at hi ⊢
      rw [sh_out hh hi _ (by omega), u2_ne (by decide), u2_ne (by decide)]
    by_cases y : f = 55
    · subst y
      have hi : i < 1 := hi
      unfold m_ack0
      rw [m_sh_ne (by decide), show h_s 55 = 1 from rfl, u2_sn (by omega), u2_ne (by decide)]
    by_cases z : f = 56
    · subst z
      have hi : i < 1 := hi
      unfold m_ack0
      rw [m_sh_ne (by decide), show h_s 56 = 1 from rfl, u2_ne (by decide), u2_sn (by omega)]
    · rw [e0 f x y z]
  have HI0 : HI (256 * pg) (2000 * c) l (m_ack0 σ j) τ j := HI_nf a1 (fun f hf => e0 f (by omega) (by omega) (by omega)) rfl
  have OI0 : OI (c + 1) l (m_ack0 σ j) := OI_nf (show OI (c + 1) l σ from ⟨ho.1, nb_mono ho.2.1 (by omega), ho.2.2⟩) (fun f hf => e0 f (by omega) (by omega) (by omega))
  have OJ0 : OJ c j (m_ack0 σ j) := .inl (by rw [e0 66 (by decide) (by decide) (by decide)]; exact ho.2.1.2)
  have fin : ∀ Z : (Nat → Nat → Int32), (∀ f, f < 38 ∨ (43 < f ∧ f < 66) ∨ 73 < f → Z f = m_ack0 σ j f) → HI (256 * pg) (2000 * c) l Z τ j → OI (c + 1) l Z → nb (Z 72 0) 4096 → (∀ h, h ≠ j → Sm h σ Z τ τ) → cl (Z 38 j) + (if σ 45 (cl (σ 54 (64 * j))) = 4 then 1 else 0) = cl (σ 38 j) → CV n pg rm (c + 1) Z τ := by
    intro Z eZ hZ oZ h72 sZ hkept
    have eZ0 : ∀ f, f < 38 ∨ (43 < f ∧ f < 66) ∨ 73 < f → f ≠ 54 → f ≠ 55 → f ≠ 56 → Z f = σ f := fun f hf x y z => by rw [eZ f hf, e0 f x y z]
    refine ⟨l, INV_host H0 hj (fun h _ e => sZ h e) (AgE_ne (fun f x y => eZ0 f (by omega) (by omega) (by omega) (by omega)) rfl) (by rw [eZ0 4 (by omega) (by omega) (by omega) (by omega)]) hZ.1.2.2.2.2.2.2.2.2 (fun _ _ => rfl) (by omega) (by omega) (by omega) (by omega) ?_ ?_ ?_ oZ ?_⟩
    · refine ⟨⟨hZ.1, hZ.2.1, by have := hZ.2.2.1; omega, hZ.2.2.2⟩, ?_, ?_, ?_, ?_, ?_, ?_⟩
      · intro _
        unfold CI
        have z55 : Z 55 j = nI (cl (σ 55 j) - 1) := by rw [eZ 55 (by omega), e55]
        have z56 : Z 56 j = nI (cl (σ 56 j) - 1) := by rw [eZ 56 (by omega), e56]
        have q1 := c3.2
        rw [z55, z56, cl_nI (by omega), cl_nI (by omega), eZ0 53 (by omega) (by omega) (by omega) (by omega), eZ0 52 (by omega) (by omega) (by omega) (by omega), eZ0 12 (by omega) (by omega) (by omega) (by omega), eZ0 44 (by omega) (by omega) (by omega) (by omega), eZ 54 (by omega)]
        refine ⟨⟨c1.1, by omega⟩, nb_n (by omega) (by omega), nb_n (by omega) (by omega), c4, ?_, ?_, fun h => absurd h12 h⟩
        · intro i hi; rw [e54 i hi]; exact c5 (i + 1) (by omega)
        · intro _
          refine ⟨by omega, ?_⟩
          have q : cl (σ 55 j) = (cl (σ 55 j) - 1) + 1 := by omega
          have := d2
          rw [q, cnt_sh (σ := σ) (ς := Z) _ (fun x hx => by rw [eZ0 45 (by omega) (by omega) (by omega) (by omega), eZ 54 (by omega), e54 x hx])] at this
          omega
      · rw [eZ0 11 (by omega) (by omega) (by omega) (by omega)]; exact fun _ h => absurd h h11
      · rw [eZ0 7 (by omega) (by omega) (by omega) (by omega), h7]; intro h; exact absurd h (by decide)
      · rw [eZ0 10 (by omega) (by omega) (by omega) (by omega)]; exact nb_mono a5 (by omega)
      · have : CB c Z j := CB_nf a6 (fun f x y => eZ0 f (by omega) (by omega) (by omega) (by omega))
        exact ⟨nb_mono this.1 (by omega), nb_mono this.2.1 (by omega), this.2.2⟩
      · rw [eZ0 7 (by omega) (by omega) (by omega) (by omega), h7]; intro h; exact absurd h (by decide)
    · intro b _ _ _ li
      have li' : isLO σ b j := isLO_sm (fun f hf => by rw [eZ0 f (by omega) (by omega) (by omega) (by omega)]) (fun f x y => by rw [eZ0 f (by omega) (by omega) (by omega) (by omega)]) li
      refine ⟨li', ?_⟩
      intro kb hch
      have ech : chL Z j = chL σ j := by unfold chL; rw [eZ0 53 (by omega) (by omega) (by omega) (by omega), eZ0 52 (by omega) (by omega) (by omega) (by omega)]
      rw [ech, hv_nf (σ := σ) (τ := τ) (fun f x y => eZ0 f (by omega) (by omega) (by omega) (by omega)) rfl]; exact hch
    · refine GI_st g hj (.inl h7) (fun f i hf => by rw [eZ0 f (by omega) (by omega) (by omega) (by omega)]) ?_ ?_ h72 ?_
      · rw [eZ0 44 (by omega) (by omega) (by omega) (by omega)]; exact nb_mono g.2.1 (by omega)
      · rw [eZ0 50 (by omega) (by omega) (by omega) (by omega)]; exact nb_mono g.2.2.1 (by omega)
      · rw [eZ0 74 (by omega) (by omega) (by omega) (by omega)]; exact g.2.2.2.2.1
    · exact RI_nf hri (fun f hf => eZ0 f (by omega) (by omega) (by omega) (by omega))
  unfold m_ack
  by_cases e4 : σ 45 (cl (σ 54 (64 * j))) = 4
  · rw [if_pos e4]
    have k1 := hk0 e4
    have z38 : cl (m_ack0 σ j 38 j) = (cl (σ 38 j) - 1) + 1 := by rw [e0 38 (by decide) (by decide) (by decide)]; omega
    obtain ⟨x1, x2⟩ := lv_O HI0 z38 (by rw [e0 7 (by decide) (by decide) (by decide)]; exact h7) hj (by omega) (by rw [e0 10 (by decide) (by decide) (by decide)]; exact a5) OI0 OJ0
    have h72 : nb (m_ack0 σ j 72 0) 4096 := by rw [e0 72 (by decide) (by decide) (by decide)]; exact g.2.2.2.1
    obtain ⟨O', q1, q2⟩ := m_leave_72 (σ := m_ack0 σ j) (j := j) (k := cl (σ 38 j) - 1) h72.1 h72.2
    have h100 := a1.2.2.2.2.2.2.1.2
    refine fin _ (fun f hf => leave_nf hf) (HI_leave HI0 (by omega) z38) x1 (by rw [q1]; exact nb_n q2 (by omega)) (fun h hh => (s0 h hh).tr (leave_sm (by omega) hh)) ?_
    rw [m_leave_38, cl_nI (by omega), if_pos e4]; omega
  · rw [if_neg e4]
    refine fin _ (fun f _ => rfl) HI0 OI0 (by rw [e0 72 (by decide) (by decide) (by decide)]; exact g.2.2.2.1) s0 ?_
    rw [e0 38 (by decide) (by decide) (by decide), if_neg e4]; omega
