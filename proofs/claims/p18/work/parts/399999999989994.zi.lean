theorem Hw_up {pg c d h : Nat} {s : (Nat → Nat → Int32)} (V : Hw pg c s h) (hd : c ≤ d) : Hw pg d s h := ⟨V.1, ⟨nb_up V.2.1.1 hd, nb_up V.2.1.2.1 hd, V.2.1.2.2⟩, V.2.2⟩
theorem OI_up {c d : Nat} {l : Nat → Nat} {s : (Nat → Nat → Int32)} (H : OI c l s) (hd : c ≤ d) : OI d l s := ⟨H.1, nb_up H.2.1 hd, H.2.2⟩
theorem lall_f {s : (Nat → Nat → Int32)} {j k f : Nat} (hf : f < 38 ∨ (43 < f ∧ f < 66) ∨ 73 < f) : m_lall s j k f = s f := m_lall_ne (by omega) (by omega) (by omega) (by omega) (by omega) (by omega) (by omega) (by omega) (by omega) (by omega) (by omega) (by omega) (by omega) (by omega) _ _
def m_sL0 (s : (Nat → Nat → Int32)) (j : Nat) : (Nat → Nat → Int32) := m_noCh (u2 (u2 (u2 s 14 0 (s 9 j)) 11 j 0) 8 j (-1)) j
def k_sL0 (u : (Nat → Nat → Int32)) (j : Nat) : (Nat → Nat → Int32) := k_lvP (k_fgt (u2 u 14 0 (u 113 j))) j
theorem RR_sL0 {n pg rm c j : Nat} {z : CZ} {y : RZ} (V : CV n pg rm c y.1 y.2) (hc : c ≤ 511) (H : RR n pg rm c z y) (hj : j < n) (hA : SpIs y.1 j = true) (hm : ¬ y.1 9 j ≤ y.1 14 0) : RR n pg rm (c + 1) (k_sL0 z.1 j, z.2) (m_sL0 y.1 j, y.2) := by
  have hn4 := V.g.1.2.2.2.2.2.2.1
  obtain ⟨hg, hh, hp, hd', hx, ht, hm'⟩ := H
  obtain ⟨xL, lk⟩ := EX_spL hx (show j < 4 by omega) hA hm (by omega)
  obtain ⟨h7, h11⟩ := of_decide_eq_true hA
  have hxN : EX n (c + 1) (m_sL0 y.1 j) := EX_nf xL (Nat.le_refl _) (fun f hf => by unfold m_spL m_sL0; rw [lall_f (by omega)])
  have uniq : ∀ l, l < 4 → LKl y.1 l → l = j := (hx.2.2.1 j (by omega) lk).2.2.2.2
  obtain ⟨i115, i116, i121, -, i113⟩ := (hh j hj).2.2.2.2.2.2.1.1 h7
  have i113 := (i113 h11).1
  have ez : ∀ f, f ≠ 14 → f ≠ 122 → f ≠ 123 → (f < 132 ∨ 135 < f) → (f < 113 ∨ 116 < f) → k_sL0 z.1 j f = z.1 f := fun f a b c d e => by unfold k_sL0; rw [k_lvP_ne e, k_fgt_ne ⟨b, c, d⟩, u2_ne a]
  have zh : ∀ f x, x ≠ j → 113 ≤ f → f ≤ 116 → k_sL0 z.1 j f x = z.1 f x := fun f x a b c => by
    unfold k_sL0 k_lvP
    rw [u2_x a, u2_x a, u2_x a, u2_x a, k_fgt_ne (by omega), u2_ne (by omega)]
  have zv : ∀ F, F = 113 ∨ F = 114 ∨ F = 115 ∨ F = 116 → k_sL0 z.1 j F j = 0 := fun F hF => by unfold k_sL0; exact lvP_v hF
  have z14 : k_sL0 z.1 j 14 0 = y.1 9 j := by unfold k_sL0; rw [k_lvP_ne (by decide), k_fgt_ne (by decide), u2_ss, i113]
  have zf : k_sL0 z.1 j 122 0 = -1 ∧ k_sL0 z.1 j 123 0 = -1 ∧ k_sL0 z.1 j 133 0 = 0 ∧ k_sL0 z.1 j 135 0 = 0 := by
    unfold k_sL0
    rw [k_lvP_ne (by decide), k_lvP_ne (by decide), k_lvP_ne (by decide), k_lvP_ne (by decide)]
    exact fgt_v
  have es : ∀ f, f ≠ 8 ∧ f ≠ 11 ∧ f ≠ 14 ∧ f ≠ 53 ∧ f ≠ 55 ∧ f ≠ 56 → m_sL0 y.1 j f = y.1 f := fun f h => by
    unfold m_sL0; rw [noCh_ne h.2.2.2.1 h.2.2.2.2.1 h.2.2.2.2.2, u2_ne h.1, u2_ne h.2.1, u2_ne h.2.2.1]
  have eh : ∀ f x, x ≠ j → f ≠ 14 → m_sL0 y.1 j f x = y.1 f x := fun f x a b => by
    unfold m_sL0 m_noCh; rw [u2_x a, u2_x a, u2_x a, u2_x a, u2_x a, u2_ne b]
  have s11 : m_sL0 y.1 j 11 j = 0 := by unfold m_sL0; rw [noCh_ne (by decide) (by decide) (by decide), u2_ne (by decide), u2_ss]
  have s14 : m_sL0 y.1 j 14 0 = y.1 9 j := by unfold m_sL0; rw [noCh_ne (by decide) (by decide) (by decide), u2_ne (by decide), u2_ne (by decide), u2_ss]
  generalize k_sL0 z.1 j = U at *
  generalize m_sL0 y.1 j = s' at *
  have s7 : s' 7 j = 1 := by rw [es 7 (by decide)]; exact h7
  have ag : AgE y.1 s' y.2 y.2 := AgE_ne (fun f h1 h2 => es f (by omega)) rfl
  have hD : ∀ h, nI h = s' 61 0 → nI h = y.1 61 0 ∧ ∀ p, p < pg → s' 63 p = y.1 63 p := fun h w => ⟨by rw [← es 61 (by decide)]; exact w, fun p _ => by rw [es 63 (by decide)]⟩
  refine ⟨?_, fun h hhn => ?_, Or.inl ⟨fun l hl w => ?_, zf⟩, RD_fr hd' (fun f h1 h2 => ez f (by omega) (by omega) (by omega) (by omega) (by omega)) (fun f h1 h2 => es f (by omega)), hxN, TK_nf ht (by omega) (fun f hf => es f (by omega)), CM_nf hm' (fun f hf => es f (by omega))⟩
  · obtain ⟨g1, g2, g3, g4, g5, g6, g7, g8⟩ := hg
    unfold RG
    show U 5 0 = s' 5 0 ∧ (∀ i, i < 256 * pg → U 6 i = s' 6 i) ∧ U 13 0 = s' 13 0 ∧ U 14 0 = s' 14 0 ∧ U 62 0 = s' 62 0 ∧ (∀ i, i < 512 → U 64 i = s' 64 i) ∧ U 2 0 = nI pg ∧ U 3 0 = nI rm
    have e : ∀ f, f = 5 ∨ f = 6 ∨ f = 13 ∨ f = 62 ∨ f = 64 ∨ f = 2 ∨ f = 3 → U f = z.1 f := fun f hf => ez f (by omega) (by omega) (by omega) (by omega) (by omega)
    rw [e 5 (by omega), e 6 (by omega), e 13 (by omega), e 62 (by omega), e 64 (by omega), e 2 (by omega), e 3 (by omega), es 5 (by decide), es 6 (by decide), es 13 (by decide), es 62 (by decide), es 64 (by decide), z14, s14]
    exact ⟨g1, g2, g3, rfl, g5, g6, g7, g8⟩
  · by_cases x : h = j
    · subst x
      obtain ⟨ra, rt⟩ := hh h hhn
      have n23 : ¬ (s' 7 h = 2 ∨ s' 7 h = 3) := by rw [s7]; decide
      refine ⟨RA_nf ra (fun f hf => es f (by omega)) (fun f hf => ez f (by omega) (by omega) (by omega) (by omega) (by omega)) (hD h), ?_, rt.2.1, ?_, ?_, ?_, ⟨fun _ => ⟨?_, ?_, ?_, fun _ => ⟨zv 114 (by omega), zv 113 (by omega)⟩, fun w => absurd s11 w⟩, fun w => absurd s7 w, fun w => absurd w n23, fun w => absurd (Or.inl s7) w⟩, fun w => absurd w n23, ?_⟩
      · show U 37 h = s' 37 h; rw [ez 37 (by decide) (by decide) (by decide) (by decide) (by decide), es 37 (by decide)]; exact rt.1
      · show U 7 h = s' 7 h; rw [ez 7 (by decide) (by decide) (by decide) (by decide) (by decide), es 7 (by decide)]; exact rt.2.2.1
      · show U 10 h = s' 10 h; rw [ez 10 (by decide) (by decide) (by decide) (by decide) (by decide), es 10 (by decide)]; exact rt.2.2.2.1
      · show U 111 h = _; rw [ez 111 (by decide) (by decide) (by decide) (by decide) (by decide)]; exact rt.2.2.2.2.1
      · show U 115 h = s' 11 h; rw [zv 115 (by omega), s11]
      · show U 116 h = s' 12 h; rw [zv 116 (by omega), es 12 (by decide), lk.2]
      · show U 121 h = 0; rw [ez 121 (by decide) (by decide) (by decide) (by decide) (by decide)]; exact i121
      · have f3 := rt.2.2.2.2.2.2.2.1 (Or.inl h7)
        refine ⟨fun _ => ?_, fun w => absurd (Or.inl s7) w⟩
        show U 38 h = s' 38 h ∧ ∀ i, i < cl (s' 38 h) → KE s' U h i
        unfold KE k_sl at f3 ⊢
        rw [ez 38 (by decide) (by decide) (by decide) (by decide) (by decide), ez 112 (by decide) (by decide) (by decide) (by decide) (by decide), ez 117 (by decide) (by decide) (by decide) (by decide) (by decide), es 38 (by decide), es 39 (by decide), es 43 (by decide), es 31 (by decide)]
        exact f3
    · refine RH_frV V (by omega) (by omega) (hh h hhn) ⟨fun f i hf hi => ?_, rfl, fun _ => rfl, fun _ _ _ _ => rfl⟩ ⟨⟨fun f i hf hi => ?_, rfl⟩, fun i _ => ?_⟩ ag (hD h)
      · show U f _ = z.1 f _
        have q := of_decide_eq_true hf
        by_cases y1 : 113 ≤ f ∧ f ≤ 116
        · have e1 : zS f = 1 := by
            rcases (by omega : f = 113 ∨ f = 114 ∨ f = 115 ∨ f = 116) with e | e | e | e <;> subst e <;> rfl
          rw [e1] at hi ⊢
          rw [zh f _ (by omega) y1.1 y1.2]
        · rw [ez f (by omega) (by omega) (by omega) (by omega) (by omega)]
      · show s' f _ = y.1 f _
        have q := of_decide_eq_true hf
        by_cases y1 : f = 8 ∨ f = 11 ∨ f = 53 ∨ f = 55 ∨ f = 56
        · have e1 : h_s f = 1 := by rcases y1 with e | e | e | e | e <;> subst e <;> rfl
          rw [e1] at hi ⊢
          rw [eh f _ (by omega) (by omega)]
        · rw [es f (by omega)]
      · show s' 43 _ = y.1 43 _
        rw [es 43 (by decide)]
  · have w' : ¬ s' 11 l = 0 ∧ s' 12 l = 0 := w
    by_cases x : l = j
    · subst x; exact w'.1 s11
    · rw [eh 11 l x (by decide), es 12 (by decide)] at w'
      exact x (uniq l hl w')
theorem RR_spL {n pg rm c j : Nat} {z : CZ} {y : RZ} (S : SC n pg rm c z.1) (S1 : SC n pg rm (c + 1) (k_sL0 z.1 j)) (V : CV n pg rm c y.1 y.2) (hc : c ≤ 511) (H : RR n pg rm c z y) (hj : j < n) (hA : SpIs y.1 j = true) (hm : ¬ y.1 9 j ≤ y.1 14 0) : RR n pg rm (c + 1) (k_la (k_sL0 z.1 j) j, z.2) (m_spL y.1 j, y.2) := by
  have hn4 := V.g.1.2.2.2.2.2.2.1
  have hp16 : pg ≤ 16 := V.g.1.2.2.2.2.2.2.2.2.1
  have R0 := RR_sL0 V hc H hj hA hm
  obtain ⟨l0, inv⟩ := id V
  have hH := inv.2.1 j (by omega)
  have h7 := (of_decide_eq_true hA).1
  have es : ∀ f, f ≠ 8 ∧ f ≠ 11 ∧ f ≠ 14 ∧ f ≠ 53 ∧ f ≠ 55 ∧ f ≠ 56 → m_sL0 y.1 j f = y.1 f := fun f h => by
    unfold m_sL0; rw [noCh_ne h.2.2.2.1 h.2.2.2.2.1 h.2.2.2.2.2, u2_ne h.1, u2_ne h.2.1, u2_ne h.2.2.1]
  have R1 := RR_la (z := (k_sL0 z.1 j, z.2)) (y := (m_sL0 y.1 j, y.2)) (M := 2000 * c) (l := l0) hp16 hn4 (by omega) (by omega) hj S1 (fun h hh => Hw_up (Hw_nf (inv.2.1 h (by omega)).w (fun f hf => es f (by omega))) (by omega)) R0 (by show m_sL0 y.1 j 7 j = 1; rw [es 7 (by decide)]; exact h7) (HI_nf hH.1 (fun f hf => es f (by omega)) rfl) (by show nb (m_sL0 y.1 j 10 j) (c + 1); rw [es 10 (by decide)]; exact nb_up hH.2.2.2.2.1 (by omega)) (OI_up (OI_nf inv.2.2.1 (fun f hf => es f (by omega))) (by omega)) (Or.inl (by show cl (m_sL0 y.1 j 66 0) ≤ c + 1; rw [es 66 (by decide)]; exact Nat.le_trans inv.2.2.1.2.1.2 (by omega)))
  have e : m_spL y.1 j = m_lall (m_sL0 y.1 j) j (cl (y.1 38 j)) := rfl
  dsimp only at R1
  rw [es 38 (by decide)] at R1
  rw [e]
  exact R1
