theorem RR_74 {n pg rm c : Nat} {z : CZ} {y : RZ} {s' : (Nat → Nat → Int32)} (hp16 : pg ≤ 16) (hc : c ≤ 512) (Vh : ∀ h, h < n → Hw pg c y.1 h) (H : RR n pg rm c z y) (e : ∀ f, f ≠ 74 → s' f = y.1 f) : RR n pg rm c z (s', y.2) := by
  obtain ⟨hg, hh, hp, hd', hx, ht, hm⟩ := H
  have ag : AgE y.1 s' y.2 y.2 := AgE_ne (fun f h1 h2 => e f (by omega)) rfl
  refine ⟨RG_nf hg (fun _ _ => rfl) (fun f hf => e f (by omega)), fun h hhn => ?_, RP_fr hp (fun _ _ => rfl) (fun _ => ⟨rfl, rfl⟩) (fun _ _ _ _ => rfl) (fun _ _ _ _ => rfl) (fun f hf => e f (by omega)) ag, RD_fr hd' (fun _ _ _ => rfl) (fun f h1 h2 => e f (by omega)), EX_nf hx (Nat.le_refl _) (fun f hf => e f (by omega)), TK_nf ht (Nat.le_refl _) (fun f hf => e f (by omega)), CM_nf hm (fun f hf => e f (by omega))⟩
  refine RH_frw (Vh h hhn) hp16 (by omega) (hh h hhn) (CS.nf (fun _ _ => rfl) rfl) (RS.nf (fun f hf => ?_) rfl) ag (fun q => ⟨by rw [← e 61 (by decide)]; exact q, fun p _ => e 63 (by decide) ▸ rfl⟩)
  rcases hf with q | q
  · have := of_decide_eq_true q; exact e f (by omega)
  · exact e f (by omega)
theorem RR_112 {n pg rm c j : Nat} {z : CZ} {y : RZ} {C : (Nat → Nat → Int32)} (hp16 : pg ≤ 16) (hc : c ≤ 512) (Vh : ∀ h, h < n → Hw pg c y.1 h) (H : RR n pg rm c z y) (hj : j < n) (h38 : cl (y.1 38 j) = 0) (e : ∀ f, (f < 112 ∨ 119 < f) → C f = z.1 f) (e2 : ∀ f, 113 ≤ f → f ≤ 116 → C f = z.1 f) (eh : ∀ f h i, h ≠ j → 112 ≤ f → f ≤ 119 → i < zS f → C f (zS f * h + i) = z.1 f (zS f * h + i)) : RR n pg rm c (C, z.2) y := by
  obtain ⟨hg, hh, hp, hd', hx, ht, hm⟩ := H
  have ag : AgE y.1 y.1 y.2 y.2 := AgE_ne (fun _ _ _ => rfl) rfl
  refine ⟨RG_nf hg (fun f hf => e f (by omega)) (fun _ _ => rfl), fun h hhn => ?_, RP_fr hp (fun f hf => e f (by omega)) (fun _ => ⟨rfl, rfl⟩) (fun _ _ _ _ => rfl) (fun _ _ _ _ => rfl) (fun _ _ => rfl) ag, RD_fr hd' (fun f h1 h2 => e f (by omega)) (fun _ _ _ => rfl), hx, ht, hm⟩
  by_cases x : h = j
  · subst x
    obtain ⟨ra, h37, h19, e7, h10, h111, f1, f2, f3⟩ := hh h hhn
    refine ⟨RA_nf ra (fun _ _ => rfl) (fun f hf => e f (by omega)) (fun w => ⟨w, fun _ _ => rfl⟩), ?_, h19, ?_, ?_, ?_, ?_, fun w i hi => ?_, ⟨fun w => ⟨?_, fun i hi => ?_⟩, fun w => ?_⟩⟩
    · show C 37 h = _; rw [e 37 (by omega)]; exact h37
    · show C 7 h = _; rw [e 7 (by omega)]; exact e7
    · show C 10 h = _; rw [e 10 (by omega)]; exact h10
    · show C 111 h = _; rw [e 111 (by omega)]; exact h111
    · show RF1 y.1 C h
      unfold RF1 at f1 ⊢
      rw [e2 113 (by omega) (by omega), e2 114 (by omega) (by omega), e2 115 (by omega) (by omega), e2 116 (by omega) (by omega), e 121 (by omega)]
      exact f1
    · obtain ⟨a, a1, a2⟩ := f2 w i hi
      refine ⟨a, ?_, a2⟩
      show z.2.2.1 h (k_wr 512 (cl (C 120 h) + i)) = some a
      rw [e 120 (by omega)]; exact a1
    · show C 38 h = _; rw [e 38 (by omega)]; exact (f3.1 w).1
    · have hi' : i < cl (y.1 38 h) := hi
      omega
    · show C 38 h = _; rw [e 38 (by omega)]; exact f3.2 w
  · refine RH_frw (Vh h hhn) hp16 (by omega) (hh h hhn) ⟨fun f i hf hi => ?_, rfl, fun _ => rfl, fun _ _ _ _ => rfl⟩ (RS.nf (fun _ _ => rfl) rfl) ag (fun w => ⟨w, fun _ _ => rfl⟩)
    show C f _ = z.1 f _
    by_cases q : f < 112 ∨ 119 < f
    · rw [e f q]
    · exact eh f h i x (by omega) (by omega) hi
def StY (n pg rm j : Nat) (z z' : CZ) : Prop :=
  (k_ad3 z.2.1 pg j z.1 106 j = 0 ∧ z' = (k_ad3 z.2.1 pg j z.1, t2 z.2.1 19 j (z.2.1 19 j + 1), z.2.2)) ∨
  (¬ k_ad3 z.2.1 pg j z.1 106 j = 0 ∧ (k_ad3 z.2.1 pg j z.1 7 j = 1 → k_ad3 z.2.1 pg j z.1 115 j = 0) ∧ z' = (k_hd0 (k_ad4 z.2.1 pg j z.1) j, t2 z.2.1 19 j (z.2.1 19 j + 1), z.2.2)) ∨
  (¬ k_ad3 z.2.1 pg j z.1 106 j = 0 ∧ k_ad3 z.2.1 pg j z.1 7 j = 1 ∧ ¬ k_ad3 z.2.1 pg j z.1 115 j = 0 ∧ ∃ a, FRQ n rm z.2.2.1 z.1 a ∧ z' = (k_icS (k_kp (k_ad4 z.2.1 pg j z.1) j) rm j, t2 z.2.1 19 j (z.2.1 19 j + 1), k_icR z.2.2.1 (k_ad4 z.2.1 pg j z.1) rm j a, eu z.2.2.2 a (0, 0, none, t2 z.2.1 19 j (z.2.1 19 j + 1) 19 j, k_ad4 z.2.1 pg j z.1 37 j - k_kp (k_ad4 z.2.1 pg j z.1) j 38 j)))
theorem StZ_Y {n pg rm j : Nat} {z z' : CZ} (H : StZ n pg rm j z z') : k_adG n pg j (k_ad0 z.2.2.2 z.2.2.1 z.2.1 pg j z.1) ∧ StY n pg rm j (k_ad0 z.2.2.2 z.2.2.1 z.2.1 pg j z.1, z.2) z' := H
theorem nx_e {s : (Nat → Nat → Int32)} {τ : (Nat → Nat → Int64)} {j f : Nat} (hf : f ≠ 74) : m_nx0 s τ j f = m_pst (m_stx s τ j) j f := by
  unfold m_nx0 m_stS
  split
  · rw [u2_ne hf]
  · rw [u2_ne hf, u2_ne hf]
