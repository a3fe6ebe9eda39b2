def Hw (pg c : Nat) (s : (Nat → Nat → Int32)) (h : Nat) : Prop := v_B (256 * pg) h s ∧ CB c s h ∧ nb (s 38 h) 100
theorem HH.w {pg rm M c h : Nat} {l : Nat → Nat} {s : (Nat → Nat → Int32)} {τ : (Nat → Nat → Int64)} (V : HH (256 * pg) rm M c l s τ h) : Hw pg c s h := ⟨V.1.1, V.2.2.2.2.2.1, V.1.2.2.2.2.2.2.1⟩
theorem RH_frw {pg c j : Nat} {z z' : CZ} {y y' : RZ} (V : Hw pg c y.1 j) (hp : pg ≤ 16) (hc : c ≤ 4200) (H : RH pg z y j) (hz : CS j z z') (hy : RS j y y') (ag : AgE y.1 y'.1 y.2 y'.2) (hD : nI j = y'.1 61 0 → nI j = y.1 61 0 ∧ ∀ p, p < pg → y'.1 63 p = y.1 63 p) : RH pg z' y' j := by
  obtain ⟨v1, v2, v3⟩ := V
  obtain ⟨ra, h37, h19, h7, h10, h111, f1, f2, f3⟩ := H
  refine ⟨RA_fr v1 ra hz hy hD hp, ?_, ?_, ?_, ?_, ?_, RF1_fr f1 hz.r hy.r, RF2_fr v2 hc f1 f2 hz.r hy.r ag, RF3_fr v3.2 f3 hz.r hy.r⟩
  · rw [hz.r.g1 37 rfl, hy.r.g1 37 rfl]; exact h37
  · rw [hz.2.1, hy.1.2]; exact h19
  · rw [hz.r.g1 7 rfl, hy.r.g1 7 rfl]; exact h7
  · rw [hz.r.g1 10 rfl, hy.r.g1 10 rfl]; exact h10
  · rw [hz.r.g1 111 rfl]; exact h111
theorem RR_op {n pg rm c j : Nat} {z : CZ} {y : RZ} {s' : (Nat → Nat → Int32)} (hp16 : pg ≤ 16) (hn4 : n ≤ 4) (hc : c ≤ 512) (Vh : ∀ h, h < n → Hw pg c y.1 h) (H : RR n pg rm c z y) (hj : j < n) (g : gst y.1 j) (w : NW j y.1) (h27 : y.1 27 j = 1) (b66 : nb (y.1 66 0) 4000) (h65 : cl (y.1 65 0) ≤ cl (y.1 66 0)) (es : ∀ f, f < 66 ∨ 71 < f → s' f = y.1 f) (s66 : s' 66 0 = y.1 66 0 + 1) (s67 : ∀ x, s' 67 x = if x = cl (y.1 66 0) then nI j else y.1 67 x) (s68 : ∀ x, s' 68 x = if x = cl (y.1 66 0) then y.1 10 j else y.1 68 x) (s69 : ∀ x, s' 69 x = if x = cl (y.1 66 0) then y.1 28 j else y.1 69 x) (s70 : ∀ x, s' 70 x = if x = cl (y.1 66 0) then y.1 29 j else y.1 70 x) (s71 : ∀ q x, x < 64 → s' 71 (64 * q + x) = if q = cl (y.1 66 0) then y.1 31 (64 * j + x) else y.1 71 (64 * q + x)) : RR n pg rm c (k_dap z.1 j, z.2) (s', y.2) := by
  obtain ⟨hg, hh, hp, hd', hx, ht, hm⟩ := H
  have room := TK_room ht hc (show j < 4 by omega) g w
  have c66 := b66.2
  have e125 : cl (z.1 125 0) = cl (y.1 66 0) - cl (y.1 65 0) := by rw [hd'.1, cl_nI (by omega)]
  obtain ⟨ra, rt⟩ := hh j hj
  have ez : ∀ f, f < 125 ∨ 131 < f → k_dap z.1 j f = z.1 f := fun f hf => k_dap_ne hf
  have ag : AgE y.1 s' y.2 y.2 := AgE_ne (fun f h1 h2 => es f (by omega)) rfl
  have e28 : z.1 28 j = y.1 28 j := w_g1 28 ra.1 rfl
  have e29 : z.1 29 j = y.1 29 j := w_g1 29 ra.1 rfl
  have e31 : ∀ x, x < 64 → z.1 31 (64 * j + x) = y.1 31 (64 * j + x) := fun x hx => w_g 31 ra.1 rfl hx (by decide)
  have e10 : z.1 10 j = y.1 10 j := rt.2.2.2.1
  have e111 : z.1 111 j = nI j := rt.2.2.2.2.1
  have ed : k_dap z.1 j = k_dapp z.1 j ((cl (z.1 124 0) + cl (z.1 125 0)) % 128) (cl (z.1 125 0)) (z.1 111 j) (z.1 10 j) := by unfold k_dap; rw [if_neg (by omega)]
  have hI : (cl (z.1 124 0) + cl (z.1 125 0)) % 128 < 128 := Nat.mod_lt _ (by decide)
  generalize eI : (cl (z.1 124 0) + cl (z.1 125 0)) % 128 = I at *
  have rd : RD (k_dap z.1 j, z.2) (s', y.2) := by
    refine RD_op (I := I) (k := y.1 28 j) (b := y.1 29 j) (hv := nI j) (lv := y.1 10 j) (d := fun x => y.1 31 (64 * j + x)) hd' b66 h65 room eI.symm ?_ ?_ (fun x => ?_) (fun x => ?_) (fun x => ?_) (fun x => ?_) (fun q x hx => ?_) ?_ s66 s67 s68 s69 s70 s71
    · show k_dap z.1 j 124 0 = _; rw [ez 124 (by omega)]
    · show k_dap z.1 j 125 0 = _; rw [ed]; unfold k_dapp; rw [u2_ss]
    · show k_dap z.1 j 126 x = _
      rw [ed]; unfold k_dapp k_cpQ
      rw [u2_ne (by decide), u2_ne (by decide), u2_ne (by decide), k_cp_ne (by decide), u2_ne (by decide), u2_ne (by decide), u2_i, e28]
    · show k_dap z.1 j 127 x = _
      rw [ed]; unfold k_dapp k_cpQ
      rw [u2_ne (by decide), u2_ne (by decide), u2_ne (by decide), k_cp_ne (by decide), u2_ne (by decide), u2_i, u2_ne (by decide), e29]
    · show k_dap z.1 j 129 x = _
      rw [ed]; unfold k_dapp k_cpQ
      rw [u2_ne (by decide), u2_ne (by decide), u2_i, k_cp_ne (by decide), u2_ne (by decide), u2_ne (by decide), u2_ne (by decide), e111]
    · show k_dap z.1 j 130 x = _
      rw [ed]; unfold k_dapp k_cpQ
      rw [u2_ne (by decide), u2_i, u2_ne (by decide), k_cp_ne (by decide), u2_ne (by decide), u2_ne (by decide), u2_ne (by decide), e10]
    · show k_dap z.1 j 131 (64 * q + x) = _
      rw [ed]; unfold k_dapp k_cpQ
      rw [u2_ne (by decide), u2_ne (by decide), u2_ne (by decide)]
      by_cases qq : q = I
      · have := k_cp_in (σ := u2 (u2 (u2 z.1 126 I (z.1 28 j)) 127 I (z.1 29 j)) 128 I (z.1 30 j)) (A := 31) (a := 64 * j + 0) (B := 131) (b := 64 * I + 0) hx
        rw [Nat.add_zero, Nat.add_zero] at this
        rw [if_pos qq, qq, Nat.add_zero, Nat.add_zero, this, u2_ne (by decide), u2_ne (by decide), u2_ne (by decide)]
        exact e31 x hx
      · rw [if_neg qq, k_cp_out (by omega), u2_ne (by decide), u2_ne (by decide), u2_ne (by decide)]
    · show s' 65 0 = _; rw [es 65 (by omega)]
  refine ⟨RG_nf hg (fun f hf => ez f (by omega)) (fun f hf => es f (by omega)), fun h hhn => ?_, RP_fr hp (fun f hf => ez f (by omega)) (fun _ => ⟨rfl, rfl⟩) (fun _ _ _ _ => rfl) (fun _ _ _ _ => rfl) (fun f hf => es f (by omega)) ag, rd, EX_nf hx (Nat.le_refl _) (fun f hf => es f (by omega)), TK_op (s' := s') ht (by omega) g w b66 h65 (congrFun (es 65 (by omega)) 0) s66 s67 s68 (fun f hf => es f (by omega)), ?_⟩
  · have V := Vh h hhn
    refine RH_frw V hp16 (by omega) (hh h hhn) (CS.nf (fun f hf => ez f ?_) rfl) (RS.nf (fun f hf => es f ?_) rfl) ag (fun q => ⟨?_, fun p _ => ?_⟩)
    · have := of_decide_eq_true hf; omega
    · rcases hf with q | q
      · have := of_decide_eq_true q; omega
      · omega
    · have q' : nI h = s' 61 0 := q
      rw [es 61 (by omega)] at q'; exact q'
    · show s' 63 p = _; rw [es 63 (by omega)]
  · show CM n s'
    unfold CM
    rw [es 27 (by omega), es 28 (by omega), es 65 (by omega), s66, (cl_inc b66 (by omega)).2]
    refine ⟨hm.1, fun o h1 h2 => ?_⟩
    rw [s69]
    by_cases x : o = cl (y.1 66 0)
    · rw [if_pos x]; exact hm.1 j hj h27
    · rw [if_neg x]; exact hm.2 o h1 (by omega)
