def zS (f : Nat) : Nat := if f = 117 ∨ f = 118 then 64 else if f = 119 then 2048 else w_s f
def zF (f : Nat) : Bool := decide (f = 7 ∨ f = 10 ∨ (15 ≤ f ∧ f ≤ 38) ∨ (100 ≤ f ∧ f ≤ 105) ∨ (111 ≤ f ∧ f ≤ 121))
def CS (j : Nat) (z z' : CZ) : Prop := (∀ f i, zF f = true → i < zS f → z'.1 f (zS f * j + i) = z.1 f (zS f * j + i)) ∧ z'.2.1 19 j = z.2.1 19 j ∧ (∀ i, z'.2.2.1 j i = z.2.2.1 j i) ∧ ∀ i a, i < cl (z.1 121 j) → z.2.2.1 j (k_wr 512 (cl (z.1 120 j) + i)) = some a → z'.2.2.2 a = z.2.2.2 a
def RS (j : Nat) (y y' : RZ) : Prop := Sm j y.1 y'.1 y.2 y'.2 ∧ ∀ x, x < 8192 → y'.1 43 (8192 * j + x) = y.1 43 (8192 * j + x)
theorem zS_lo {f : Nat} (h : f < 100) : zS f = v_s f := by
  unfold zS w_s
  rw [if_neg (by omega), if_neg (by omega), if_neg (by omega), if_neg (by omega), if_neg (by omega), if_neg (by omega), if_neg (by omega)]
theorem hs_v {f : Nat} (h : f < 52) : h_s f = v_s f := by
  unfold h_s
  rw [if_neg (by omega), if_neg (by omega)]
theorem wf_r {f : Nat} (h : w_f f = true) : 15 ≤ f ∧ f ≤ 35 ∧ f ≠ 19 := by
  rcases wf_l h with e | e | e | e | e | e | e | e | e | e | e | e | e | e | e | e | e | e <;> subst e <;> decide
theorem CS.g1 {j : Nat} {z z' : CZ} (H : CS j z z') (f : Nat) (hf : (zF f && decide (zS f = 1)) = true) : z'.1 f j = z.1 f j := by
  rw [Bool.and_eq_true] at hf
  have e : zS f = 1 := of_decide_eq_true hf.2
  have := H.1 f 0 hf.1 (by omega)
  rwa [e, show 1 * j + 0 = j by omega] at this
theorem RS.g1 {j : Nat} {y y' : RZ} (H : RS j y y') (f : Nat) (hf : (h_f f && decide (h_s f = 1)) = true) : y'.1 f j = y.1 f j := by
  rw [Bool.and_eq_true] at hf
  have e : h_s f = 1 := of_decide_eq_true hf.2
  have := H.1.1 f 0 hf.1 (by omega)
  rwa [e, show 1 * j + 0 = j by omega] at this
theorem RA_fr {pg j : Nat} {z z' : CZ} {y y' : RZ} (hB : v_B (256 * pg) j y.1) (H : RA pg j y.1 z.1) (hz : CS j z z') (hy : RS j y y') (hD : nI j = y'.1 61 0 → nI j = y.1 61 0 ∧ ∀ p, p < pg → y'.1 63 p = y.1 63 p) (hp : pg ≤ 16) : RA pg j y'.1 z'.1 := by
  obtain ⟨hE, ⟨k1, k2⟩, ⟨p1, p2⟩, ⟨a1, a2, a3⟩, d⟩ := H
  have e33 := hy.g1 33 rfl
  have e35 := hy.g1 35 rfl
  have c33 : cl (y.1 33 j) ≤ 16 := hB.2.2.2.1.2
  have c35 : cl (y.1 35 j) ≤ 4 := hB.2.2.2.2.1.2
  have e101 := hz.g1 101 rfl
  have e104 := hz.g1 104 rfl
  refine ⟨fun f i hf hi h15 => ?_, ⟨by rw [e101]; exact k1, fun i hi => ?_⟩, ⟨by rw [e104]; exact p1, fun i hi => ?_⟩, ⟨?_, ?_, ?_⟩, fun q p hp2 => ?_⟩
  · obtain ⟨f1, f2, f3⟩ := wf_r hf
    have c := hz.1 f i (decide_eq_true (Or.inr (Or.inr (Or.inl ⟨f1, by omega⟩)))) (by rw [zS_lo (by omega)]; exact hi)
    have r := hy.1.1 f i (decide_eq_true (Or.inr (Or.inl ⟨f1, by omega, f3⟩))) (by rw [hs_v (by omega)]; exact hi)
    rw [zS_lo (by omega)] at c
    rw [hs_v (by omega)] at r
    rw [c, r]; exact hE f i hf hi h15
  · rw [e33] at hi
    have c := hz.1 100 ((cl (z.1 101 j) + i) % 16) rfl (Nat.mod_lt _ (by decide))
    have r := hy.1.1 32 i rfl (by show i < 16; omega)
    rw [e101]
    exact c.trans ((k2 i hi).trans r.symm)
  · rw [e35] at hi
    obtain ⟨q1, q2, q3⟩ := p2 i hi
    have c34 : cl (y.1 34 (4 * j + i)) ≤ 32 := (hB.2.2.2.2.2.1 i (by omega)).2
    have c := hz.1 102 ((cl (z.1 104 j) + i) % 4) rfl (Nat.mod_lt _ (by decide))
    have r : y'.1 34 (4 * j + i) = y.1 34 (4 * j + i) := hy.1.1 34 i rfl (by show i < 4; omega)
    have m4 : (cl (z.1 104 j) + i) % 4 < 4 := Nat.mod_lt _ (by decide)
    rw [e104, r]
    refine ⟨c.trans q1, q2, fun t ht => ?_⟩
    have c2 := hz.1 103 (32 * ((cl (z.1 104 j) + i) % 4) + t) rfl (by show _ < 128; omega)
    have r2 := hy.1.1 36 (32 * i + t) rfl (by show _ < 128; omega)
    exact c2.trans ((q3 t ht).trans r2.symm)
  · rw [hy.g1 17 rfl]; exact a1
  · have r : y'.1 18 (7 * j + 2) = y.1 18 (7 * j + 2) := hy.1.1 18 2 rfl (by decide)
    rw [r]; exact a2
  · have r : y'.1 18 (7 * j + 4) = y.1 18 (7 * j + 4) := hy.1.1 18 4 rfl (by decide)
    rw [r]; exact a3
  · obtain ⟨d1, d2⟩ := hD q
    rw [d2 p hp2]
    have c := hz.1 105 p rfl (by show p < 16; omega)
    exact c.trans (d d1 p hp2)
def zR (f : Nat) : Bool := decide (f = 7 ∨ f = 10 ∨ f = 37 ∨ f = 38 ∨ (111 ≤ f ∧ f ≤ 121))
def yR (f : Nat) : Bool := decide (f = 7 ∨ f = 9 ∨ f = 10 ∨ f = 11 ∨ f = 12 ∨ f = 31 ∨ f = 37 ∨ f = 38 ∨ f = 39 ∨ f = 55 ∨ f = 57 ∨ f = 58 ∨ f = 59)
def CSr (j : Nat) (z z' : CZ) : Prop := (∀ f i, zR f = true → i < zS f → z'.1 f (zS f * j + i) = z.1 f (zS f * j + i)) ∧ z'.2.1 19 j = z.2.1 19 j ∧ (∀ i, z'.2.2.1 j i = z.2.2.1 j i) ∧ ∀ i a, i < cl (z.1 121 j) → z.2.2.1 j (k_wr 512 (cl (z.1 120 j) + i)) = some a → z'.2.2.2 a = z.2.2.2 a
def RSr (j : Nat) (y y' : RZ) : Prop := (∀ f i, yR f = true → i < h_s f → y'.1 f (h_s f * j + i) = y.1 f (h_s f * j + i)) ∧ y'.2 19 j = y.2 19 j ∧ ∀ x, x < 8192 → y'.1 43 (8192 * j + x) = y.1 43 (8192 * j + x)
theorem zR_zF {f : Nat} (h : zR f = true) : zF f = true := by
  have := of_decide_eq_true h
  exact decide_eq_true (by omega)
theorem yR_hf {f : Nat} (h : yR f = true) : h_f f = true := by
  have := of_decide_eq_true h
  exact decide_eq_true (by omega)
theorem CS.r {j : Nat} {z z' : CZ} (H : CS j z z') : CSr j z z' := ⟨fun f i hf hi => H.1 f i (zR_zF hf) hi, H.2⟩
theorem RS.r {j : Nat} {y y' : RZ} (H : RS j y y') : RSr j y y' := ⟨fun f i hf hi => H.1.1 f i (yR_hf hf) hi, H.1.2, H.2⟩
theorem CSr.g1 {j : Nat} {z z' : CZ} (H : CSr j z z') (f : Nat) (hf : (zR f && decide (zS f = 1)) = true) : z'.1 f j = z.1 f j := by
  rw [Bool.and_eq_true] at hf
  have e : zS f = 1 := of_decide_eq_true hf.2
  have := H.1 f 0 hf.1 (by omega)
  rwa [e, show 1 * j + 0 = j by omega] at this
theorem RSr.g1 {j : Nat} {y y' : RZ} (H : RSr j y y') (f : Nat) (hf : (yR f && decide (h_s f = 1)) = true) : y'.1 f j = y.1 f j := by
  rw [Bool.and_eq_true] at hf
  have e : h_s f = 1 := of_decide_eq_true hf.2
  have := H.1 f 0 hf.1 (by omega)
  rwa [e, show 1 * j + 0 = j by omega] at this
theorem RF1_fr {j : Nat} {z z' : CZ} {y y' : RZ} (H : RF1 y.1 z.1 j) (hz : CSr j z z') (hy : RSr j y y') : RF1 y'.1 z'.1 j := by
  unfold RF1 gst at H ⊢
  rw [hy.g1 7 rfl, hy.g1 9 rfl, hy.g1 11 rfl, hy.g1 12 rfl, hy.g1 55 rfl, hy.g1 58 rfl, hy.g1 59 rfl, hz.g1 113 rfl, hz.g1 114 rfl, hz.g1 115 rfl, hz.g1 116 rfl, hz.g1 121 rfl]
  exact H
theorem gst_fr {j : Nat} {y y' : RZ} (hy : RSr j y y') : gst y'.1 j ↔ gst y.1 j := by unfold gst; rw [hy.g1 7 rfl]
theorem RF3_fr {j : Nat} {z z' : CZ} {y y' : RZ} (h38 : cl (y.1 38 j) ≤ 100) (H : RF3 y.1 z.1 j) (hz : CSr j z z') (hy : RSr j y y') : RF3 y'.1 z'.1 j := by
  obtain ⟨h1, h2⟩ := H
  refine ⟨fun g => ?_, fun g => by rw [hz.g1 38 rfl]; exact h2 (fun q => g ((gst_fr hy).mpr q))⟩
  obtain ⟨e, k⟩ := h1 ((gst_fr hy).mp g)
  rw [hy.g1 38 rfl]
  refine ⟨by rw [hz.g1 38 rfl]; exact e, fun i hi => ?_⟩
  obtain ⟨k1, k2⟩ := k i hi
  have e39 : y'.1 39 (128 * j + i) = y.1 39 (128 * j + i) := hy.1 39 i rfl (by show i < 128; omega)
  have es : k_sl z'.1 j i = k_sl z.1 j i := by unfold k_sl; rw [hz.g1 112 rfl]
  have c : z'.1 117 (k_sl z.1 j i) = z.1 117 (k_sl z.1 j i) := hz.1 117 ((cl (z.1 112 j) + i) % 64) rfl (Nat.mod_lt _ (by decide))
  refine ⟨by rw [es, c, e39]; exact k1, fun q x hx => ?_⟩
  rw [e39] at q
  have r : y'.1 31 (64 * j + x) = y.1 31 (64 * j + x) := hy.1 31 x rfl hx
  have r2 := hy.2.2 (64 * i + x) (by omega)
  rw [show 8192 * j + (64 * i + x) = 64 * (128 * j + i) + x by omega] at r2
  rw [r, r2]; exact k2 q x hx
theorem RF2_fr {c j : Nat} {z z' : CZ} {y y' : RZ} (V : CB c y.1 j) (hc : c ≤ 4200) (f1 : RF1 y.1 z.1 j) (H : RF2 y.1 y.2 z.1 z.2.2.1 z.2.2.2 j) (hz : CSr j z z') (hy : RSr j y y') (ag : AgE y.1 y'.1 y.2 y'.2) : RF2 y'.1 y'.2 z'.1 z'.2.2.1 z'.2.2.2 j := by
  intro g i hi
  rw [hy.g1 7 rfl] at g
  rw [hy.g1 58 rfl, hy.g1 59 rfl] at hi
  obtain ⟨a, a1, a2⟩ := H g i hi
  obtain ⟨b1, b2, b3, -⟩ := V
  have b4 : cl (y.1 59 j) ≤ c := b2.2
  have e121 : cl (z.1 121 j) = cl (y.1 59 j) - cl (y.1 58 j) := by rw [(f1.2.2.1 g).2]; exact cl_nI (by omega)
  have r : y'.1 57 (4200 * j + (cl (y.1 58 j) + i)) = y.1 57 (4200 * j + (cl (y.1 58 j) + i)) := hy.1 57 _ rfl (by show _ < 4200; omega)
  refine ⟨a, by rw [hz.2.2.1, hz.g1 120 rfl]; exact a1, ?_⟩
  rw [hy.g1 58 rfl, r, hz.2.2.2 i a (by omega) a1]
  exact EV_ag ag a2
theorem RT_fr {S rm M c j : Nat} {l : Nat → Nat} {z z' : CZ} {y y' : RZ} (V : HH S rm M c l y.1 y.2 j) (hc : c ≤ 4200) (H : RTt z y j) (hz : CSr j z z') (hy : RSr j y y') (ag : AgE y.1 y'.1 y.2 y'.2) : RTt z' y' j := by
  obtain ⟨h37, h19, h7, h10, h111, f1, f2, f3⟩ := H
  refine ⟨?_, ?_, ?_, ?_, ?_, RF1_fr f1 hz hy, RF2_fr V.2.2.2.2.2.1 hc f1 f2 hz hy ag, RF3_fr V.1.2.2.2.2.2.2.1.2 f3 hz hy⟩
  · rw [hz.g1 37 rfl, hy.g1 37 rfl]; exact h37
  · rw [hz.2.1, hy.2.1]; exact h19
  · rw [hz.g1 7 rfl, hy.g1 7 rfl]; exact h7
  · rw [hz.g1 10 rfl, hy.g1 10 rfl]; exact h10
  · rw [hz.g1 111 rfl]; exact h111
theorem RH_fr {S pg rm M c j : Nat} {l : Nat → Nat} {z z' : CZ} {y y' : RZ} (V : HH S rm M c l y.1 y.2 j) (hS : S = 256 * pg) (hp : pg ≤ 16) (hc : c ≤ 4200) (H : RH pg z y j) (hz : CS j z z') (hy : RS j y y') (ag : AgE y.1 y'.1 y.2 y'.2) (hD : nI j = y'.1 61 0 → nI j = y.1 61 0 ∧ ∀ p, p < pg → y'.1 63 p = y.1 63 p) : RH pg z' y' j := by
  subst hS
  exact ⟨RA_fr V.1.1 H.1 hz hy hD hp, RT_fr V hc H.2 hz.r hy.r ag⟩
theorem CV_hh {n pg rm c j : Nat} {s : (Nat → Nat → Int32)} {τ : (Nat → Nat → Int64)} (V : CV n pg rm c s τ) (hj : j < 4) : ∃ M l, HH (256 * pg) rm M c l s τ j ∧ pg ≤ 16 := by
  obtain ⟨l, inv⟩ := V
  exact ⟨_, l, inv.2.1 j hj, inv.1.1.2.2.2.2.2.2.2.2.1⟩
theorem RH_frV {n pg rm c j : Nat} {z z' : CZ} {y y' : RZ} (V : CV n pg rm c y.1 y.2) (hc : c ≤ 4200) (hj : j < 4) (H : RH pg z y j) (hz : CS j z z') (hy : RS j y y') (ag : AgE y.1 y'.1 y.2 y'.2) (hD : nI j = y'.1 61 0 → nI j = y.1 61 0 ∧ ∀ p, p < pg → y'.1 63 p = y.1 63 p) : RH pg z' y' j := by
  obtain ⟨M, l, hh, hp⟩ := CV_hh V hj
  exact RH_fr hh rfl hp hc H hz hy ag hD
