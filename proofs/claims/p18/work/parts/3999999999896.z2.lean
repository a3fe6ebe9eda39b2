theorem RA_nf {pg j : Nat} {s s' u u' : (Nat → Nat → Int32)} (H : RA pg j s u) (es : ∀ f, 15 ≤ f ∧ f ≤ 36 → s' f = s f) (eu : ∀ f, (15 ≤ f ∧ f ≤ 36) ∨ (100 ≤ f ∧ f ≤ 105) → u' f = u f) (hD : nI j = s' 61 0 → nI j = s 61 0 ∧ ∀ p, p < pg → s' 63 p = s 63 p) : RA pg j s' u' := by
  obtain ⟨h1, h2, h3, h4, h5⟩ := H
  refine ⟨fun f i hf hi h15 => ?_, ?_, ?_, ?_, fun q p hp => ?_⟩
  · have := wf_r hf
    rw [es f (by omega), eu f (by omega)]; exact h1 f i hf hi h15
  · unfold w_K at h2 ⊢; rw [eu 101 (by omega), eu 100 (by omega), es 33 (by omega), es 32 (by omega)]; exact h2
  · unfold w_P at h3 ⊢; rw [eu 104 (by omega), eu 102 (by omega), eu 103 (by omega), es 35 (by omega), es 34 (by omega), es 36 (by omega)]; exact h3
  · unfold w_A at h4 ⊢; rw [es 17 (by omega), es 18 (by omega)]; exact h4
  · obtain ⟨a, b⟩ := hD q
    rw [eu 105 (by omega), b p hp]; exact h5 a p hp
theorem off_ng {s : (Nat → Nat → Int32)} {j : Nat} {v : Int32} (e : s 7 j = v) (hv : v = 0 ∨ v = 4 ∨ v = 5 ∨ v = 6) : ¬ s 7 j = 1 ∧ ¬ gst s j := by
  unfold gst
  rw [e]
  rcases hv with h | h | h | h <;> subst h <;> decide
theorem RH_off {pg j : Nat} {z' : CZ} {y' : RZ} {v : Int32} (ra : RA pg j y'.1 z'.1) (e37 : z'.1 37 j = y'.1 37 j) (e19 : z'.2.1 19 j = y'.2 19 j) (ez7 : z'.1 7 j = v) (ey7 : y'.1 7 j = v) (hv : v = 0 ∨ v = 4 ∨ v = 5 ∨ v = 6) (e10 : z'.1 10 j = y'.1 10 j) (e111 : z'.1 111 j = nI j) (h0 : ∀ f, f = 113 ∨ f = 114 ∨ f = 115 ∨ f = 116 ∨ f = 121 ∨ f = 38 → z'.1 f j = 0) : RH pg z' y' j := by
  obtain ⟨n1, ng⟩ := off_ng ey7 hv
  exact ⟨ra, e37, e19, ez7.trans ey7.symm, e10, e111, ⟨fun w => absurd w n1, fun _ => ⟨h0 114 (by omega), h0 115 (by omega), h0 116 (by omega)⟩, fun w => absurd (Or.inr w) ng, fun _ => ⟨h0 113 (by omega), h0 121 (by omega)⟩⟩, fun w => absurd (Or.inr w) ng, ⟨fun w => absurd w ng, fun _ => h0 38 (by omega)⟩⟩
theorem RTt_off {z : CZ} {y : RZ} {j : Nat} (H : RTt z y j) (ng : ¬ gst y.1 j) : ∀ f, f = 113 ∨ f = 114 ∨ f = 115 ∨ f = 116 ∨ f = 121 ∨ f = 38 → z.1 f j = 0 := by
  obtain ⟨-, -, -, -, -, f1, -, f3⟩ := H
  obtain ⟨a1, a2, a3⟩ := f1.2.1 (fun w => ng (Or.inl w))
  obtain ⟨b1, b2⟩ := f1.2.2.2 ng
  have k := f3.2 ng
  intro f hf
  rcases hf with e | e | e | e | e | e <;> subst e
  · exact b1
  · exact a1
  · exact a2
  · exact a3
  · exact b2
  · exact k
theorem u2_x {σ : (Nat → Nat → Int32)} {A i F x : Nat} {v : Int32} (h : x ≠ i) : u2 σ A i v F x = σ F x := by
  by_cases e : F = A
  · subst e; rw [u2_sn h]
  · rw [u2_ne e]
theorem stop_o {u : (Nat → Nat → Int32)} {j f k F : Nat} {v : Int32} (h : F ≠ 7 ∧ F ≠ 10 ∧ F ≠ 38 ∧ F ≠ 112 ∧ (F < 113 ∨ 116 < F) ∧ F ≠ 120 ∧ F ≠ 121) : k_stop u j f k v F = u F := by
  unfold k_stop k_drop
  rw [u2_ne h.2.2.1, u2_ne h.2.2.2.1, u2_ne h.2.2.2.2.2.2, u2_ne h.2.2.2.2.2.1, k_lvP_ne h.2.2.2.2.1, u2_ne h.2.1, u2_ne h.1]
theorem stop_h {u : (Nat → Nat → Int32)} {j f k F x : Nat} {v : Int32} (h : x ≠ j) : k_stop u j f k v F x = u F x := by
  unfold k_stop k_drop k_lvP
  rw [u2_x h, u2_x h, u2_x h, u2_x h, u2_x h, u2_x h, u2_x h, u2_x h, u2_x h, u2_x h]
theorem stop_v {u : (Nat → Nat → Int32)} {j f k : Nat} {v : Int32} (hk : k ≤ 64) : k_stop u j f k v 7 j = v ∧ k_stop u j f k v 10 j = u 10 j + 1 ∧ ∀ F, F = 113 ∨ F = 114 ∨ F = 115 ∨ F = 116 ∨ F = 121 ∨ F = 38 → k_stop u j f k v F j = 0 := by
  refine ⟨by rw [stop_7.2, u2_ss], ?_, fun F hF => ?_⟩
  · unfold k_stop k_drop
    rw [u2_ne (by decide), u2_ne (by decide), u2_ne (by decide), u2_ne (by decide), k_lvP_ne (by decide), u2_ss]
  · unfold k_stop k_drop
    rcases hF with e | e | e | e | e | e <;> subst e
    · rw [u2_ne (by decide), u2_ne (by decide), u2_ne (by decide), u2_ne (by decide)]; exact lvP_v (by decide)
    · rw [u2_ne (by decide), u2_ne (by decide), u2_ne (by decide), u2_ne (by decide)]; exact lvP_v (by decide)
    · rw [u2_ne (by decide), u2_ne (by decide), u2_ne (by decide), u2_ne (by decide)]; exact lvP_v (by decide)
    · rw [u2_ne (by decide), u2_ne (by decide), u2_ne (by decide), u2_ne (by decide)]; exact lvP_v (by decide)
    · rw [u2_ne (by decide), u2_ne (by decide), u2_ss]
    · rw [u2_ss]
      have : k_gn (nI k) k = k := by
        unfold k_gn
        rw [if_neg (nI_pos (by omega)), cl_nI (by omega), Nat.min_self]
      rw [this, Nat.sub_self]; rfl
theorem RR_cr {n pg rm c j : Nat} {v : Int32} {z : CZ} {y : RZ} {u s' : (Nat → Nat → Int32)} (S : SC n pg rm c z.1) (V : CV n pg rm c y.1 y.2) (hc : c ≤ 511) (H : RR n pg rm c z y) (hj : j < n) (hv : v = 5 ∨ v = 6) (eu : ∀ f, f ≠ 7 → u f = z.1 f) (es : ∀ f, f ≠ 7 → f ≠ 10 → f ≠ 60 → f ≠ 61 → s' f = y.1 f) (s10 : ∀ h, s' 10 h = if h = j then y.1 10 j + 1 else y.1 10 h) (h7 : ∀ h, h < 4 → h ≠ j → (u 7 h = z.1 7 h ∧ s' 7 h = y.1 7 h) ∨ (y.1 7 h = 4 ∧ u 7 h = 0 ∧ s' 7 h = 0)) (s7j : s' 7 j = v) (h61 : (s' 60 0 = y.1 60 0 ∧ s' 61 0 = y.1 61 0) ∨ (s' 60 0 = -1 ∧ s' 61 0 = -1)) (hx : EX n (c + 1) s') : RR n pg rm (c + 1) (k_stop u j (cl (u 112 j)) (cl (u 38 j)) v, z.2) (s', y.2) := by
  have hn4 := V.g.1.2.2.2.2.2.2.1
  obtain ⟨hg, hh, hp, hd', -, ht, hm⟩ := H
  have b38 : cl (u 38 j) ≤ 64 := by rw [eu 38 (by decide)]; exact (S.1.2.2.2.2 j hj).2.1.2
  have ey1 : ∀ f, f ≠ 7 ∧ f ≠ 10 ∧ f ≠ 60 ∧ f ≠ 61 → s' f = y.1 f := fun f h => es f h.1 h.2.1 h.2.2.1 h.2.2.2
  have ag : AgE y.1 s' y.2 y.2 := AgE_ne (fun f h1 h2 => ey1 f (by omega)) rfl
  have hD : ∀ h, nI h = s' 61 0 → h < 4 → nI h = y.1 61 0 ∧ ∀ p, p < pg → s' 63 p = y.1 63 p := fun h w hh4 => by
    refine ⟨?_, fun p _ => by rw [ey1 63 (by decide)]⟩
    rcases h61 with q | q
    · rw [← q.2]; exact w
    · rw [q.2] at w; exact absurd w (nI_m1 (by omega))
  obtain ⟨k1, k2, k3⟩ := stop_v (u := u) (j := j) (f := cl (u 112 j)) (v := v) b38
  have kh : ∀ F x, x ≠ j → k_stop u j (cl (u 112 j)) (cl (u 38 j)) v F x = u F x := fun F x hx => stop_h hx
  have ko : ∀ F, F ≠ 7 ∧ F ≠ 10 ∧ F ≠ 38 ∧ F ≠ 112 ∧ (F < 113 ∨ 116 < F) ∧ F ≠ 120 ∧ F ≠ 121 → k_stop u j (cl (u 112 j)) (cl (u 38 j)) v F = z.1 F := fun F h => by rw [stop_o h, eu F h.1]
  rw [eu 10 (by decide)] at k2
  generalize k_stop u j (cl (u 112 j)) (cl (u 38 j)) v = U at *
  have hv' : v = 0 ∨ v = 4 ∨ v = 5 ∨ v = 6 := Or.inr (Or.inr hv)
  refine ⟨RG_nf hg (fun f hf => ko f (by omega)) (fun f hf => ey1 f (by omega)), fun h hhn => ?_, RP_fr hp (fun f hf => ko f (by omega)) (fun _ => ⟨rfl, rfl⟩) (fun _ _ _ _ => rfl) (fun _ _ _ _ => rfl) (fun f hf => ey1 f (by omega)) ag, RD_fr hd' (fun f h1 h2 => ko f (by omega)) (fun f h1 h2 => ey1 f (by omega)), hx, ?_, CM_nf hm (fun f hf => ey1 f (by omega))⟩
  · obtain ⟨ra, rt⟩ := hh h hhn
    have raN : RA pg h s' U := RA_nf ra (fun f hf => ey1 f (by omega)) (fun f hf => ko f (by omega)) (fun w => hD h w (by omega))
    have e37 : U 37 h = s' 37 h := by rw [ko 37 (by decide), ey1 37 (by decide)]; exact rt.1
    have e111 : U 111 h = nI h := by rw [ko 111 (by decide)]; exact rt.2.2.2.2.1
    by_cases x : h = j
    · subst x
      exact RH_off raN e37 rt.2.1 k1 s7j hv' (by show U 10 h = s' 10 h; rw [k2, s10, if_pos rfl, rt.2.2.2.1]) e111 k3
    · have e10 : U 10 h = s' 10 h := by rw [kh 10 h x, eu 10 (by decide), s10, if_neg x]; exact rt.2.2.2.1
      rcases h7 h (by omega) x with ⟨q1, q2⟩ | ⟨q0, q1, q2⟩
      · refine RH_frV V (by omega) (by omega) (hh h hhn) ⟨fun f i hf hi => ?_, rfl, fun _ => rfl, fun _ _ _ _ => rfl⟩ ⟨⟨fun f i hf hi => ?_, rfl⟩, fun i _ => ?_⟩ ag (fun w => hD h w (by omega))
        · show U f _ = z.1 f _
          by_cases y1 : f = 7
          · subst y1
            have hi1 : i < 1 := hi
            rw [show zS 7 * h + i = h by show 1 * h + i = h; omega, kh 7 h x, q1]
          by_cases y2 : f = 10 ∨ f = 38 ∨ f = 112 ∨ (113 ≤ f ∧ f ≤ 116) ∨ f = 120 ∨ f = 121
          · have e1 : zS f = 1 := by
              rcases (by omega : f = 10 ∨ f = 38 ∨ f = 112 ∨ f = 113 ∨ f = 114 ∨ f = 115 ∨ f = 116 ∨ f = 120 ∨ f = 121) with e | e | e | e | e | e | e | e | e <;> subst e <;> rfl
            rw [e1] at hi ⊢
            rw [show 1 * h + i = h by omega, kh f h x, eu f y1]
          · rw [ko f (by omega)]
        · show s' f _ = y.1 f _
          by_cases y1 : f = 7
          · subst y1
            have hi1 : i < 1 := hi
            rw [show h_s 7 * h + i = h by show 1 * h + i = h; omega, q2]
          by_cases y2 : f = 10
          · subst y2
            have hi1 : i < 1 := hi
            rw [show h_s 10 * h + i = h by show 1 * h + i = h; omega, s10, if_neg x]
          · have := of_decide_eq_true hf
            rw [ey1 f (by omega)]
        · show s' 43 _ = y.1 43 _
          rw [ey1 43 (by decide)]
      · have ng := (off_ng q0 (by decide)).2
        refine RH_off raN e37 rt.2.1 (v := 0) ?_ q2 (Or.inl rfl) e10 e111 (fun f hf => ?_)
        · show U 7 h = 0
          rw [kh 7 h x]; exact q1
        · show U f h = 0
          rw [kh f h x, eu f (by omega)]; exact RTt_off rt ng f hf
  · show TK pg (c + 1) s'
    obtain ⟨t, P, t1, t2, t3⟩ := ht
    refine ⟨t, P, fun h hh4 g w => ?_, ?_, ?_⟩
    · by_cases x : h = j
      · subst x; exact absurd g (off_ng s7j hv').2
      · refine t1 h hh4 ?_ (fun o w1 w2 w3 => ?_)
        · rcases h7 h hh4 x with ⟨-, q2⟩ | ⟨-, -, q2⟩
          · unfold gst at g ⊢; rw [q2] at g; exact g
          · exact absurd g (off_ng q2 (by decide)).2
        · refine w o (by rw [ey1 65 (by decide)]; exact w1) (by rw [ey1 66 (by decide)]; exact w2) ?_
          rw [ey1 67 (by decide), ey1 68 (by decide), s10, if_neg x]; exact w3
    · rw [ey1 65 (by decide), ey1 66 (by decide), ey1 5 (by decide)]; exact t2
    · rw [pgc_e (s := y.1) pg (fun i _ => by rw [ey1 63 (by decide)])]
      rcases h61 with q | q
      · rw [q.1]; omega
      · rw [if_pos q.1]
        by_cases w : y.1 60 0 = -1
        · rw [if_pos w] at t3; omega
        · rw [if_neg w] at t3; omega
