theorem nI_sub_neg {a b : Nat} (h : a < b) (hb : b < 2147483648) : nI a - nI b < 0 := by
  rw [Int32.lt_iff_toInt_lt, Int32.toInt_sub]
  have e1 : (nI a).toInt = a := Int32.toInt_ofNat_of_lt (by omega)
  have e2 : (nI b).toInt = b := Int32.toInt_ofNat_of_lt (by omega)
  have e3 : (0 : Int32).toInt = 0 := rfl
  rw [e1, e2, e3]
  have : ((a : Int) - b).bmod (2 ^ 32) = (a : Int) - b := Int.bmod_eq_of_le (by omega) (by omega)
  rw [this]
  omega
theorem Hw_drop {pg c h j k : Nat} {s : (Nat → Nat → Int32)} (V : Hw pg c s h) (hk : k ≤ 100) : Hw pg c (m_drop s j k) h := by
  have nf : ∀ f, f < 38 ∨ 43 < f → m_drop s j k f = s f := fun f hf => m_drop_ne (by omega) (by omega) (by omega) (by omega) (by omega) (by omega)
  refine ⟨v_B_nf V.1 (fun f hf => nf f (by omega)), CB_nf V.2.1 (fun f h1 h2 => nf f (by omega)), ?_⟩
  by_cases x : h = j
  · subst x; rw [m_drop_38]; exact nb_n hk (by omega)
  · rw [(drop_sm (τ := fun _ _ => 0) (υ := fun _ _ => 0) (σ := s) (k := k) (by omega) x rfl).f1 38 rfl]; exact V.2.2
theorem RR_drs {n pg rm c j L : Nat} {τ : (Nat → Nat → Int64)} (hp16 : pg ≤ 16) (hn4 : n ≤ 4) (hc : c ≤ 512) (hj : j < n) (hL : L < 2147483000) : ∀ (k w : Nat) (z : CZ) (s : (Nat → Nat → Int32)), w + k < 2147480000 → nb (z.1 112 j) 63 → nb (z.1 38 j) 1000 → (∀ h, h < n → Hw pg c s h) → RR n pg rm c z (s, τ) → gst s j → BYa s → cl (s 38 j) = k → (∀ i, i < k → s 42 (128 * j + i) = nI (w + 1 + i)) → RR n pg rm c (k_drop z.1 j (cl (z.1 112 j)) (cl (z.1 38 j)) (min (L - w) k), z.2) (m_drs (nI L) j k s, τ)
  | 0, w, z, s, _, b112, b38, _, H, _, _, _, _ => by
    rw [Nat.min_zero, drop_0 b112 b38]; exact H
  | k + 1, w, z, s, hw, b112, b38, Vh, H, g, hby, ek, h42 => by
    have h100 := (Vh j hj).2.2.2
    have e0 := h42 0 (by omega)
    rw [Nat.add_zero, Nat.add_zero] at e0
    unfold m_drs
    rw [e0]
    by_cases q : w + 1 ≤ L
    · rw [if_pos ((nIv_le (by omega) (by omega)).mpr q)]
      have b63 := b112.2
      have e38 : cl (z.1 38 j) = k + 1 := by rw [((H.2.1 j hj).2.2.2.2.2.2.2.2.1 g).1]; exact ek
      have R := RR_drop1 (z := z) (y := (s, τ)) b112.2 hp16 hn4 hc hby Vh H hj g ek (by omega)
      have gn : k_gn 1 (cl (z.1 38 j)) = 1 := by
        unfold k_gn
        rw [if_neg (by decide), e38, show cl (1 : Int32) = 1 from rfl]; omega
      dsimp only at R
      rw [gn] at R
      have nf : ∀ f, f < 38 ∨ 43 < f → m_drop s j k f = s f := fun f hf => m_drop_ne (by omega) (by omega) (by omega) (by omega) (by omega) (by omega)
      have z112 : k_drop z.1 j (cl (z.1 112 j)) (cl (z.1 38 j)) 1 112 j = nI ((cl (z.1 112 j) + 1) % 64) := by unfold k_drop; rw [u2_ne (by decide), u2_ss]
      have z38 : k_drop z.1 j (cl (z.1 112 j)) (cl (z.1 38 j)) 1 38 j = nI (cl (z.1 38 j) - 1) := by unfold k_drop; rw [u2_ss]
      have R2 := RR_drs hp16 hn4 hc hj hL k (w + 1) (k_drop z.1 j (cl (z.1 112 j)) (cl (z.1 38 j)) 1, z.2) (m_drop s j k) (by omega) (by show nb (k_drop z.1 j (cl (z.1 112 j)) (cl (z.1 38 j)) 1 112 j) 63; rw [z112]; exact nb_n (by omega) (by omega)) (by show nb (k_drop z.1 j (cl (z.1 112 j)) (cl (z.1 38 j)) 1 38 j) 1000; rw [z38]; exact nb_n (by omega) (by omega)) (fun h hh => Hw_drop (Vh h hh) (by omega)) R (by unfold gst at g ⊢; rw [nf 7 (by omega)]; exact g) (fun f i hf => by rw [nf f (by omega)]; exact hby f i hf) (by rw [m_drop_38, cl_nI (by omega)]) (fun i hi => by rw [m_drop_lo (by decide) hi, Nat.add_assoc, h42 (i + 1) (by omega), show w + 1 + (i + 1) = w + 1 + 1 + i by omega])
      dsimp only at R2
      rw [z112, z38, cl_nI (by omega), cl_nI (by omega), drop_drop] at R2
      rw [show min (L - w) (k + 1) = 1 + min (L - (w + 1)) k by omega]
      exact R2
    · rw [if_neg (fun x => q ((nIv_le (by omega) (by omega)).mp x)), show min (L - w) (k + 1) = 0 by omega, drop_0 b112 b38]
      exact H
theorem RR_tk3 {n pg rm c M j a : Nat} {l : Nat → Nat} {z : CZ} {y : RZ} (S : SC n pg rm c z.1) (hp16 : pg ≤ 16) (hn4 : n ≤ 4) (hc : c ≤ 512) (Vh : ∀ h, h < n → Hw pg c y.1 h) (H : RR n pg rm c z y) (hj : j < n) (h7 : y.1 7 j = 2 ∨ y.1 7 j = 3) (hr : cl (y.1 58 j) < cl (y.1 59 j)) (hI : HI (256 * pg) M l y.1 y.2 j) (hM : M < 2147400000) (b46 : nb (y.1 46 (m_tkE y.1 j)) M) (ok : EvOK y.1 j (m_tkE y.1 j)) (h28 : cl (y.1 45 (m_tkE y.1 j)) = 3 → y.1 28 j = 1 → cl (y.1 47 (m_tkE y.1 j)) = 64) (b120 : cl (z.1 120 j) ≤ 511) (ha : z.2.2.1 j (cl (z.1 120 j)) = some a) : RR n pg rm c (k_te1 z.1 pg j (z.2.2.2 a), z.2) (m_tk3 y.1 j, y.2) := by
  obtain ⟨R, ev⟩ := RR_tk2 S hp16 hn4 hc Vh H hj h7 hr ok h28 b120 ha
  obtain ⟨a1, a2, a3, a4, a5, a6, a7, a8⟩ := hI
  have v3 := a3
  have v4 := a4.2
  have v46 := b46.2
  have v6 := a6.2
  have v7 := a7.2
  have g : gst y.1 j := Or.inr h7
  have e37 : z.1 37 j = y.1 37 j := (H.2.1 j hj).2.1
  have e38 : z.1 38 j = y.1 38 j := ((H.2.1 j hj).2.2.2.2.2.2.2.2.1 g).1
  have b := S.1.2.2.2.2 j hj
  have ny : ∀ f, f < 15 ∨ 36 < f → f ≠ 63 → f ≠ 58 → m_tk2 y.1 j f = y.1 f := fun f h1 h2 h3 => by unfold m_tk2; rw [evne h1 h2, u2_ne h3]
  have vB : v_B (256 * pg) j (m_tk2 y.1 j) := (ev_R (σ := u2 y.1 58 j (nI (cl (y.1 58 j)) + 1)) (v_B_nf a1 (fun f hf => u2_ne (by omega))) (by rw [u2_ne (by decide)]; exact nb_mono a7 (by omega)) (by
    unfold EvOK
    rw [u2_ne (by decide), u2_ne (by decide), u2_ne (by decide), u2_ne (by decide), u2_ne (by decide), u2_ne (by decide), u2_ne (by decide)]
    exact ok)).2.2.1
  have Vh2 : ∀ h, h < n → Hw pg c (m_tk2 y.1 j) h := fun h hh => by
    obtain ⟨w1, w2, w3⟩ := Vh h hh
    have vF : v_F j (u2 y.1 58 j (nI (cl (y.1 58 j)) + 1)) (m_tk2 y.1 j) := (ev_R (σ := u2 y.1 58 j (nI (cl (y.1 58 j)) + 1)) (v_B_nf a1 (fun f hf => u2_ne (by omega))) (by rw [u2_ne (by decide)]; exact nb_mono a7 (by omega)) (by
      unfold EvOK
      rw [u2_ne (by decide), u2_ne (by decide), u2_ne (by decide), u2_ne (by decide), u2_ne (by decide), u2_ne (by decide), u2_ne (by decide)]
      exact ok)).1
    by_cases x : h = j
    · subst x
      refine ⟨vB, ?_, by rw [ny 38 (by omega) (by omega) (by omega)]; exact w3⟩
      obtain ⟨c1, c2, c3, c4⟩ := w2
      have c2' := c2.2
      have e58 : m_tk2 y.1 h 58 h = nI (cl (y.1 58 h) + 1) := by unfold m_tk2; rw [evne (by decide) (by decide), u2_ss, nIv_inc]
      unfold CB
      rw [e58, cl_nI (by omega), ny 59 (by omega) (by omega) (by omega), ny 57 (by omega) (by omega) (by omega)]
      exact ⟨nb_n (by omega) (by omega), c2, by omega, fun i x1 x2 => c4 i (by omega) x2⟩
    · have sm : Sm h (u2 y.1 58 j (nI (cl (y.1 58 j)) + 1)) (m_tk2 y.1 j) y.2 y.2 := sm_F vF x rfl
      have sm0 : Sm h y.1 (u2 y.1 58 j (nI (cl (y.1 58 j)) + 1)) y.2 y.2 := ⟨fun f i hf hi => by
        by_cases q : f = 58
        · subst q
          have hi1 : i < 1 := hi
          rw [u2_sn (by show ¬ 1 * h + i = j; omega)]
        · rw [u2_ne q], rfl⟩
      have sm1 := sm0.tr sm
      exact ⟨v_B_sm w1 sm1 (by rw [ny 4 (by omega) (by omega) (by omega)]) vB.2.2.2.2.2.2.2.2, CB_sm w2 sm1 (Nat.le_refl _) (by omega), by rw [sm1.f1 38 rfl]; exact w3⟩
  have d5 : (z.2.2.2 a).2.2.2.2 = y.1 46 (m_tkE y.1 j) := ev.1.2.2.2.2.2.2
  have R2 := RR_drs (L := cl (y.1 46 (m_tkE y.1 j))) hp16 hn4 hc hj (by omega) (cl (y.1 38 j)) (cl (y.1 37 j) - cl (y.1 38 j)) (k_te2 z.1 pg j (z.2.2.2 a), z.2) (m_tk2 y.1 j) (by omega) (by show nb (k_te2 z.1 pg j (z.2.2.2 a) 112 j) 63; rw [k_te2_ne (by omega)]; exact b.1) (by show nb (k_te2 z.1 pg j (z.2.2.2 a) 38 j) 1000; rw [k_te2_ne (by omega)]; exact nb_up b.2.1 (by omega)) Vh2 R (by unfold gst at g ⊢; rw [ny 7 (by omega) (by omega) (by omega)]; exact g) vB.2.2.2.2.2.2.2.2 (by rw [ny 38 (by omega) (by omega) (by omega)]) (fun i hi => by rw [ny 42 (by omega) (by omega) (by omega)]; exact (a8 i hi).1)
  dsimp only at R2
  rw [k_te2_ne (by omega), k_te2_ne (by omega), ← b46.1] at R2
  unfold k_te1
  have eg : k_gn ((z.2.2.2 a).2.2.2.2 - (z.1 37 j - z.1 38 j)) (cl (z.1 38 j)) = min (cl (y.1 46 (m_tkE y.1 j)) - (cl (y.1 37 j) - cl (y.1 38 j))) (cl (y.1 38 j)) := by
    rw [d5, e37, e38]
    have e1 : y.1 37 j - y.1 38 j = nI (cl (y.1 37 j) - cl (y.1 38 j)) := by
      have := nIv_sub (a := cl (y.1 37 j)) (b := cl (y.1 38 j)) v6
      rw [← a4.1, ← a6.1] at this; exact this
    rw [e1]
    unfold k_gn
    by_cases q : cl (y.1 37 j) - cl (y.1 38 j) ≤ cl (y.1 46 (m_tkE y.1 j))
    · have e2 : y.1 46 (m_tkE y.1 j) - nI (cl (y.1 37 j) - cl (y.1 38 j)) = nI (cl (y.1 46 (m_tkE y.1 j)) - (cl (y.1 37 j) - cl (y.1 38 j))) := by
        have := nIv_sub (a := cl (y.1 46 (m_tkE y.1 j))) (b := cl (y.1 37 j) - cl (y.1 38 j)) q
        rw [← b46.1] at this; exact this
      rw [e2, if_neg (nI_pos (by omega)), cl_nI (by omega)]
    · have e2 : y.1 46 (m_tkE y.1 j) - nI (cl (y.1 37 j) - cl (y.1 38 j)) < 0 := by
        rw [b46.1]; exact nI_sub_neg (by omega) (by omega)
      rw [if_pos e2, show cl (y.1 46 (m_tkE y.1 j)) - (cl (y.1 37 j) - cl (y.1 38 j)) = 0 by omega, Nat.zero_min]
  rw [eg]
  exact R2
