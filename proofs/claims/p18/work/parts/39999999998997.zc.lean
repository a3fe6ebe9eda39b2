theorem RR_drop1 {n pg rm c j k : Nat} {z : CZ} {y : RZ} (h112 : cl (z.1 112 j) ≤ 63) (hp16 : pg ≤ 16) (hn4 : n ≤ 4) (hc : c ≤ 512) (hby : BYa y.1) (Vh : ∀ h, h < n → Hw pg c y.1 h) (H : RR n pg rm c z y) (hj : j < n) (g : gst y.1 j) (ek : cl (y.1 38 j) = k + 1) (hk : k ≤ 99) : RR n pg rm c (k_drop z.1 j (cl (z.1 112 j)) (cl (z.1 38 j)) (k_gn 1 (cl (z.1 38 j))), z.2) (m_drop y.1 j k, y.2) := by
  obtain ⟨hg, hh, hp, hd', hx, ht, hm⟩ := H
  obtain ⟨raj, rtj⟩ := hh j hj
  have e38 : z.1 38 j = y.1 38 j := (rtj.2.2.2.2.2.2.2.1 g).1
  have gn : k_gn 1 (cl (z.1 38 j)) = 1 := by
    unfold k_gn
    rw [if_neg (by decide), e38, ek, show cl (1 : Int32) = 1 from rfl]; omega
  rw [gn]
  have ey : ∀ f, f < 38 ∨ 43 < f → m_drop y.1 j k f = y.1 f := fun f hf => m_drop_ne (by omega) (by omega) (by omega) (by omega) (by omega) (by omega)
  have ez : ∀ f, f ≠ 38 → f ≠ 112 → k_drop z.1 j (cl (z.1 112 j)) (cl (z.1 38 j)) 1 f = z.1 f := fun f h1 h2 => by unfold k_drop; rw [u2_ne h1, u2_ne h2]
  have eh : ∀ f x, x ≠ j → k_drop z.1 j (cl (z.1 112 j)) (cl (z.1 38 j)) 1 f x = z.1 f x := fun f x hx => by unfold k_drop; rw [u2_x hx, u2_x hx]
  have z38 : k_drop z.1 j (cl (z.1 112 j)) (cl (z.1 38 j)) 1 38 j = nI (cl (z.1 38 j) - 1) := by unfold k_drop; rw [u2_ss]
  have z112 : k_drop z.1 j (cl (z.1 112 j)) (cl (z.1 38 j)) 1 112 j = nI ((cl (z.1 112 j) + 1) % 64) := by unfold k_drop; rw [u2_ne (by decide), u2_ss]
  have f3 : RF3 (m_drop y.1 j k) (k_drop z.1 j (cl (z.1 112 j)) (cl (z.1 38 j)) 1) j := RF3_1 hby rtj.2.2.2.2.2.2.2 g ek hk h112 z38 z112 (ez 117 (by decide) (by decide))
  have sm : ∀ h, h ≠ j → Sm h y.1 (m_drop y.1 j k) y.2 y.2 := fun h hh => drop_sm (by omega) hh rfl
  have s43 : ∀ h x, h ≠ j → x < 8192 → m_drop y.1 j k 43 (8192 * h + x) = y.1 43 (8192 * h + x) := fun h x hne hx => by
    unfold m_drop
    have e : 8192 * h + x = 64 * (128 * h + x / 64) + x % 64 := by omega
    rw [e, drl_43 (Nat.mod_lt _ (by decide)), if_neg (by omega), u2_ne (by decide)]
  generalize k_drop z.1 j (cl (z.1 112 j)) (cl (z.1 38 j)) 1 = U at *
  generalize m_drop y.1 j k = s' at *
  have ag : AgE y.1 s' y.2 y.2 := AgE_ne (fun f h1 h2 => ey f (by omega)) rfl
  have hD : ∀ h, nI h = s' 61 0 → nI h = y.1 61 0 ∧ ∀ p, p < pg → s' 63 p = y.1 63 p := fun h w => ⟨by rw [← ey 61 (by omega)]; exact w, fun p _ => by rw [ey 63 (by omega)]⟩
  refine ⟨RG_nf hg (fun f hf => ez f (by omega) (by omega)) (fun f hf => ey f (by omega)), fun h hhn => ?_, RP_fr hp (fun f hf => ez f (by omega) (by omega)) (fun _ => ⟨rfl, rfl⟩) (fun _ _ _ _ => rfl) (fun _ _ _ _ => rfl) (fun f hf => ey f (by omega)) ag, RD_fr hd' (fun f h1 h2 => ez f (by omega) (by omega)) (fun f h1 h2 => ey f (by omega)), EX_nf hx (Nat.le_refl _) (fun f hf => ey f (by omega)), TK_nf ht (Nat.le_refl _) (fun f hf => ey f (by omega)), CM_nf hm (fun f hf => ey f (by omega))⟩
  by_cases x : h = j
  · subst x
    refine ⟨RA_nf raj (fun f hf => ey f (by omega)) (fun f hf => ez f (by omega) (by omega)) (hD h), ?_, rtj.2.1, ?_, ?_, ?_, ?_, fun w i hi => ?_, f3⟩
    · show U 37 h = s' 37 h; rw [ez 37 (by decide) (by decide), ey 37 (by omega)]; exact rtj.1
    · show U 7 h = s' 7 h; rw [ez 7 (by decide) (by decide), ey 7 (by omega)]; exact rtj.2.2.1
    · show U 10 h = s' 10 h; rw [ez 10 (by decide) (by decide), ey 10 (by omega)]; exact rtj.2.2.2.1
    · show U 111 h = _; rw [ez 111 (by decide) (by decide)]; exact rtj.2.2.2.2.1
    · have f1 := rtj.2.2.2.2.2.1
      show RF1 s' U h
      unfold RF1 gst at f1 ⊢
      rw [ez 113 (by decide) (by decide), ez 114 (by decide) (by decide), ez 115 (by decide) (by decide), ez 116 (by decide) (by decide), ez 121 (by decide) (by decide), ey 7 (by omega), ey 9 (by omega), ey 11 (by omega), ey 12 (by omega), ey 55 (by omega), ey 58 (by omega), ey 59 (by omega)]
      exact f1
    · have w' : s' 7 h = 2 ∨ s' 7 h = 3 := w
      have hi' : i < cl (s' 59 h) - cl (s' 58 h) := hi
      rw [ey 7 (by omega)] at w'
      rw [ey 58 (by omega), ey 59 (by omega)] at hi'
      obtain ⟨a, a1, a2⟩ := rtj.2.2.2.2.2.2.1 w' i hi'
      refine ⟨a, ?_, ?_⟩
      · show z.2.2.1 h (k_wr 512 (cl (U 120 h) + i)) = some a
        rw [ez 120 (by decide) (by decide)]; exact a1
      · show EV s' y.2 (cl (s' 57 (4200 * h + (cl (s' 58 h) + i)))) (z.2.2.2 a)
        rw [ey 57 (by omega), ey 58 (by omega)]; exact EV_ag ag a2
  · have V := Vh h hhn
    refine RH_frw V hp16 (by omega) (hh h hhn) ⟨fun f i hf hi => ?_, rfl, fun _ => rfl, fun _ _ _ _ => rfl⟩ ⟨sm h x, fun i hi => s43 h i x hi⟩ ag (hD h)
    show U f _ = z.1 f _
    by_cases y1 : f = 38 ∨ f = 112
    · have e1 : zS f = 1 := by rcases y1 with e | e <;> subst e <;> rfl
      rw [e1] at hi ⊢
      rw [eh f _ (by omega)]
    · rw [ez f (by omega) (by omega)]
