theorem RR_tk2 {n pg rm c j a : Nat} {z : CZ} {y : RZ} (S : SC n pg rm c z.1) (hp16 : pg ≤ 16) (hn4 : n ≤ 4) (hc : c ≤ 512) (Vh : ∀ h, h < n → Hw pg c y.1 h) (H : RR n pg rm c z y) (hj : j < n) (h7 : y.1 7 j = 2 ∨ y.1 7 j = 3) (hr : cl (y.1 58 j) < cl (y.1 59 j)) (ok : EvOK y.1 j (m_tkE y.1 j)) (h28 : cl (y.1 45 (m_tkE y.1 j)) = 3 → y.1 28 j = 1 → cl (y.1 47 (m_tkE y.1 j)) = 64) (b120 : cl (z.1 120 j) ≤ 511) (ha : z.2.2.1 j (cl (z.1 120 j)) = some a) : RR n pg rm c (k_te2 z.1 pg j (z.2.2.2 a), z.2) (m_tk2 y.1 j, y.2) ∧ EV y.1 y.2 (m_tkE y.1 j) (z.2.2.2 a) := by
  obtain ⟨hg, hh, hp, hd', hx, ht, hm⟩ := H
  obtain ⟨ra, rt⟩ := hh j hj
  obtain ⟨v1, v2, v3⟩ := Vh j hj
  obtain ⟨b58, b59, b589, -⟩ := v2
  have v59 := b59.2
  have v58 := b58.2
  have f1 := rt.2.2.2.2.2.1
  obtain ⟨i113, i121⟩ := f1.2.2.1 h7
  have c121 : cl (z.1 121 j) = cl (y.1 59 j) - cl (y.1 58 j) := by rw [i121, cl_nI (by omega)]
  obtain ⟨a', a1, ev⟩ := rt.2.2.2.2.2.2.1 h7 0 (by omega)
  rw [Nat.add_zero, show k_wr 512 (cl (z.1 120 j)) = cl (z.1 120 j) by unfold k_wr; rw [if_pos (by omega)], ha] at a1
  have ea : a = a' := Option.some.inj a1
  subst ea
  rw [Nat.add_zero] at ev
  refine ⟨?_, ev⟩
  have eL : ∀ f, f ≠ 58 → u2 y.1 58 j (nI (cl (y.1 58 j)) + 1) f = y.1 f := fun f hf => u2_ne hf
  have ok' : EvOK (u2 y.1 58 j (nI (cl (y.1 58 j)) + 1)) j (m_tkE y.1 j) := by
    unfold EvOK
    rw [eL 45 (by decide), eL 48 (by decide), eL 47 (by decide), eL 33 (by decide), eL 35 (by decide), eL 28 (by decide), eL 30 (by decide)]
    exact ok
  have er : ER (u2 y.1 58 j (nI (cl (y.1 58 j)) + 1)) y.2 (m_tkE y.1 j) (z.2.2.2 a) := by
    have := ev.1
    unfold ER at this ⊢
    rw [eL 45 (by decide), eL 51 (by decide), eL 48 (by decide), eL 47 (by decide), eL 46 (by decide)]
    exact this
  have ra0 : RA pg j y.1 (k_te0 z.1 j) := RA_nf ra (fun _ _ => rfl) (fun f hf => k_te0_ne (by omega)) (fun w => ⟨w, fun _ _ => rfl⟩)
  have by0 : BY (k_te0 z.1 j) := (S.1.1.u2 (F := 120) (i := j) (v := nI (k_wr 512 (cl (z.1 120 j) + 1))) (fun q => absurd q (by decide))).u2 (F := 121) (i := j) (v := nI (cl (z.1 121 j) - 1)) (fun q => absurd q (by decide))
  obtain ⟨raN, wF⟩ := RA_ev (s' := m_tk2 y.1 j) ra0 by0 v1 hp16 (fun f hf => eL f (by omega)) ok' er (fun q1 q2 => by rw [eL 45 (by decide)] at q1; rw [eL 28 (by decide)] at q2; rw [eL 47 (by decide)]; exact h28 q1 q2) (fun f _ => rfl)
  have vF : v_F j (u2 y.1 58 j (nI (cl (y.1 58 j)) + 1)) (m_tk2 y.1 j) := (ev_R (v_B_nf v1 (fun f hf => eL f (by omega))) (by rw [eL 38 (by decide)]; exact nb_mono v3 (by omega)) ok').1
  have ny : ∀ f, f < 15 ∨ 36 < f → f ≠ 63 → f ≠ 58 → m_tk2 y.1 j f = y.1 f := fun f h1 h2 h3 => by unfold m_tk2; rw [evne h1 h2, eL f h3]
  have s31 : m_tk2 y.1 j 31 = y.1 31 := m_tk2_ne (by decide) (by decide) (by decide) (by decide) (by decide) (by decide) (by decide) (by decide) (by decide) (by decide)
  have s58 : ∀ h, m_tk2 y.1 j 58 h = if h = j then nI (cl (y.1 58 j) + 1) else y.1 58 h := fun h => by
    unfold m_tk2; rw [evne (by decide) (by decide), u2_i, nIv_inc]
  have cme : CM n (m_tk2 y.1 j) := cm_ev (L := u2 y.1 58 j (nI (cl (y.1 58 j)) + 1)) hm (fun f hf => eL f (by omega)) (fun f hf => rfl) (fun i hi => vF_27 vF hi)
  have z120 : ∀ h, k_te2 z.1 pg j (z.2.2.2 a) 120 h = if h = j then nI (k_wr 512 (cl (z.1 120 j) + 1)) else z.1 120 h := fun h => by
    unfold k_te2; rw [k_rcv_ne (by omega)]; unfold k_te0; rw [u2_ne (by decide), u2_i]
  have z121 : ∀ h, k_te2 z.1 pg j (z.2.2.2 a) 121 h = if h = j then nI (cl (z.1 121 j) - 1) else z.1 121 h := fun h => by
    unfold k_te2; rw [k_rcv_ne (by omega)]; unfold k_te0; rw [u2_i, u2_ne (by decide)]
  have wF' : w_F j (k_te0 z.1 j) (k_te2 z.1 pg j (z.2.2.2 a)) := wF
  have raN' : RA pg j (m_tk2 y.1 j) (k_te2 z.1 pg j (z.2.2.2 a)) := raN
  have zlo : ∀ f, f < 15 ∨ (37 < f ∧ f < 100) ∨ 108 < f → f ≠ 120 → f ≠ 121 → k_te2 z.1 pg j (z.2.2.2 a) f = z.1 f := fun f hf h1 h2 => by
    rw [show k_te2 z.1 pg j (z.2.2.2 a) f = k_te0 z.1 j f from funext fun i => wF_lo wF' hf, k_te0_ne ⟨h1, h2⟩]
  have z37 : k_te2 z.1 pg j (z.2.2.2 a) 37 = z.1 37 := k_te2_ne (by omega)
  have zh : ∀ h f i, h ≠ j → i < zS f → f ≠ 120 → f ≠ 121 → k_te2 z.1 pg j (z.2.2.2 a) f (zS f * h + i) = z.1 f (zS f * h + i) := fun h f i hne hi h1 h2 => by
    rw [wF_h wF' hne hi, k_te0_ne ⟨h1, h2⟩]
  generalize k_te2 z.1 pg j (z.2.2.2 a) = U at *
  generalize m_tk2 y.1 j = s' at *
  have ag : AgE y.1 s' y.2 y.2 := AgE_ne (fun f h1 h2 => ny f (by omega) (by omega) (by omega)) rfl
  refine ⟨RG_nf hg (fun f hf => zlo f (by omega) (by omega) (by omega)) (fun f hf => ny f (by omega) (by omega) (by omega)), fun h hhn => ?_, RP_fr hp (fun f hf => zlo f (by omega) (by omega) (by omega)) (fun _ => ⟨rfl, rfl⟩) (fun _ _ _ _ => rfl) (fun _ _ _ _ => rfl) (fun f hf => ny f (by omega) (by omega) (by omega)) ag, RD_fr hd' (fun f h1 h2 => zlo f (by omega) (by omega) (by omega)) (fun f h1 h2 => ny f (by omega) (by omega) (by omega)), EX_nf hx (Nat.le_refl _) (fun f hf => ny f (by omega) (by omega) (by omega)), TK_63 ht (Nat.le_refl _) (fun f hf => ny f (by omega) (by omega) (by omega)) (fun i => ?_), cme⟩
  · by_cases x : h = j
    · subst x
      have n1 : ¬ y.1 7 h = 1 := by rcases h7 with q | q <;> rw [q] <;> decide
      have g : gst y.1 h := Or.inr h7
      have e7 : s' 7 h = y.1 7 h := by rw [ny 7 (by decide) (by decide) (by decide)]
      refine ⟨raN', ?_, rt.2.1, ?_, ?_, ?_, ⟨fun w => ?_, fun _ => ?_, fun _ => ?_, fun w => ?_⟩, fun _ i hi => ?_, ?_⟩
      · show U 37 h = s' 37 h; rw [z37, ny 37 (by decide) (by decide) (by decide)]; exact rt.1
      · show U 7 h = s' 7 h; rw [zlo 7 (by omega) (by omega) (by omega), e7]; exact rt.2.2.1
      · show U 10 h = s' 10 h; rw [zlo 10 (by omega) (by omega) (by omega), ny 10 (by decide) (by decide) (by decide)]; exact rt.2.2.2.1
      · show U 111 h = _; rw [zlo 111 (by omega) (by omega) (by omega)]; exact rt.2.2.2.2.1
      · have w' : s' 7 h = 1 := w
        rw [e7] at w'; exact absurd w' n1
      · show U 114 h = 0 ∧ U 115 h = 0 ∧ U 116 h = 0
        rw [zlo 114 (by omega) (by omega) (by omega), zlo 115 (by omega) (by omega) (by omega), zlo 116 (by omega) (by omega) (by omega)]
        exact f1.2.1 n1
      · show U 113 h = s' 9 h ∧ U 121 h = nI (cl (s' 59 h) - cl (s' 58 h))
        rw [zlo 113 (by omega) (by omega) (by omega), ny 9 (by decide) (by decide) (by decide), z121, if_pos rfl, ny 59 (by decide) (by decide) (by decide), s58, if_pos rfl, cl_nI (by omega), c121]
        exact ⟨i113, by rw [show cl (y.1 59 h) - cl (y.1 58 h) - 1 = cl (y.1 59 h) - (cl (y.1 58 h) + 1) by omega]⟩
      · have w' : ¬ gst s' h := w
        exact absurd (show gst s' h by unfold gst at g ⊢; rw [e7]; exact g) w'
      · have hi' : i < cl (s' 59 h) - cl (s' 58 h) := hi
        rw [ny 59 (by decide) (by decide) (by decide), s58, if_pos rfl, cl_nI (by omega)] at hi'
        obtain ⟨x, x1, x2⟩ := rt.2.2.2.2.2.2.1 h7 (i + 1) (by omega)
        refine ⟨x, ?_, ?_⟩
        · show z.2.2.1 h (k_wr 512 (cl (U 120 h) + i)) = some x
          rw [z120, if_pos rfl, cl_nI (by have := k_wr_lt (L := 512) (x := cl (z.1 120 h) + 1) (by omega); omega), k_wr2 (by omega) (by omega)]; exact x1
        · show EV s' y.2 (cl (s' 57 (4200 * h + (cl (s' 58 h) + i)))) (z.2.2.2 x)
          rw [ny 57 (by decide) (by decide) (by decide), s58, if_pos rfl, cl_nI (by omega), show cl (y.1 58 h) + 1 + i = cl (y.1 58 h) + (i + 1) by omega]
          exact EV_ag ag x2
      · have f3 := rt.2.2.2.2.2.2.2
        show RF3 s' U h
        unfold RF3 KE k_sl gst at f3 ⊢
        rw [zlo 38 (by omega) (by omega) (by omega), zlo 112 (by omega) (by omega) (by omega), zlo 117 (by omega) (by omega) (by omega), ny 7 (by decide) (by decide) (by decide), ny 38 (by decide) (by decide) (by decide), ny 39 (by decide) (by decide) (by decide), ny 43 (by decide) (by decide) (by decide), s31]
        exact f3
    · refine RH_frw (Vh h hhn) hp16 (by omega) (hh h hhn) ⟨fun f i hf hi => ?_, rfl, fun _ => rfl, fun _ _ _ _ => rfl⟩ ⟨⟨fun f i hf hi => ?_, rfl⟩, fun i _ => ?_⟩ ag (fun w => ?_)
      · show U f _ = z.1 f _
        by_cases q1 : f = 120
        · subst q1
          have hi1 : i < 1 := hi
          rw [z120, if_neg (by show ¬ 1 * h + i = j; omega)]
        by_cases q2 : f = 121
        · subst q2
          have hi1 : i < 1 := hi
          rw [z121, if_neg (by show ¬ 1 * h + i = j; omega)]
        · exact zh h f i x hi q1 q2
      · show s' f _ = y.1 f _
        have q2 := (sm_F (τ := y.2) (υ := y.2) vF x rfl).1 f i hf hi
        rw [q2]
        by_cases q1 : f = 58
        · subst q1
          have hi1 : i < 1 := hi
          rw [u2_sn (by show ¬ 1 * h + i = j; omega)]
        · rw [eL f q1]
      · show s' 43 _ = y.1 43 _
        rw [ny 43 (by decide) (by decide) (by decide)]
      · have w' : nI h = s' 61 0 := w
        rw [ny 61 (by omega) (by omega) (by omega)] at w'
        refine ⟨w', fun p _ => ?_⟩
        show s' 63 p = _
        rw [F_63 vF (fun q => ?_), eL 63 (by omega)]
        rw [eL 61 (by omega), ← w'] at q
        exact x (nIv_inj q (by omega) (by omega)).symm
  · show s' 63 i = _ ∨ s' 63 i = 1
    have := ev_63 vF i
    rw [eL 63 (by decide)] at this
    exact this
