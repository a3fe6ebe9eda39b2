theorem stl_37 {σ : (Nat → Nat → Int32)} {j A : Nat} {v : Int32} : ∀ i, k_stl σ j A v i 37 = σ 37
  | 0 => rfl
  | i + 1 => by
    unfold k_stl k_write
    rw [u2_ne (by decide), u2_ne (by decide)]; exact stl_37 i
theorem wdev_37 {σ : (Nat → Nat → Int32)} {pg j pf pc z t : Nat} {v : Int32} : k_wdev σ pg j pf pc z t v 37 = σ 37 := by
  unfold k_wdev k_outB k_diskS k_dk1 k_dk0 k_outP k_rec k_drpP
  repeat' split
  all_goals first
    | rfl
    | (rw [u2_ne (by decide), u2_ne (by decide), k_wbl_ne (by decide) (by decide)]; done)
    | (rw [u2_ne (by decide), u2_ne (by decide), k_cp_ne (by decide), u2_ne (by decide), u2_ne (by decide), u2_ne (by decide), u2_ne (by decide)]; done)
    | (rw [k_cp_ne (by decide), u2_ne (by decide), u2_ne (by decide)]; done)
    | (rw [u2_ne (by decide), u2_ne (by decide), u2_ne (by decide)]; done)
    | (rw [u2_ne (by decide)]; done)
theorem op_37 {σ : (Nat → Nat → Int32)} {τ : (Nat → Nat → Int64)} {pg j : Nat} {w : Int32} : k_op σ τ pg j w 37 = σ 37 := by
  unfold k_op
  by_cases e : w &&& 127 = 55
  · rw [if_pos e]; exact (kp_goesOn kp_rf) 37 rfl
  rw [if_neg e]
  by_cases e : w &&& 127 = 23
  · rw [if_pos e]; exact (kp_goesOn kp_rf) 37 rfl
  rw [if_neg e]
  by_cases e : w &&& 127 = 111
  · rw [if_pos e]; exact (kp_jumps kp_rf) 37 rfl
  rw [if_neg e]
  by_cases e : w &&& 127 = 103
  · rw [if_pos e]
    by_cases e : m_f3 w = 0
    · rw [if_pos e]; exact (kp_jumps kp_rf) 37 rfl
    · rw [if_neg e]; exact (kp_trap kp_rf) 37 rfl
  rw [if_neg e]
  by_cases e : w &&& 127 = 99
  · rw [if_pos e]; exact (kp_branch kp_rf) 37 rfl
  rw [if_neg e]
  by_cases e : w &&& 127 = 3
  · rw [if_pos e]
    unfold k_loads
    repeat' split
    · exact (kp_trap kp_rf) 37 rfl
    · exact (kp_trap kp_rf) 37 rfl
    · exact (kp_goesOn kp_rf) 37 rfl
    · have : k_rds σ j (cl (σ 101 j)) (cl (σ 33 j)) (cl (m_ra σ j w + m_sr w 20 - 65536)) 37 = σ 37 := by
        unfold k_rds k_took
        repeat' split
        · rfl
        · rw [u2_ne (by decide), u2_ne (by decide)]
        · rfl
      exact ((kp_goesOn kp_rf) 37 rfl).trans this
    · exact (kp_trap kp_rf) 37 rfl
  rw [if_neg e]
  by_cases e : w &&& 127 = 35
  · rw [if_pos e]
    unfold k_stores m_next
    repeat' split
    · exact (kp_trap kp_rf) 37 rfl
    · exact (kp_trap kp_rf) 37 rfl
    · rw [u2_ne (by decide)]; exact stl_37 _
    · rw [u2_ne (by decide)]; exact wdev_37
    · exact (kp_trap kp_rf) 37 rfl
  rw [if_neg e]
  by_cases e : w &&& 127 = 19
  · rw [if_pos e]; exact (kp_reckons kp_rf) 37 rfl
  rw [if_neg e]
  by_cases e : w &&& 127 = 51
  · rw [if_pos e]; exact (kp_reckons kp_rf) 37 rfl
  rw [if_neg e]
  by_cases e : w &&& 127 = 15
  · rw [if_pos e]; exact u2_ne (by decide)
  rw [if_neg e]
  by_cases e : w &&& 127 = 115
  · rw [if_pos e]; exact (kp_system kp_rf) 37 rfl
  rw [if_neg e]; exact (kp_trap kp_rf) 37 rfl
theorem ms_37 {u : (Nat → Nat → Int32)} {υ : (Nat → Nat → Int64)} {pg j : Nat} : k_ad3 υ pg j u 37 = u 37 := by
  unfold k_ad3 k_ms
  split
  · rw [(kp_trap kp_rf) 37 rfl, u2_ne (by decide), u2_ne (by decide)]
  · split
    · rw [op_37, u2_ne (by decide), u2_ne (by decide)]
    · rw [(kp_trap kp_rf) 37 rfl, u2_ne (by decide), u2_ne (by decide)]
theorem RR_st {n pg rm c j : Nat} {z : CZ} {y : RZ} {C S1 S' : (Nat → Nat → Int32)} {v : Int64} (hp16 : pg ≤ 16) (hn4 : n ≤ 4) (hc : c ≤ 512) (Vh : ∀ h, h < n → Hw pg c y.1 h) (H : RR n pg rm c z y) (hj : j < n)
    (cF : ∀ f i, C f i = z.1 f i ∨ w_in j f i ∨ (f = 38 ∧ i = j) ∨ ((f = 117 ∨ f = 118 ∨ f = 119) ∧ zS f * j ≤ i ∧ i < zS f * j + zS f)) (raN : RA pg j S' C) (c37 : C 37 j = S' 37 j) (vF : v_F j y.1 S1) (eS : ∀ f, f ≠ 74 → S' f = S1 f) (f3 : RF3 S' C j) (cm : CM n S') : RR n pg rm c (C, t2 z.2.1 19 j v, z.2.2) (S', t2 y.2 19 j v) := by
  obtain ⟨hg, hh, hp, hd', hx, ht, hm⟩ := H
  have ny : ∀ f, f < 15 ∨ 43 < f → f ≠ 63 → f ≠ 74 → S' f = y.1 f := fun f h1 h2 h3 => by rw [eS f h3]; exact funext fun i => F_o vF h1 h2 h3
  have zlo : ∀ f, f < 15 ∨ (38 < f ∧ f < 100) ∨ (108 < f ∧ f < 117) ∨ 119 < f → C f = z.1 f := fun f hf => funext fun i => by
    rcases cF f i with e | e | e | e
    · exact e
    · have := e.1; omega
    · omega
    · omega
  have ag : AgE y.1 S' y.2 (t2 y.2 19 j v) := AgE_ne (fun f h1 h2 => ny f (by omega) (by omega) (by omega)) t2_49
  refine ⟨RG_nf hg (fun f hf => zlo f (by omega)) (fun f hf => ny f (by omega) (by omega) (by omega)), fun h hhn => ?_, RP_fr hp (fun f hf => zlo f (by omega)) (fun _ => ⟨rfl, rfl⟩) (fun _ _ _ _ => rfl) (fun _ _ _ _ => rfl) (fun f hf => ny f (by omega) (by omega) (by omega)) ag, RD_fr hd' (fun f h1 h2 => zlo f (by omega)) (fun f h1 h2 => ny f (by omega) (by omega) (by omega)), EX_nf hx (Nat.le_refl _) (fun f hf => ny f (by omega) (by omega) (by omega)), TK_63 ht (Nat.le_refl _) (fun f hf => ny f (by omega) (by omega) (by omega)) (fun i => ?_), cm⟩
  · by_cases x : h = j
    · subst x
      obtain ⟨ra, rt⟩ := hh h hhn
      refine ⟨raN, c37, ?_, ?_, ?_, ?_, ?_, fun w i hi => ?_, f3⟩
      · show t2 z.2.1 19 h v 19 h = t2 y.2 19 h v 19 h; rw [t2_19s, t2_19s]
      · show C 7 h = S' 7 h; rw [zlo 7 (by omega), ny 7 (by omega) (by omega) (by omega)]; exact rt.2.2.1
      · show C 10 h = S' 10 h; rw [zlo 10 (by omega), ny 10 (by omega) (by omega) (by omega)]; exact rt.2.2.2.1
      · show C 111 h = _; rw [zlo 111 (by omega)]; exact rt.2.2.2.2.1
      · have f1 := rt.2.2.2.2.2.1
        show RF1 S' C h
        unfold RF1 gst at f1 ⊢
        rw [zlo 113 (by omega), zlo 114 (by omega), zlo 115 (by omega), zlo 116 (by omega), zlo 121 (by omega), ny 7 (by omega) (by omega) (by omega), ny 9 (by omega) (by omega) (by omega), ny 11 (by omega) (by omega) (by omega), ny 12 (by omega) (by omega) (by omega), ny 55 (by omega) (by omega) (by omega), ny 58 (by omega) (by omega) (by omega), ny 59 (by omega) (by omega) (by omega)]
        exact f1
      · have w' : S' 7 h = 2 ∨ S' 7 h = 3 := w
        have hi' : i < cl (S' 59 h) - cl (S' 58 h) := hi
        rw [ny 7 (by omega) (by omega) (by omega)] at w'
        rw [ny 58 (by omega) (by omega) (by omega), ny 59 (by omega) (by omega) (by omega)] at hi'
        obtain ⟨a, a1, a2⟩ := rt.2.2.2.2.2.2.1 w' i hi'
        refine ⟨a, ?_, ?_⟩
        · show z.2.2.1 h (k_wr 512 (cl (C 120 h) + i)) = some a
          rw [zlo 120 (by omega)]; exact a1
        · show EV S' (t2 y.2 19 h v) (cl (S' 57 (4200 * h + (cl (S' 58 h) + i)))) (z.2.2.2 a)
          rw [ny 57 (by omega) (by omega) (by omega), ny 58 (by omega) (by omega) (by omega)]; exact EV_ag ag a2
    · refine RH_frw (Vh h hhn) hp16 (by omega) (hh h hhn) ⟨fun f i hf hi => ?_, t2_19 x, fun _ => rfl, fun _ _ _ _ => rfl⟩ ⟨⟨fun f i hf hi => ?_, t2_19 x⟩, fun i hi => ?_⟩ ag (fun w => ?_)
      · show C f _ = z.1 f _
        rcases cF f (zS f * h + i) with e | ⟨r, w1, w2⟩ | ⟨e1, e2⟩ | ⟨e1, w1, w2⟩
        · exact e
        · have e : zS f = w_s f := by unfold zS; rw [if_neg (by omega), if_neg (by omega)]
          rw [e] at w1 w2 hi
          exact absurd (sl_ne hi w1 w2) x
        · subst e1
          have hi1 : i < 1 := hi
          have e2' : 1 * h + i = j := e2
          omega
        · exact absurd (sl_ne hi w1 w2) x
      · show S' f _ = y.1 f _
        have w := of_decide_eq_true hf
        rw [eS f (by omega)]
        exact (sm_F (τ := y.2) (υ := y.2) vF x rfl).1 f i hf hi
      · show S' 43 _ = y.1 43 _
        rw [eS 43 (by decide)]; exact vF_43 vF x hi
      · have w' : nI h = S' 61 0 := w
        rw [ny 61 (by omega) (by omega) (by omega)] at w'
        refine ⟨w', fun p _ => ?_⟩
        show S' 63 p = _
        rw [eS 63 (by decide), F_63 vF (fun q => ?_)]
        rw [← w'] at q
        exact x (nIv_inj q (by omega) (by omega)).symm
  · show S' 63 i = _ ∨ S' 63 i = 1
    rw [eS 63 (by decide)]; exact ev_63 vF i
