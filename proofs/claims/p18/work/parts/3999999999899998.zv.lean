theorem nx_o {s : (Nat → Nat → Int32)} {τ : (Nat → Nat → Int64)} {j f : Nat} (vF : v_F j s (m_stx s τ j)) (hf : f = 2 ∨ f = 7 ∨ f = 61 ∨ f = 62) : m_nx0 s τ j f = s f := by
  have so : m_stx s τ j f = s f := funext fun i => F_o vF (by omega) (by omega) (by omega)
  rw [nx_e (by omega)]
  unfold m_pst
  split
  · split
    · have : lg (m_stx s τ j) j 4 0 f = m_stx s τ j f := lg_nf (by omega)
      exact this.trans so
    · rw [lall_f (by omega)]; exact so
  · exact so
theorem RR_turn {ca : Nat → Nat → Nat} {n pg rm c t j : Nat} {z : CZ} {s : (Nat → Nat → Int32)} {τ : (Nat → Nat → Int64)} (hc : c ≤ 511) (ok : OKp ca n pg rm c z) (H : RR n pg rm (c + 1) z (s, τ)) (J : JR n pg rm c j t s τ) (ht : t < 2000) (hj : j < n) (nf : NF s j) : (∀ z', StZ n pg rm j z z' → m_go s τ j = true ∧ RR n pg rm (c + 1) z' (m_nx0 (m_rt s τ j) τ j, m_stT (m_rt s τ j) τ j) ∧ JR n pg rm c j (t + 1) (m_nx0 (m_rt s τ j) τ j) (m_stT (m_rt s τ j) τ j) ∧ NF (m_nx0 (m_rt s τ j) τ j) j) ∧ (∀ ς, ¬ k_adG n pg j (k_ad0 z.2.2.2 z.2.2.1 z.2.1 pg j z.1) → k_adE n j (k_ad0 z.2.2.2 z.2.2.1 z.2.1 pg j z.1) ς → m_go s τ j = false ∧ RR n pg rm (c + 1) (ς, z.2) (m_end s τ j, τ)) := by
  obtain ⟨R, J1, S1, nf1, tf, h17⟩ := RR_rt hc ok H J ht hj nf
  have G := go_G (z := (k_ad0 z.2.2.2 z.2.2.1 z.2.1 pg j z.1, z.2)) (s := m_rt s τ j) (τ := τ) hc S1 R J1 hj nf1
  dsimp only at G
  obtain ⟨G1, G2, G3⟩ := G
  have hj4 : j < 4 := by obtain ⟨l, inv, -⟩ := J; have := inv.1.1.2.2.2.2.2.2.1; omega
  have lv : (decide (s 7 j = 1) || m_tkr (m_rt s τ j) j) = m_tkr (m_rt s τ j) j := by
    by_cases q : s 7 j = 1
    · have : m_tkr (m_rt s τ j) j = true := decide_eq_true (Or.inl (h17 q))
      rw [this, Bool.or_true]
    · rw [decide_eq_false q]; rfl
  refine ⟨fun z' st => ?_, fun ς ng e => ?_⟩
  · obtain ⟨⟨a1, a2, a3⟩, stY⟩ := StZ_Y st
    have r1 := G1.mp a1
    rw [G2] at a2
    have r3 : m_stall (m_rt s τ j) j = false := Bool.eq_false_iff.mpr (fun w => a3 (G3.mpr w))
    have go : m_go s τ j = true := by unfold m_go; rw [lv, r1, a2, r3]; rfl
    have hgo : m_rt s τ j 7 j = 1 ∨ (m_tkr (m_rt s τ j) j = true ∧ m_tkc (m_rt s τ j) τ j = false) := by
      rcases tf with w | w
      · exact Or.inl w
      · exact Or.inr ⟨r1, w⟩
    have J2 := (((run_C hc hj4 t _ τ ht J1).2 hgo).2.2 a2 r3).2
    refine ⟨go, RR_stp (z := (k_ad0 z.2.2.2 z.2.2.1 z.2.1 pg j z.1, z.2)) (s := m_rt s τ j) (τ := τ) hc S1 R J1 ht hj r3 stY, J2, fun w => ?_⟩
    obtain ⟨l, inv, -⟩ := J1
    have vF := (st_R (τ := τ) (inv.2.1 j hj4).1.1 (nb_mono (inv.2.1 j hj4).1.2.2.2.2.2.2.1 (by omega))).1
    unfold m_frozen
    rw [nx_o vF (by omega)] at w
    rw [nx_o vF (by omega), nx_o vF (by omega), nx_o vF (by omega)]
    exact nf1 w
  · obtain ⟨l, inv, -⟩ := id J1
    have hn4 := inv.1.1.2.2.2.2.2.2.1
    have hp16 := inv.1.1.2.2.2.2.2.2.2.2.1
    have ng' : ¬ (m_tkr (m_rt s τ j) j = true ∧ m_stuck (m_rt s τ j) j = false ∧ m_stall (m_rt s τ j) j = false) := fun w => ng ⟨G1.mpr w.1, by rw [G2]; exact w.2.1, fun x => by have := G3.mp x; rw [w.2.2] at this; exact absurd this (by decide)⟩
    have gf : m_go s τ j = false := by
      unfold m_go
      rw [lv]
      cases a : m_tkr (m_rt s τ j) j with
      | false => rfl
      | true =>
        cases b : m_stuck (m_rt s τ j) j with
        | true => rfl
        | false =>
          cases d : m_stall (m_rt s τ j) j with
          | true => rfl
          | false => exact absurd ⟨a, b, d⟩ ng'
    refine ⟨gf, ?_⟩
    unfold m_end
    rw [lv]
    rcases e with ⟨e1, e2⟩ | ⟨e1, e2⟩
    · rw [e2, if_neg (fun w => e1 ⟨G1.mpr w.1, by rw [G2]; exact w.2⟩)]
      exact R
    · rw [e2, if_pos ⟨G1.mp e1.1, by rw [← G2]; exact e1.2⟩]
      exact RR_20 (z := (k_ad0 z.2.2.2 z.2.2.1 z.2.1 pg j z.1, z.2)) (y := (m_rt s τ j, τ)) hp16 hn4 (by omega) S1.1.1 (fun h hh => Hw_up (inv.2.1 h (by omega)).w (by omega)) R hj
theorem runl_s {j n : Nat} {σ : (Nat → Nat → Int32)} {τ : (Nat → Nat → Int64)} : m_runl j (n + 1) σ τ = if m_go σ τ j = true then ((m_runl j n (m_nx0 (m_rt σ τ j) τ j) (m_stT (m_rt σ τ j) τ j)).1 + 1, (m_runl j n (m_nx0 (m_rt σ τ j) τ j) (m_stT (m_rt σ τ j) τ j)).2) else (0, m_end σ τ j, τ) := rfl
theorem RR_runs {ca : Nat → Nat → Nat} {n pg rm c j N : Nat} {z : CZ} {s : (Nat → Nat → Int32)} {τ : (Nat → Nat → Int64)} (hc : c ≤ 511) (hN : N ≤ 2000) (H : RR n pg rm (c + 1) z (s, τ)) (J : JR n pg rm c j 0 s τ) (hj : j < n) (nf : NF s j) : ∀ (t : Nat) (z1 : CZ), t ≤ N → RnZ ca n pg rm c j t z z1 → ∃ y1 : RZ, RR n pg rm (c + 1) z1 y1 ∧ JR n pg rm c j t y1.1 y1.2 ∧ NF y1.1 j ∧ ∀ N', t + N' = N → (m_runl j N s τ).1 = t + (m_runl j N' y1.1 y1.2).1 ∧ (m_runl j N s τ).2 = (m_runl j N' y1.1 y1.2).2
  | 0, z1, _, r => by
    have e : z1 = z := r
    subst e
    refine ⟨(s, τ), H, J, nf, fun N' hN' => ?_⟩
    have : N' = N := by omega
    subst this
    exact ⟨by rw [Nat.zero_add], rfl⟩
  | t + 1, z1, hle, r => by
    obtain ⟨z0, r0, ok, st⟩ : ∃ z0, RnZ ca n pg rm c j t z z0 ∧ OKp ca n pg rm c z0 ∧ StZ n pg rm j z0 z1 := r
    obtain ⟨y0, H0, J0, nf0, e0⟩ := RR_runs hc hN H J hj nf t z0 (by omega) r0
    obtain ⟨go, R, J1, nf1⟩ := (RR_turn (s := y0.1) (τ := y0.2) hc ok H0 J0 (by omega) hj nf0).1 z1 st
    refine ⟨_, R, J1, nf1, fun N' hN' => ?_⟩
    obtain ⟨a, b⟩ := e0 (N' + 1) (by omega)
    rw [runl_s, if_pos go] at a b
    exact ⟨by rw [a]; exact (show ∀ x : Nat, t + (x + 1) = t + 1 + x from fun x => by omega) _, b⟩
theorem rn_1 {ca : Nat → Nat → Nat} {n pg rm c j : Nat} {z : CZ} : ∀ (t : Nat) (z' : CZ), RnZ ca n pg rm c j (t + 1) z z' → ∃ w, StZ n pg rm j z w
  | 0, z', r => by
    obtain ⟨z0, r0, -, st⟩ : ∃ z0, RnZ ca n pg rm c j 0 z z0 ∧ OKp ca n pg rm c z0 ∧ StZ n pg rm j z0 z' := r
    have e : z0 = z := r0
    subst e
    exact ⟨z', st⟩
  | t + 1, z', r => by
    obtain ⟨z0, r0, -, -⟩ : ∃ z0, RnZ ca n pg rm c j (t + 1) z z0 ∧ OKp ca n pg rm c z0 ∧ StZ n pg rm j z0 z' := r
    exact rn_1 t z0 r0
theorem RR_run {ca : Nat → Nat → Nat} {n pg rm c : Nat} {i s : Int32} {z z' : CZ} {y y' : RZ} {r r' : Int32} (V : CV n pg rm c y.1 y.2) (hc : c ≤ 511) (H : RR n pg rm c z y) (o : oRun ca n pg rm c i s z z' r) (p : pRun n i s y y' r') : RR n pg rm (c + 1) z' y' ∧ r = r' := by
  have hn4 := V.g.1.2.2.2.2.2.2.1
  have H1 := RR_upw H (show c ≤ c + 1 by omega)
  rcases p with ⟨q, ey, er⟩ | ⟨j, N, hj, hN, ei, es, pc⟩
  · rcases o with ⟨-, ez, e1⟩ | ⟨j, N, t, hj, hN, ei, es, -⟩
    · rw [ey, er, ez, e1]; exact ⟨H1, rfl⟩
    · exact absurd ⟨j, N, hj, hN, ei, es⟩ q
  · rcases o with ⟨q, -⟩ | ⟨j', N', t, hj', hN', ei', es', e1, oc⟩
    · exact absurd ⟨j, N, hj, hN, ei, es⟩ q
    · have ej : j' = j := nIv_inj (ei'.symm.trans ei) (by omega) (by omega)
      have eN : N' = N := nIv_inj (es'.symm.trans es) (by omega) (by omega)
      subst ej; subst eN
      have z7 : z.1 7 j' = y.1 7 j' := (H.2.1 j' hj).2.2.2.1
      rcases pc with ⟨q, ey, er⟩ | ⟨q1, q2, ey, er, -⟩
      · have a0 : k_ad0 z.2.2.2 z.2.2.1 z.2.1 pg j' z.1 = z.1 := by
          unfold k_ad0
          rw [if_neg (by
            rw [z7]
            rcases q with w | w
            · exact fun x => w (Or.inr x)
            · rw [w.1]; decide)]
        have nm : ¬ k_may z.1 n j' := fun w => by
          unfold k_may at w
          rw [z7] at w
          rcases q with q | ⟨q, fz⟩
          · rcases w with w | w
            · exact q (Or.inl w.1)
            · exact q (Or.inr w.1)
          · rcases w with w | w
            · obtain ⟨l, inv⟩ := V
              have := (fz_may inv H1.2.2.2.2.1 H1 hj q).mp w.2
              rw [fz] at this; exact absurd this (by decide)
            · rw [q] at w; exact absurd w.1 (by decide)
        have no : ∀ t w, ¬ RnZ ca n pg rm c j' (t + 1) z w := fun t w x => by
          obtain ⟨v, st⟩ := rn_1 t w x
          have := (StZ_Y st).1.1
          rw [a0] at this; exact nm this
        cases t with
        | zero =>
          rw [ey, er, e1]
          refine ⟨?_, rfl⟩
          rcases oc with ⟨e, rz⟩ | ⟨-, z1, ς, rz, -, -, eE, ez⟩
          · subst e
            have e : z' = z := rz
            rw [e]; exact H1
          · have e : z1 = z := rz
            subst e
            rw [a0] at eE
            rcases eE with ⟨-, e⟩ | ⟨w, -⟩
            · rw [ez, e]; exact H1
            · exact absurd w.1 nm
        | succ t =>
          rcases oc with ⟨e, rz⟩ | ⟨-, z1, ς, rz, -⟩
          · rw [← e] at rz; exact absurd rz (no t _)
          · exact absurd rz (no t _)
      · have nf : NF y.1 j' := fun w => Bool.eq_false_iff.mpr (fun x => q2 ⟨w, x⟩)
        have J := JR_0 V hc q1
        rcases oc with ⟨e, rz⟩ | ⟨lt, z1, ς, rz, ok, ng, eE, ez⟩
        · subst e
          obtain ⟨y1, R, -, -, e0⟩ := RR_runs (s := y.1) (τ := y.2) hc hN H1 J hj nf t z' (Nat.le_refl _) rz
          obtain ⟨a, b⟩ := e0 0 (by omega)
          rw [ey, er, e1, a, b]
          exact ⟨R, rfl⟩
        · obtain ⟨y1, R, J1, nf1, e0⟩ := RR_runs (s := y.1) (τ := y.2) hc hN H1 J hj nf t z1 (by omega) rz
          obtain ⟨gf, RE⟩ := (RR_turn (s := y1.1) (τ := y1.2) hc ok R J1 (by omega) hj nf1).2 ς ng eE
          obtain ⟨a, b⟩ := e0 (N' - t - 1 + 1) (by omega)
          rw [runl_s, if_neg (by rw [gf]; decide)] at a b
          rw [ey, er, e1, a, b, ez]
          exact ⟨RE, rfl⟩
theorem RR_hosF {n pg rm c : Nat} {i s : Int32} {z z' : CZ} {y y' : RZ} {r r' : Int64} (V : CV n pg rm c y.1 y.2) (H : RR n pg rm c z y) (o : oHos n pg i s z z' r) (p : pHos n pg i s y y' r') : RR n pg rm (c + 1) z' y' ∧ r = r' := ⟨by rw [o.1, p.1]; exact RR_upw H (by omega), RR_hos V H o p⟩
theorem RR_memF {n pg rm c : Nat} {i a : Int32} {z z' : CZ} {y y' : RZ} {r r' : Int32} (hn : n ≤ 4) (hp : pg ≤ 16) (H : RR n pg rm c z y) (o : oMem n pg i a z z' r) (p : pMem n pg i a y y' r') : RR n pg rm (c + 1) z' y' ∧ r = r' := ⟨by rw [o.1, p.1]; exact RR_upw H (by omega), RR_mem hn hp H o p⟩
theorem RR_blkF {n pg rm c : Nat} {b k : Int32} {z z' : CZ} {y y' : RZ} {r r' : Int32} (H : RR n pg rm c z y) (o : oBlk b k z z' r) (p : pBlk b k y y' r') : RR n pg rm (c + 1) z' y' ∧ r = r' := ⟨by rw [o.1, p.1]; exact RR_upw H (by omega), RR_blk H o p⟩
