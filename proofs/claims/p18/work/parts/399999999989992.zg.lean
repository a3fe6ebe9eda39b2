theorem ev_kd {s : (Nat → Nat → Int32)} {τ : (Nat → Nat → Int64)} {e : Nat} {d : ED} (H : EV s τ e d) : d.1 = 0 ↔ s 45 e = 4 := by
  obtain ⟨⟨a1, -⟩, -, -, -, b⟩ := H
  have b2 := b.2
  rw [a1]
  constructor
  · intro q
    have : (cl (s 45 e) + 1) % 5 = 0 := nIv_inj (b := 0) q (by omega) (by omega)
    have e4 : cl (s 45 e) = 4 := by omega
    rw [b.1, e4]; rfl
  · intro q
    rw [q]; rfl
theorem ak_l1 {u : (Nat → Nat → Int32)} {rm j : Nat} {kd : Int32} : k_ak u rm j kd = if kd = 0 ∧ ¬ cl (u 38 j) = 0 then k_l1 (k_ak1 u rm j) j else k_ak1 u rm j := by
  have e : ∀ f, f ≠ 114 → f ≠ 134 → f ≠ 135 → k_ak1 u rm j f = u f := fun f a b c => by unfold k_ak1; rw [u2_ne a, u2_ne c, u2_ne b]
  unfold k_ak k_l1 k_sl
  rw [e 112 (by decide) (by decide) (by decide), e 38 (by decide) (by decide) (by decide), e 117 (by decide) (by decide) (by decide), e 118 (by decide) (by decide) (by decide), e 119 (by decide) (by decide) (by decide)]
theorem SC_ak1w {n pg rm c j : Nat} {u : (Nat → Nat → Int32)} (hn : n ≤ 4) (hr : rm ≤ 32) (hr1 : 1 ≤ rm) (hc : c ≤ 511) (h : SC n pg rm c u) : SC n pg rm (c + 1) (k_ak1 u rm j) := SC_ak1 hn hr hr1 (by omega) h
theorem RR_ack {n pg rm c : Nat} {z z' : CZ} {y y' : RZ} {r r' : Int32} (S : SC n pg rm c z.1) (hr1 : 1 ≤ rm) (V : CV n pg rm c y.1 y.2) (hc : c ≤ 511) (H : RR n pg rm c z y) (o : oAck n rm z z' r) (p : pAck n y y' r') : RR n pg rm (c + 1) z' y' ∧ r = r' := by
  have hn4 := V.g.1.2.2.2.2.2.2.1
  have hp16 : pg ≤ 16 := V.g.1.2.2.2.2.2.2.2.2.1
  have hrm : rm ≤ 32 := V.g.1.2.2.2.2.2.2.2.2.2.2
  have z7 : ∀ j, j < n → z.1 7 j = y.1 7 j := fun j hj => (H.2.1 j hj).2.2.2.1
  have i115 : ∀ j, j < n → y.1 7 j = 1 → z.1 115 j = y.1 11 j := fun j hj h7 => ((H.2.1 j hj).2.2.2.2.2.2.1.1 h7).1
  obtain ⟨l0, inv⟩ := id V
  have hx := H.2.2.2.2.1
  have at1 : ∀ j, j < n → z.1 122 0 = nI j → z.1 7 j = 1 → ¬ z.1 115 j = 0 → ¬ cl (z.1 135 0) = 0 → AkAt y.1 j := fun j hj a b c d => by
    rw [z7 j hj] at b
    rw [i115 j hj b] at c
    refine ⟨b, c, ?_⟩
    rcases H.2.2.1 with ⟨-, q, -⟩ | ⟨l, hl, lk, q1, q2, q3, q4, -⟩
    · rw [q] at a; exact absurd a.symm (nI_m1 (by omega))
    · have : l = j := nIv_inj (q1.symm.trans a) (by omega) (by omega)
      subst this
      rw [q4] at d
      intro w
      rw [w] at d; exact d rfl
  have at2 : ∀ j, j < n → AkAt y.1 j → z.1 122 0 = nI j ∧ z.1 7 j = 1 ∧ ¬ z.1 115 j = 0 ∧ ¬ cl (z.1 135 0) = 0 := fun j hj ak => by
    obtain ⟨h7, h11, h56⟩ := ak
    obtain ⟨c1, c2, c3, c4, c5, c6, c7⟩ := (inv.2.1 j (by omega)).2.1 h11
    have h12 : y.1 12 j = 0 := by
      by_cases q : y.1 12 j = 0
      · exact q
      · exact absurd (c7 q).1 h56
    obtain ⟨ch1, ch2, ch3, ch4, -⟩ := RP_at H.2.2.1 hx hj hn4 ⟨h11, h12⟩
    refine ⟨ch1, by rw [z7 j hj]; exact h7, by rw [i115 j hj h7]; exact h11, ?_⟩
    rw [ch4]
    intro w
    exact h56 (by rw [c3.1, w]; rfl)
  rcases p with ⟨q, ey, er⟩ | ⟨j, hj, ak, -, ey, er⟩
  · rcases o with ⟨e1, e2, -⟩ | ⟨-, j, a, hj, w1, w2, w3, w4, -⟩
    · rw [e1, e2, ey, er]; exact ⟨RR_upw H (by omega), rfl⟩
    · exact absurd (at1 j hj w1 w2 w3 w4) (q j hj)
  · obtain ⟨v1, v2, v3, v4⟩ := at2 j hj ak
    rcases o with ⟨-, -, w⟩ | ⟨e1, j', a, hj', w1, w2, w3, w4, w5, e2⟩
    · rcases w with w | w
      · exact absurd ⟨j, hj, v1, v2, v3⟩ w
      · exact absurd w v4
    · have : j' = j := nIv_inj (w1.symm.trans v1) (by omega) (by omega)
      subst this
      rw [e1, e2, ey, er]
      refine ⟨?_, rfl⟩
      obtain ⟨R0, a', x1, x2⟩ := RR_ack0 S V hc H hj ak
      rw [w5] at x1
      have ea : a = a' := Option.some.inj x1
      subst ea
      have kd := ev_kd x2
      have nk := ((CV_ack hc V (by omega) ak).2).2.2.2
      have g : gst y.1 j' := Or.inl ak.1
      have e38 : z.1 38 j' = y.1 38 j' := ((H.2.1 j' hj).2.2.2.2.2.2.2.2.1 g).1
      rw [ak_l1]
      unfold m_ack
      by_cases q : y.1 45 (cl (y.1 54 (64 * j'))) = 4
      · obtain ⟨-, n38, -⟩ := nk q
        rw [if_pos q, if_pos ⟨kd.mpr q, by rw [e38]; omega⟩]
        have nf : ∀ f, f ≠ 54 → f ≠ 55 → f ≠ 56 → m_ack0 y.1 j' f = y.1 f := fun f a b c => m_ack0_ne a b c
        have hH := inv.2.1 j' (by omega)
        have R1 := RR_upw R0 (show c ≤ c + 1 by omega)
        have S1 : SC n pg rm (c + 1) (k_ak1 z.1 rm j') := SC_ak1 hn4 hrm hr1 (by omega) S
        have hI : HI (256 * pg) (2000 * c) l0 (m_ack0 y.1 j') y.2 j' := HI_nf hH.1 (fun f hf => nf f (by omega) (by omega) (by omega)) rfl
        have hO : OI c l0 (m_ack0 y.1 j') := OI_nf inv.2.2.1 (fun f hf => nf f (by omega) (by omega) (by omega))
        have hVh : ∀ h, h < n → Hw pg (c + 1) (m_ack0 y.1 j') h := fun h hh => by
          have w := Hw_nf (s' := m_ack0 y.1 j') (inv.2.1 h (by omega)).w (fun f hf => nf f (by omega) (by omega) (by omega))
          exact ⟨w.1, ⟨nb_up w.2.1.1 (by omega), nb_up w.2.1.2.1 (by omega), w.2.1.2.2⟩, w.2.2⟩
        have hg : gst (m_ack0 y.1 j') j' := by
          unfold gst at g ⊢
          rw [nf 7 (by decide) (by decide) (by decide)]; exact g
        have h10 : nb (m_ack0 y.1 j' 10 j') (c + 1) := by rw [nf 10 (by decide) (by decide) (by decide)]; exact nb_up hH.2.2.2.2.1 (by omega)
        have ek : cl (m_ack0 y.1 j' 38 j') = cl (y.1 38 j') - 1 + 1 := by rw [nf 38 (by decide) (by decide) (by decide)]; omega
        have R2 := RR_leave (z := (k_ak1 z.1 rm j', z.2)) (y := (m_ack0 y.1 j', y.2)) (S1.1.2.2.2.2 j' hj).1.2 hp16 hn4 (show c + 1 ≤ 512 by omega) hVh R1 hj hg hI h10 hO (show c ≤ 4000 by omega) ek
        exact R2
      · rw [if_neg q, if_neg (fun w => q (kd.mp w.1))]
        exact RR_upw R0 (by omega)
