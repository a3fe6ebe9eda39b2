theorem RP_fr {n rm : Nat} {z z' : CZ} {y y' : RZ} (H : RP n rm z y) (hz : ∀ f, f = 122 ∨ f = 123 ∨ (132 ≤ f ∧ f ≤ 135) → z'.1 f = z.1 f) (hρ : ∀ i, z'.2.2.1 4 i = z.2.2.1 4 i ∧ z'.2.2.1 5 i = z.2.2.1 5 i) (he4 : ∀ i a, i < cl (z.1 133 0) → z.2.2.1 4 (k_wr rm (cl (z.1 132 0) + i)) = some a → z'.2.2.2 a = z.2.2.2 a) (he5 : ∀ i a, i < cl (z.1 135 0) → z.2.2.1 5 (k_wr rm (cl (z.1 134 0) + i)) = some a → z'.2.2.2 a = z.2.2.2 a) (hy : ∀ f, f = 8 ∨ f = 11 ∨ f = 12 ∨ f = 52 ∨ f = 53 ∨ f = 54 ∨ f = 56 → y'.1 f = y.1 f) (ag : AgE y.1 y'.1 y.2 y'.2) : RP n rm z' y' := by
  have e122 := hz 122 (by omega)
  have e123 := hz 123 (by omega)
  have e132 := hz 132 (by omega)
  have e133 := hz 133 (by omega)
  have e134 := hz 134 (by omega)
  have e135 := hz 135 (by omega)
  have y8 := hy 8 (by omega)
  have y11 := hy 11 (by omega)
  have y12 := hy 12 (by omega)
  have y52 := hy 52 (by omega)
  have y53 := hy 53 (by omega)
  have y54 := hy 54 (by omega)
  have y56 := hy 56 (by omega)
  rcases H with ⟨h1, h2, h3, h4, h5⟩ | ⟨l, hl, h1, c1, c2, c3, c4, c5, c6, c7⟩
  · refine Or.inl ⟨fun l hl q => h1 l hl ?_, by rw [e122]; exact h2, by rw [e123]; exact h3, by rw [e133]; exact h4, by rw [e135]; exact h5⟩
    unfold LKl at q ⊢
    rw [y11, y12] at q; exact q
  · refine Or.inr ⟨l, hl, ?_, by rw [e122]; exact c1, by rw [e123, y8]; exact c2, by rw [e133, y53]; exact c3, by rw [e135, y56]; exact c4, fun i hi => ?_, fun i hi => ?_, ?_⟩
    · unfold LKl at h1 ⊢
      rw [y11, y12]; exact h1
    · rw [y53] at hi
      obtain ⟨a, a1, a2⟩ := c5 i hi
      refine ⟨a, by rw [(hρ _).1, e132]; exact a1, ?_⟩
      rw [y52, he4 i a (by rw [c3]; exact hi) a1]
      exact EV_ag ag a2
    · rw [y56] at hi
      obtain ⟨a, a1, a2⟩ := c6 i hi
      refine ⟨a, by rw [(hρ _).2, e134]; exact a1, ?_⟩
      rw [y54, he5 i a (by rw [c4]; exact hi) a1]
      exact EV_ag ag a2
    · rw [y53, y54, y56, y52]; exact c7
theorem RD_fr {z z' : CZ} {y y' : RZ} (H : RD z y) (hz : ∀ f, 124 ≤ f → f ≤ 131 → z'.1 f = z.1 f) (hy : ∀ f, 65 ≤ f → f ≤ 71 → y'.1 f = y.1 f) : RD z' y' := by
  unfold RD RDo at H ⊢
  rw [hz 124 (by omega) (by omega), hz 125 (by omega) (by omega), hz 126 (by omega) (by omega), hz 127 (by omega) (by omega), hz 129 (by omega) (by omega), hz 130 (by omega) (by omega), hz 131 (by omega) (by omega), hy 65 (by omega) (by omega), hy 66 (by omega) (by omega), hy 67 (by omega) (by omega), hy 68 (by omega) (by omega), hy 69 (by omega) (by omega), hy 70 (by omega) (by omega), hy 71 (by omega) (by omega)]
  exact H
theorem pgc_e {s s' : (Nat → Nat → Int32)} : ∀ p, (∀ i, i < p → s' 63 i = s 63 i) → pgc s' p = pgc s p
  | 0, _ => rfl
  | p + 1, h => by unfold pgc; rw [pgc_e p (fun i hi => h i (by omega)), h p (by omega)]
theorem TK_nf {pg c d : Nat} {s s' : (Nat → Nat → Int32)} (H : TK pg c s) (hc : c ≤ d) (e : ∀ f, f = 5 ∨ f = 7 ∨ f = 10 ∨ f = 60 ∨ f = 63 ∨ f = 65 ∨ f = 66 ∨ f = 67 ∨ f = 68 → s' f = s f) : TK pg d s' := by
  obtain ⟨t, P, h1, h2, h3⟩ := H
  refine ⟨t, P, fun h hh g w => h1 h hh ?_ ?_, ?_, ?_⟩
  · unfold gst at g ⊢; rw [e 7 (by omega)] at g; exact g
  · unfold NW at w ⊢; rw [e 65 (by omega), e 66 (by omega), e 67 (by omega), e 68 (by omega), e 10 (by omega)] at w; exact w
  · rw [e 65 (by omega), e 66 (by omega), e 5 (by omega)]; exact h2
  · rw [e 60 (by omega), pgc_e (s := s) pg (fun i _ => by rw [e 63 (by omega)])]; omega
theorem CS.nf {j : Nat} {z z' : CZ} (ez : ∀ f, zF f = true → z'.1 f = z.1 f) (e2 : z'.2 = z.2) : CS j z z' := ⟨fun f i hf _ => by rw [ez f hf], by rw [e2], fun i => by rw [e2], fun i a _ _ => by rw [e2]⟩
theorem RS.nf {j : Nat} {y y' : RZ} (ey : ∀ f, h_f f = true ∨ f = 43 → y'.1 f = y.1 f) (e2 : y'.2 = y.2) : RS j y y' := ⟨⟨fun f i hf _ => by rw [ey f (Or.inl hf)], by rw [e2]⟩, fun x _ => by rw [ey 43 (Or.inr rfl)]⟩
theorem RR_same {n pg rm c d : Nat} {z z' : CZ} {y y' : RZ} (V : CV n pg rm c y.1 y.2) (hc : c ≤ 4000) (H : RR n pg rm c z y) (hd : c ≤ d) (ez : ∀ f, f ≠ 6 → z'.1 f = z.1 f) (ez2 : z'.2 = z.2) (ey : ∀ f, f ≠ 6 → y'.1 f = y.1 f) (ey2 : y'.2 = y.2) (h6 : ∀ i, i < 256 * pg → z'.1 6 i = y'.1 6 i) : RR n pg rm d z' y' := by
  obtain ⟨hg, hh, hp, hd', hx, ht, hm⟩ := H
  have hn4 := V.g.1.2.2.2.2.2.2.1
  have ag : AgE y.1 y'.1 y.2 y'.2 := AgE_ne (fun f h1 h2 => ey f (by omega)) (by rw [ey2])
  refine ⟨?_, fun j hj => ?_, ?_, ?_, EX_nf hx hd (fun f hf => ey f (by omega)), TK_nf ht hd (fun f hf => ey f (by omega)), CM_nf hm (fun f hf => ey f (by omega))⟩
  · obtain ⟨g1, -, g3, g4, g5, g6, g7, g8⟩ := hg
    unfold RG
    rw [ez 5 (by decide), ez 13 (by decide), ez 14 (by decide), ez 62 (by decide), ez 64 (by decide), ez 2 (by decide), ez 3 (by decide), ey 5 (by decide), ey 13 (by decide), ey 14 (by decide), ey 62 (by decide), ey 64 (by decide)]
    exact ⟨g1, h6, g3, g4, g5, g6, g7, g8⟩
  · refine RH_frV V (by omega) (by omega) (hh j hj) (CS.nf (fun f hf => ez f ?_) ez2) (RS.nf (fun f hf => ey f ?_) ey2) ag (fun q => ⟨by rw [← ey 61 (by decide)]; exact q, fun p _ => by rw [ey 63 (by decide)]⟩)
    · rintro rfl; exact absurd hf (by decide)
    · rintro rfl; exact absurd hf (by decide)
  · exact RP_fr hp (fun f hf => ez f (by omega)) (fun i => by rw [ez2]; exact ⟨rfl, rfl⟩) (fun i a _ _ => by rw [ez2]) (fun i a _ _ => by rw [ez2]) (fun f hf => ey f (by omega)) ag
  · exact RD_fr hd' (fun f h1 h2 => ez f (by omega)) (fun f h1 h2 => ey f (by omega))
theorem RR_up {n pg rm c d : Nat} {z : CZ} {y : RZ} (V : CV n pg rm c y.1 y.2) (hc : c ≤ 4000) (H : RR n pg rm c z y) (hd : c ≤ d) : RR n pg rm d z y := RR_same V hc H hd (fun _ _ => rfl) rfl (fun _ _ => rfl) rfl H.1.2.1
theorem RR_I {n pg rm : Nat} {y : RZ} (e : y.1 = r_s0 (nI n) (nI pg) (nI rm)) (e2 : y.2 = fun _ _ => 0) : RR n pg rm 0 (zI pg rm) y := by
  obtain ⟨y1, y2⟩ := y
  simp only at e e2
  subst e
  subst e2
  have ng : ∀ j, ¬ gst (r_s0 (nI n) (nI pg) (nI rm)) j := fun j q => by
    rcases q with q | q | q
    · exact absurd (show (0 : Int32) = 1 from q) (by decide)
    · exact absurd (show (0 : Int32) = 2 from q) (by decide)
    · exact absurd (show (0 : Int32) = 3 from q) (by decide)
  refine ⟨⟨rfl, fun _ _ => rfl, rfl, rfl, rfl, fun _ _ => rfl, rfl, rfl⟩, fun j hj => ⟨⟨?_, ⟨nb_0, fun i hi => absurd hi (by show ¬ i < 0; omega)⟩, ⟨nb_0, fun i hi => absurd hi (by show ¬ i < 0; omega)⟩, ?_, fun q p hp => rfl⟩, rfl, rfl, rfl, rfl, rfl, ⟨fun q => absurd q (fun q => ng j (Or.inl q)), fun _ => ⟨rfl, rfl, rfl⟩, fun q => absurd (Or.inr q) (ng j), fun _ => ⟨rfl, rfl⟩⟩, fun q => absurd (Or.inr q) (ng j), ⟨fun q => absurd q (ng j), fun _ => rfl⟩⟩, Or.inl ⟨fun l hl q => q.1 rfl, rfl, rfl, rfl, rfl⟩, ⟨rfl, fun i hi => absurd hi (by show ¬ i < 0; omega)⟩, EX_I, ⟨fun _ => 0, 0, fun h hh q => absurd q (ng h), Nat.le_of_eq rfl, Nat.le_of_eq rfl⟩, ⟨fun j hj q => absurd (show (0 : Int32) = 1 from q) (by decide), fun o h1 h2 => absurd h2 (by show ¬ o < 0; omega)⟩⟩
  · intro f i hf hi h15
    rcases wf_l hf with e | e | e | e | e | e | e | e | e | e | e | e | e | e | e | e | e | e <;> subst e <;> rfl
  · have k : (0 : Int32) &&& -4 = 0 := by decide
    exact ⟨k, k, k⟩
theorem putl_e {u s : (Nat → Nat → Int32)} {A L : Nat} {v : Int64} (h : ∀ i, i < L → u 6 i = s 6 i) : ∀ k i, i < L → m_putl u A v k 6 i = m_putl s A v k 6 i
  | 0, i, hi => h i hi
  | k + 1, i, hi => by
    unfold m_putl
    by_cases q : i = A + k
    · rw [q, u2_ss, u2_ss]
    · rw [u2_sn q, u2_sn q]; exact putl_e h k i hi
theorem RR_put {n pg rm c : Nat} {a : Int32} {v : Int64} {z z' : CZ} {y y' : RZ} {r r' : Int32} (V : CV n pg rm c y.1 y.2) (hc : c ≤ 4000) (H : RR n pg rm c z y) (o : oPut pg a v z z' r) (p : pPut pg a v y y' r') : RR n pg rm (c + 1) z' y' ∧ r = r' := by
  have hp : pg ≤ 16 := V.g.1.2.2.2.2.2.2.2.2.1
  have er := R0_put hp o p
  refine ⟨?_, er⟩
  rcases o with ⟨q, e, er1⟩ | ⟨A, h1, h2, e, er1⟩ <;> rcases p with ⟨q', e', er2⟩ | ⟨A', h1', h2', e', er2⟩
  · rw [e, e']; exact RR_up V hc H (by omega)
  · rw [er1, er2] at er; exact absurd er (by decide)
  · rw [er1, er2] at er; exact absurd er (by decide)
  · have eA : A = A' := nIv_inj (h2.symm.trans h2') (by omega) (by omega)
    subst eA
    rw [e, e']
    exact RR_same V hc H (by omega) (fun f hf => m_putl_ne hf 8) rfl (fun f hf => m_putl_ne hf 8) rfl (fun i hi => putl_e H.1.2.1 8 i hi)
theorem bootl_lo {σ : (Nat → Nat → Int32)} {x : Nat} : ∀ k, x < k → m_bootl σ k 15 x = (σ 6 x).toInt8.toInt32
  | 0, h => absurd h (by omega)
  | k + 1, h => by
    unfold m_bootl
    by_cases q : x = k
    · rw [q, u2_ss]
    · rw [u2_sn q, bootl_lo k (by omega)]
theorem RR_boot {n pg rm c : Nat} {z z' : CZ} {y y' : RZ} {r r' : Int32} (hn2 : 2 ≤ n) (S : SC n pg rm c z.1) (V : CV n pg rm c y.1 y.2) (hc : c ≤ 4000) (H : RR n pg rm c z y) (o : oBoot pg z z' r) (p : pBoot y y' r') : RR n pg rm (c + 1) z' y' ∧ r = r' := by
  have h5 := H.1.1
  rcases o with ⟨q, e, er⟩ | ⟨q, e, er⟩ <;> rcases p with ⟨q', e', er'⟩ | ⟨q', e', er'⟩
  · rw [e, e', er, er']; exact ⟨RR_up V hc H (by omega), rfl⟩
  · exact absurd (h5.trans q') q
  · exact absurd (h5.symm.trans q) q'
  · refine ⟨?_, er.trans er'.symm⟩
    rw [e, e']
    have hn4 := V.g.1.2.2.2.2.2.2.1
    have hp16 : pg ≤ 16 := V.g.1.2.2.2.2.2.2.2.2.1
    obtain ⟨l00, inv0⟩ := id V
    obtain ⟨g60, gh⟩ := inv0.1.2.2.2.2.2.2 q'
    have g61 : y.1 61 0 = -1 := by
      obtain ⟨l0, inv⟩ := id V
      rcases inv.2.2.2 with w | ⟨t, l, ht, -⟩
      · exact w.2
      · exact absurd (ht.1.symm.trans g60) (nI_m1 (by have := ht.2.2.1; omega))
    obtain ⟨hg, hh, hp, hd', hx, ht, hm⟩ := H
    have ey : ∀ f, f ≠ 5 → f ≠ 7 → f ≠ 15 → m_boot y.1 f = y.1 f := fun f h1 h2 h3 => by unfold m_boot; rw [u2_ne h2, m_bootl_ne h3, u2_ne h1]
    have ez : ∀ f, f ≠ 5 → f ≠ 7 → f ≠ 15 → k_bootS z.1 pg f = z.1 f := fun f h1 h2 h3 => by unfold k_bootS; rw [k_cp_ne h3, u2_ne h2, u2_ne h1]
    have y7 : ∀ h, m_boot y.1 7 h = if h = 0 then 1 else y.1 7 h := fun h => by
      unfold m_boot
      rw [u2_i]
      by_cases x : h = 0
      · rw [if_pos x, if_pos x]
      · rw [if_neg x, if_neg x, m_bootl_ne (by decide), u2_ne (by decide)]
    have z7 : ∀ h, k_bootS z.1 pg 7 h = if h = 0 then 1 else z.1 7 h := fun h => by
      unfold k_bootS
      rw [k_cp_ne (by decide), u2_i]
      by_cases x : h = 0
      · rw [if_pos x, if_pos x]
      · rw [if_neg x, if_neg x, u2_ne (by decide)]
    have y15 : ∀ x, 4096 ≤ x → m_boot y.1 15 x = y.1 15 x := fun x hx => by
      unfold m_boot; rw [u2_ne (by decide), bootl_hi 4096 hx, u2_ne (by decide)]
    have z15 : ∀ x, 4096 ≤ x → k_bootS z.1 pg 15 x = z.1 15 x := fun x hx => by
      unfold k_bootS; rw [k_cp_out (by omega), u2_ne (by decide), u2_ne (by decide)]
    have y5 : m_boot y.1 5 0 = 1 := by unfold m_boot; rw [u2_ne (by decide), m_bootl_ne (by decide), u2_ss]
    have z5 : k_bootS z.1 pg 5 0 = 1 := by unfold k_bootS; rw [k_cp_ne (by decide), u2_ne (by decide), u2_ss]
    have y15l : ∀ i, i < 4096 → m_boot y.1 15 i = (y.1 6 i).toInt8.toInt32 := fun i hi => by unfold m_boot; rw [u2_ne (by decide), bootl_lo 4096 hi, u2_ne (by decide)]
    have z15l : ∀ i, i < 256 * pg → k_bootS z.1 pg 15 i = z.1 6 i := fun i hi => by
      unfold k_bootS
      have := k_cp_in (σ := u2 (u2 z.1 5 0 1) 7 0 1) (A := 6) (a := 4096 * 0 + 0) (B := 15) (b := 4096 * 0 + 0) hi
      rw [show 4096 * 0 + 0 + i = i by omega] at this
      rw [this, u2_ne (by decide), u2_ne (by decide)]
    have hxn := EX_boot hn2 hx V q'
    generalize m_boot y.1 = s' at *
    generalize k_bootS z.1 pg = U at *
    have ag : AgE y.1 (s') y.2 y.2 := AgE_ne (fun f h1 h2 => ey f (by omega) (by omega) (by omega)) rfl
    refine ⟨?_, fun j hj => ?_, ?_, ?_, hxn, ?_, CM_nf hm (fun f hf => ey f (by omega) (by omega) (by omega))⟩
    · obtain ⟨g1, g2, g3, g4, g5, g6, g7, g8⟩ := hg
      refine ⟨?_, fun i hi => ?_, ?_, ?_, ?_, fun i hi => ?_, ?_, ?_⟩
      · show U 5 0 = s' 5 0
        rw [y5, z5]
      · show U 6 i = s' 6 i
        rw [ez 6 (by decide) (by decide) (by decide), ey 6 (by decide) (by decide) (by decide)]; exact g2 i hi
      · show U 13 0 = s' 13 0
        rw [ez 13 (by decide) (by decide) (by decide), ey 13 (by decide) (by decide) (by decide)]; exact g3
      · show U 14 0 = s' 14 0
        rw [ez 14 (by decide) (by decide) (by decide), ey 14 (by decide) (by decide) (by decide)]; exact g4
      · show U 62 0 = s' 62 0
        rw [ez 62 (by decide) (by decide) (by decide), ey 62 (by decide) (by decide) (by decide)]; exact g5
      · show U 64 i = s' 64 i
        rw [ez 64 (by decide) (by decide) (by decide), ey 64 (by decide) (by decide) (by decide)]; exact g6 i hi
      · show U 2 0 = _
        rw [ez 2 (by decide) (by decide) (by decide)]; exact g7
      · show U 3 0 = _
        rw [ez 3 (by decide) (by decide) (by decide)]; exact g8
    · by_cases x : j = 0
      · subst x
        obtain ⟨⟨hE, hK, hP, hA, hDD⟩, h37, h19, h7, h10, h111, f1, f2, f3⟩ := hh 0 hj
        have n1 : ¬ y.1 7 0 = 1 := fun w => by rcases (gh 0 (by decide)).1 with t | t <;> rw [t] at w <;> exact absurd w (by decide)
        have ng : ¬ gst y.1 0 := fun w => by
          rcases (gh 0 (by decide)).1 with t | t <;> rcases w with w | w | w <;> rw [t] at w <;> exact absurd w (by decide)
        have y12 : y.1 12 0 = 0 := hx.2.2.2.2.2.2.2.2.2 q' 0 (by decide)
        have y70 : s' 7 0 = 1 := by rw [y7, if_pos rfl]
        have z70 : U 7 0 = 1 := by rw [z7, if_pos rfl]
        have ez1 : ∀ f, f ≠ 5 ∧ f ≠ 7 ∧ f ≠ 15 → U f = z.1 f := fun f h => ez f h.1 h.2.1 h.2.2
        have ey1 : ∀ f, f ≠ 5 ∧ f ≠ 7 ∧ f ≠ 15 → s' f = y.1 f := fun f h => ey f h.1 h.2.1 h.2.2
        refine ⟨⟨fun f i hf hi hi15 => ?_, ?_, ?_, ?_, fun w => ?_⟩, ?_, h19, ?_, ?_, ?_, ⟨fun _ => ?_, fun w => absurd y70 w, fun w => ?_, fun w => absurd (Or.inl y70) w⟩, fun w => ?_, ⟨fun _ => ?_, fun w => absurd (Or.inl y70) w⟩⟩
        · by_cases x15 : f = 15
          · subst x15
            have hi2 := hi15 rfl
            show U 15 (4096 * 0 + i) = s' 15 (4096 * 0 + i)
            have c1 : U 15 (4096 * 0 + i) = z.1 6 i := by rw [show 4096 * 0 + i = i by omega]; exact z15l i hi2
            have c2 : s' 15 (4096 * 0 + i) = (y.1 6 i).toInt8.toInt32 := by rw [show 4096 * 0 + i = i by omega]; exact y15l i (by omega)
            rw [c1, c2, ← hg.2.1 i hi2]
            exact (S.1.1 6 i rfl).symm
          · obtain ⟨w1, w2, w3⟩ := wf_r hf
            show U f _ = s' f _
            rw [ez f (by omega) (by omega) x15, ey f (by omega) (by omega) x15]
            exact hE f i hf hi hi15
        · show w_K 0 (s') (U)
          unfold w_K at hK ⊢
          rw [ez1 101 (by decide), ez1 100 (by decide), ey1 33 (by decide), ey1 32 (by decide)]; exact hK
        · show w_P 0 (s') (U)
          unfold w_P at hP ⊢
          rw [ez1 104 (by decide), ez1 102 (by decide), ez1 103 (by decide), ey1 35 (by decide), ey1 34 (by decide), ey1 36 (by decide)]; exact hP
        · show w_A 0 (s')
          unfold w_A at hA ⊢
          rw [ey1 17 (by decide), ey1 18 (by decide)]; exact hA
        · have w' : nI 0 = s' 61 0 := w
          rw [ey1 61 (by decide), g61] at w'
          exact absurd w' (nI_m1 (by decide))
        · show U 37 0 = s' 37 0
          rw [ez1 37 (by decide), ey1 37 (by decide)]; exact h37
        · show U 7 0 = s' 7 0
          rw [y70, z70]
        · show U 10 0 = s' 10 0
          rw [ez1 10 (by decide), ey1 10 (by decide)]; exact h10
        · show U 111 0 = _
          rw [ez1 111 (by decide)]; exact h111
        · obtain ⟨a1, a2, a3⟩ := f1.2.1 n1
          obtain ⟨b1, b2⟩ := f1.2.2.2 ng
          show U 115 0 = s' 11 0 ∧ U 116 0 = s' 12 0 ∧ U 121 0 = 0 ∧ (s' 11 0 = 0 → U 114 0 = 0 ∧ U 113 0 = 0) ∧ (¬ s' 11 0 = 0 → U 113 0 = s' 9 0 ∧ U 114 0 = s' 55 0)
          rw [ez1 115 (by decide), ez1 116 (by decide), ez1 121 (by decide), ez1 114 (by decide), ez1 113 (by decide), ey1 11 (by decide), ey1 12 (by decide), a2, a3, b2, a1, b1, y12, (gh 0 (by decide)).2.1]
          exact ⟨rfl, rfl, rfl, fun _ => ⟨rfl, rfl⟩, fun w => absurd rfl w⟩
        · exact absurd (show s' 7 0 = 2 ∨ s' 7 0 = 3 from w) (by rw [y70]; decide)
        · exact absurd (show s' 7 0 = 2 ∨ s' 7 0 = 3 from w) (by rw [y70]; decide)
        · show U 38 0 = s' 38 0 ∧ ∀ i, i < cl (s' 38 0) → KE (s') (U) 0 i
          rw [ez1 38 (by decide), ey1 38 (by decide), f3.2 ng, (gh 0 (by decide)).2.2]
          exact ⟨rfl, fun i hi => absurd hi (by show ¬ i < 0; omega)⟩
      · refine RH_frV V (by omega) (by omega) (hh j hj) ⟨fun f i hf hi => ?_, rfl, fun _ => rfl, fun _ _ _ _ => rfl⟩ ⟨⟨fun f i hf hi => ?_, rfl⟩, fun x _ => ?_⟩ ag (fun w => ⟨?_, fun p _ => ?_⟩)
        · show U f _ = z.1 f _
          by_cases x7 : f = 7
          · subst x7; rw [z7, if_neg (by show ¬ 1 * j + i = 0; omega)]
          by_cases x15 : f = 15
          · subst x15; rw [z15 _ (by show 4096 ≤ 4096 * j + i; omega)]
          rw [ez f (by rintro rfl; exact absurd hf (by decide)) x7 x15]
        · show s' f _ = y.1 f _
          by_cases x7 : f = 7
          · subst x7; rw [y7, if_neg (by show ¬ 1 * j + i = 0; omega)]
          by_cases x15 : f = 15
          · subst x15; rw [y15 _ (by show 4096 ≤ 4096 * j + i; omega)]
          rw [ey f (by rintro rfl; exact absurd hf (by decide)) x7 x15]
        · show s' 43 _ = y.1 43 _
          rw [ey 43 (by decide) (by decide) (by decide)]
        · have w' : nI j = s' 61 0 := w
          rw [ey 61 (by decide) (by decide) (by decide)] at w'; exact w'
        · show s' 63 p = _
          rw [ey 63 (by decide) (by decide) (by decide)]
    · exact RP_fr hp (fun f hf => ez f (by omega) (by omega) (by omega)) (fun i => ⟨rfl, rfl⟩) (fun _ _ _ _ => rfl) (fun _ _ _ _ => rfl) (fun f hf => ey f (by omega) (by omega) (by omega)) ag
    · exact RD_fr hd' (fun f h1 h2 => ez f (by omega) (by omega) (by omega)) (fun f h1 h2 => ey f (by omega) (by omega) (by omega))
    · show TK pg (c + 1) s'
      obtain ⟨t, P, t1, t2, t3⟩ := ht
      have e5 : ¬ s' 5 0 = 0 := by rw [y5]; decide
      have ey1 : ∀ f, f ≠ 5 ∧ f ≠ 7 ∧ f ≠ 15 → s' f = y.1 f := fun f h => ey f h.1 h.2.1 h.2.2
      refine ⟨fun h => if h = 0 then t 0 + 1 else t h, P, fun h hh2 g w => ?_, ?_, ?_⟩
      · by_cases x : h = 0
        · show 1 ≤ if h = 0 then t 0 + 1 else t h
          rw [if_pos x]; omega
        · show 1 ≤ if h = 0 then t 0 + 1 else t h
          rw [if_neg x]
          refine t1 h hh2 ?_ ?_
          · have g' : s' 7 h = 1 ∨ s' 7 h = 2 ∨ s' 7 h = 3 := g
            rw [y7, if_neg x] at g'; exact g'
          · unfold NW at w ⊢
            rw [ey1 65 (by decide), ey1 66 (by decide), ey1 67 (by decide), ey1 68 (by decide), ey1 10 (by decide)] at w; exact w
      · rw [if_neg e5, ey1 65 (by decide), ey1 66 (by decide)]
        rw [if_pos q'] at t2
        show _ + ((if (0 : Nat) = 0 then t 0 + 1 else t 0) + (if (1 : Nat) = 0 then t 0 + 1 else t 1) + (if (2 : Nat) = 0 then t 0 + 1 else t 2) + (if (3 : Nat) = 0 then t 0 + 1 else t 3)) ≤ _
        rw [if_pos rfl, if_neg (by decide), if_neg (by decide), if_neg (by decide)]
        omega
      · rw [ey1 60 (by decide), pgc_e (s := y.1) pg (fun i _ => by rw [ey1 63 (by decide)])]; omega
