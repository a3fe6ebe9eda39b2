theorem comes_lo {σ : (Nat → Nat → Int32)} {j kd n F : Nat} (h : F < 15) : m_comes σ j kd n F = σ F := by
  unfold m_comes
  split
  · split
    · rfl
    · unfold m_comesB
      rw [m_event_ne (by omega) (by omega) (by omega) (by omega) (by omega) (by omega) (by omega) (by omega) (by omega), m_sends_ne (by omega) (by omega) (by omega) (by omega), m_entry_ne (by omega) (by omega) (by omega) (by omega) (by omega) (by omega)]
  · unfold m_comesU
    rw [u2_ne (by omega), u2_ne (by omega), m_event_ne (by omega) (by omega) (by omega) (by omega) (by omega) (by omega) (by omega) (by omega) (by omega), m_entry_ne (by omega) (by omega) (by omega) (by omega) (by omega) (by omega)]
theorem lall_lo {σ : (Nat → Nat → Int32)} {j k F : Nat} (h : F < 38) : m_lall σ j k F = σ F := m_lall_ne (by omega) (by omega) (by omega) (by omega) (by omega) (by omega) (by omega) (by omega) (by omega) (by omega) (by omega) (by omega) (by omega) (by omega) k σ
theorem D7.lo {s σ : (Nat → Nat → Int32)} (e : ∀ F, F < 8 → σ F = s F) : D7 s σ := D7.nf (e 5 (by omega)) (e 7 (by omega))
theorem pPut_D {pg : Nat} {a : Int32} {v : Int64} {y y' : RZ} {r : Int32} (o : pPut pg a v y y' r) : D7 y.1 y'.1 := by
  rcases o with ⟨-, e, -⟩ | ⟨A, -, -, e, -⟩
  · rw [e]; exact D7.rf
  · rw [e]
    show D7 y.1 (m_putl y.1 A v 8)
    exact D7.nf (m_putl_ne (by decide) 8) (m_putl_ne (by decide) 8)
theorem pRun_D {n : Nat} {i s : Int32} {y y' : RZ} {r : Int32} (o : pRun n i s y y' r) : D7 y.1 y'.1 := by
  rcases o with ⟨-, e, -⟩ | ⟨j, N, -, -, -, -, ⟨-, e, -⟩ | ⟨-, -, -, -, d⟩⟩
  · rw [e]; exact D7.rf
  · rw [e]; exact D7.rf
  · exact d
theorem pTick_D {n : Nat} {y y' : RZ} {r : Int32} (o : pTick n y y' r) : D7 y.1 y'.1 := by
  rcases o with ⟨-, e, -⟩ | ⟨j, -, -, -, e, -⟩
  · rw [e]; exact D7.rf
  · rw [e]; exact D7.lo (fun F h => comes_lo (by omega))
theorem pKey_D {n : Nat} {b : Int32} {y y' : RZ} {r : Int32} (o : pKey n b y y' r) : D7 y.1 y'.1 := by
  rcases o with ⟨-, e, -⟩ | ⟨j, -, -, -, ⟨-, e, -⟩ | ⟨-, e, -⟩⟩
  · rw [e]; exact D7.rf
  · rw [e]; exact D7.rf
  · rw [e]; exact D7.lo (fun F h => by dsimp only; rw [comes_lo (by omega)]; unfold m_data1; rw [u2_ne (by omega)])
theorem pPkt_D {n : Nat} {w : Int32} {a b c e : Int64} {y y' : RZ} {r : Int32} (o : pPkt n w a b c e y y' r) : D7 y.1 y'.1 := by
  rcases o with ⟨-, e, -⟩ | ⟨j, N, -, -, -, -, -, -, ⟨-, e, -⟩ | ⟨-, e, -⟩⟩
  · rw [e]; exact D7.rf
  · rw [e]; exact D7.rf
  · rw [e]; exact D7.lo (fun F h => by dsimp only; rw [comes_lo (by omega), m_pkl_ne (by omega)])
theorem pDisk_D {y y' : RZ} {r : Int32} (o : pDisk y y' r) : D7 y.1 y'.1 := by
  rcases o with ⟨-, e, -⟩ | ⟨-, j, B, -, -, -, -, ⟨-, -, -, e, -⟩ | ⟨-, e, -⟩ | ⟨-, -, e, -⟩⟩
  · rw [e]; exact D7.rf
  · rw [e]; exact D7.rf
  · rw [e]; exact D7.lo (fun F h => m_dk1_ne (by omega) (by omega))
  · rw [e]; exact D7.lo (fun F h => by dsimp only; rw [comes_lo (by omega)]; unfold m_dk2; rw [m_dkd_ne (by omega), m_dk1_ne (by omega) (by omega)])
theorem pDlv_D {n : Nat} {y y' : RZ} {r : Int32} (o : pDlv n y y' r) : D7 y.1 y'.1 := by
  rcases o with ⟨-, e, -⟩ | ⟨b, l, -, -, -, -, e, -⟩
  · rw [e]; exact D7.rf
  · rw [e]; exact D7.lo (fun F h => by show m_dlv y.1 b l F = _; unfold m_dlv; rw [u2_ne (by omega), m_sh_ne (by omega), u2_ne (by omega), u2_ne (by omega), u2_ne (by omega)])
theorem pAck_D {n : Nat} {y y' : RZ} {r : Int32} (o : pAck n y y' r) : D7 y.1 y'.1 := by
  rcases o with ⟨-, e, -⟩ | ⟨j, -, -, -, e, -⟩
  · rw [e]; exact D7.rf
  · rw [e]; exact D7.lo (fun F h => by
      show m_ack y.1 j F = _
      unfold m_ack
      split
      · rw [leave_nf (by omega), m_ack0_ne (by omega) (by omega) (by omega)]
      · rw [m_ack0_ne (by omega) (by omega) (by omega)])
theorem u2_7 {s : (Nat → Nat → Int32)} {σ : (Nat → Nat → Int32)} {j : Nat} {v : Int32} (e : σ 7 = s 7) : u2 σ 7 j v 7 = u2 s 7 j v 7 := by
  funext t
  by_cases q : t = j
  · rw [q, u2_ss, u2_ss]
  · rw [u2_sn q, u2_sn q, e]
theorem spB_D {σ σ1 : (Nat → Nat → Int32)} {j : Nat} (e : ∀ F, F < 8 → σ1 F = σ F) (h7 : σ 7 j = 2) : D7 σ (m_spB σ σ1 j) := by
  unfold m_spB
  split
  · refine D7.u (j := j) (v := 1) ?_ ?_ (by decide) (by rw [h7]; decide)
    · rw [goL_e (by decide)]; unfold m_go0; rw [u2_ne (by decide), u2_ne (by decide), u2_ne (by decide), u2_ne (by decide), u2_ne (by decide), e 5 (by omega)]
    · rw [goL_e (by decide)]; unfold m_go0; rw [u2_ne (by decide), u2_ne (by decide), u2_ne (by decide)]
      funext t
      by_cases q : t = j
      · rw [q, u2_ss, u2_ss]
      · rw [u2_sn q, u2_sn q, u2_sn q, e 7 (by omega)]
  · exact D7.u (j := j) (v := 3) (by rw [u2_ne (by decide), e 5 (by omega)]) (u2_7 (e 7 (by omega))) (by decide) (by rw [h7]; decide)
theorem noCh_lo {σ : (Nat → Nat → Int32)} {j F : Nat} (h : F < 15) : m_noCh σ j F = σ F := noCh_ne (by omega) (by omega) (by omega)
theorem pSus_D {n : Nat} {i : Int32} {y y' : RZ} {r : Int32} (o : pSus n i y y' r) : D7 y.1 y'.1 := by
  rcases o with ⟨-, e, -⟩ | ⟨j, -, -, -, ⟨q, -, e⟩ | ⟨-, -, e⟩ | ⟨-, q, -, -, e⟩ | ⟨l, -, q, -, -, -, e⟩⟩
  · rw [e]; exact D7.rf
  · rw [e]
    refine D7.u (j := j) (v := 5) ?_ ?_ (by decide) ?_
    · show m_halt y.1 j 5 = _; unfold m_halt; rw [u2_ne (by decide), u2_ne (by decide)]
    · show m_halt y.1 j 7 = _; unfold m_halt; rw [u2_ne (by decide)]
    · rcases q with q | q
      · have := (of_decide_eq_true q).1; rw [this]; decide
      · rw [q]; decide
  · rw [e]
    exact D7.lo (fun F h => by show m_spL y.1 j F = _; unfold m_spL; rw [lall_lo (by omega), noCh_lo (by omega), u2_ne (by omega), u2_ne (by omega), u2_ne (by omega)])
  · rw [e]; exact spB_D (fun F h => u2_ne (by omega)) q
  · rw [e]; exact spB_D (fun F h => by unfold m_sp1; rw [u2_ne (by omega), noCh_lo (by omega), u2_ne (by omega)]) q
theorem pPro_D {n pg : Nat} {i : Int32} {y y' : RZ} {r : Int32} (o : pPro n pg i y y' r) : D7 y.1 y'.1 := by
  rcases o with ⟨-, e, -⟩ | ⟨j, l, -, -, q, e, -⟩
  · rw [e]; exact D7.rf
  · rw [e]
    refine D7.u (j := j) (v := 4) ?_ ?_ (by decide) (by rw [q.1]; decide)
    · show m_prot y.1 j l pg 5 = _; unfold m_prot; rw [m_prl_ne (by decide), u2_ne (by decide), u2_ne (by decide), u2_ne (by decide), u2_ne (by decide)]
    · show m_prot y.1 j l pg 7 = _; unfold m_prot; rw [m_prl_ne (by decide), u2_ne (by decide), u2_ne (by decide), u2_ne (by decide)]
theorem pr2_5 {σ : (Nat → Nat → Int32)} {r : Nat} : m_pr2 σ r 5 = σ 5 := by
  unfold m_pr2; rw [u2_ne (by decide), u2_ne (by decide), u2_ne (by decide), u2_ne (by decide), u2_ne (by decide), u2_ne (by decide), u2_ne (by decide)]
theorem pr2_7 {σ : (Nat → Nat → Int32)} {r : Nat} : m_pr2 σ r 7 = u2 σ 7 r 2 7 := by
  unfold m_pr2; rw [u2_ne (by decide), u2_ne (by decide), u2_ne (by decide), u2_ne (by decide), u2_ne (by decide), u2_ne (by decide)]
theorem pTra_D {n pg rm c : Nat} {y y' : RZ} {r : Int32} (cv : CV n pg rm c y.1 y.2) (o : pTra n pg y y' r) : D7 y.1 y'.1 := by
  rcases o with ⟨-, e, -⟩ | ⟨t, l, p, -, -, -, -, e, -⟩ | ⟨t, l, q, -, e, -⟩
  · rw [e]; exact D7.rf
  · rw [e]; exact D7.lo (fun F h => by show m_tr1 y.1 t l p F = _; unfold m_tr1; rw [m_trl_ne (by omega), u2_ne (by omega), u2_ne (by omega)])
  · have e1 : y'.1 = m_pair y.1 t l := by rw [e]
    rw [e1]
    obtain ⟨_, inv⟩ := cv
    have h4 := (TrAt_R inv q).1
    have k : ∀ F, F < 8 → m_noCh (m_pr1 (m_copy y.1 l t) t l (m_mx y.1)) l F = y.1 F := fun F h => by
      rw [noCh_lo (by omega)]; unfold m_pr1
      rw [u2_ne (by omega), u2_ne (by omega), u2_ne (by omega), u2_ne (by omega), u2_ne (by omega), u2_ne (by omega), u2_ne (by omega), m_copy_ne (by omega)]
    refine D7.u (j := t) (v := 2) ?_ ?_ (by decide) (by rw [h4]; decide)
    · unfold m_pair; rw [pr2_5, k 5 (by omega)]
    · unfold m_pair; rw [pr2_7]; exact u2_7 (k 7 (by omega))
theorem pHos_D {n pg : Nat} {i s : Int32} {y y' : RZ} {r : Int64} (o : pHos n pg i s y y' r) : D7 y.1 y'.1 := by rw [o.1]; exact D7.rf
theorem pMem_D {n pg : Nat} {i a : Int32} {y y' : RZ} {r : Int32} (o : pMem n pg i a y y' r) : D7 y.1 y'.1 := by rw [o.1]; exact D7.rf
theorem pBlk_D {b k : Int32} {y y' : RZ} {r : Int32} (o : pBlk b k y y' r) : D7 y.1 y'.1 := by rw [o.1]; exact D7.rf
def R0 (n : Nat) (z : CZ) (y : RZ) : Prop := z.1 5 0 = y.1 5 0 ∧ ∀ t, t < n → (z.1 7 t = 6 ↔ y.1 7 t = 6)
theorem R0.go {n : Nat} {z z' : CZ} {y y' : RZ} (H : R0 n z y) (a : D7 z.1 z'.1) (b : D7 y.1 y'.1) : R0 n z' y' := ⟨a.1.trans (H.1.trans b.1.symm), fun t ht => (a.2 t).trans ((H.2 t ht).trans (b.2 t).symm)⟩
theorem put_in {pg A : Nat} {a : Int32} (hp : pg ≤ 16) (h : A + 8 ≤ 256 * pg) (e : a = nI A) : 0 ≤ a ∧ a ≤ nI (256 * pg) - 8 := by
  subst e
  refine ⟨Int32.not_lt.mp (nI_pos (by omega)), ?_⟩
  have e : nI (256 * pg) - 8 = nI (256 * pg - 8) := by
    have := nIv_add (256 * pg - 8) 8
    rw [show 256 * pg - 8 + 8 = 256 * pg by omega] at this
    rw [← this]
    show nI (256 * pg - 8) + 8 - 8 = _
    rw [Int32.add_sub_cancel]
  rw [e]
  exact (nIv_le (by omega) (by omega)).mpr (by omega)
theorem R0_put {pg : Nat} {a : Int32} {v : Int64} {z z' : CZ} {y y' : RZ} {r r' : Int32} (hp : pg ≤ 16) (o : oPut pg a v z z' r) (p : pPut pg a v y y' r') : r = r' := by
  rcases o with ⟨q, -, e⟩ | ⟨A, h1, h2, -, e⟩ <;> rcases p with ⟨q', -, e'⟩ | ⟨A', h1', h2', -, e'⟩
  · rw [e, e']
  · exact absurd (put_in hp h1' h2') q
  · exact absurd (put_in hp h1 h2) q'
  · rw [e, e']
theorem R0_boot {n pg : Nat} {z z' : CZ} {y y' : RZ} {r r' : Int32} (H : R0 n z y) (o : oBoot pg z z' r) (p : pBoot y y' r') : R0 n z' y' ∧ r = r' := by
  rcases o with ⟨q, e, er⟩ | ⟨q, e, er⟩ <;> rcases p with ⟨q', e', er'⟩ | ⟨q', e', er'⟩
  · rw [e, e', er, er']; exact ⟨H, rfl⟩
  · exact absurd (H.1.trans q') q
  · exact absurd (H.1.symm.trans q) q'
  · have e1 : z'.1 = k_bootS z.1 pg := by rw [e]
    have e2 : y'.1 = m_boot y.1 := by rw [e']
    refine ⟨⟨?_, fun t ht => ?_⟩, er.trans er'.symm⟩
    · rw [e1, e2]
      unfold k_bootS m_boot
      rw [k_cp_ne (by decide), u2_ne (by decide), u2_ss, u2_ne (by decide), m_bootl_ne (by decide), u2_ss]
    · rw [e1, e2]
      unfold k_bootS m_boot
      rw [k_cp_ne (by decide)]
      by_cases x : t = 0
      · rw [x, u2_ss, u2_ss]
      · rw [u2_sn x, u2_sn x, u2_ne (by decide), m_bootl_ne (by decide), u2_ne (by decide)]; exact H.2 t ht
theorem R0_crash {n pg rm c : Nat} {i : Int32} {z z' : CZ} {y y' : RZ} {r r' : Int32} (hn : n ≤ 4) (cv : CV n pg rm c y.1 y.2) (H : R0 n z y) (o : oCra n i z z' r) (p : pCra n i y y' r') : R0 n z' y' ∧ r = r' := by
  have inj : ∀ a b, a < n → b < n → i = nI a → i = nI b → a = b := fun a b ha hb ea eb => nIv_inj (ea.symm.trans eb) (by omega) (by omega)
  have C : ∀ j, j < n → i = nI j → ¬ z.1 7 j = 6 → (z'.1 5 0 = z.1 5 0 ∧ ∀ t, t < n → (z'.1 7 t = 6 ↔ (t = j ∨ z.1 7 t = 6))) ∧ r = 1 := fun j hj e h6 => by
    rcases o with ⟨-, -, q⟩ | ⟨er, j', hj', e', -, -, ez⟩ | ⟨er, j', t, hj', ht, e', -, q4, -, ez⟩
    · exact absurd ⟨j, hj, e, h6⟩ q
    · have := inj j' j hj' hj e' e
      subst this
      refine ⟨?_, er⟩
      have e1 : z'.1 = k_stop z.1 j' (cl (z.1 112 j')) (cl (z.1 38 j')) 6 := by rw [ez]
      rw [e1]
      refine ⟨by rw [stop_7.1], fun x hx => ?_⟩
      rw [stop_7.2]
      by_cases q : x = j'
      · rw [q, u2_ss]; exact ⟨fun _ => Or.inl rfl, fun _ => rfl⟩
      · rw [u2_sn q]; exact ⟨Or.inr, fun w => w.resolve_left q⟩
    · have := inj j' j hj' hj e' e
      subst this
      refine ⟨?_, er⟩
      have e1 : z'.1 = k_stop (u2 z.1 7 t 0) j' (cl (z.1 112 j')) (cl (z.1 38 j')) 6 := by rw [ez]
      rw [e1]
      refine ⟨by rw [stop_7.1, u2_ne (by decide)], fun x hx => ?_⟩
      rw [stop_7.2]
      by_cases q : x = j'
      · rw [q, u2_ss]; exact ⟨fun _ => Or.inl rfl, fun _ => rfl⟩
      · rw [u2_sn q]
        by_cases q2 : x = t
        · rw [q2, u2_ss, q4]
          rw [q2] at q
          exact ⟨fun w => absurd w (by decide), fun w => absurd (w.resolve_left q) (by decide)⟩
        · rw [u2_sn q2]; exact ⟨Or.inr, fun w => w.resolve_left q⟩
  have cr1 : ∀ (σ : (Nat → Nat → Int32)) j, m_cr1 σ j 5 = σ 5 ∧ m_cr1 σ j 7 = u2 σ 7 j 6 7 := fun σ j => by
    unfold m_cr1
    exact ⟨by rw [u2_ne (by decide), u2_ne (by decide)], by rw [u2_ne (by decide)]⟩
  have E : ∀ j, j < n → i = nI j → ¬ y.1 7 j = 6 → (y'.1 5 0 = y.1 5 0 ∧ ∀ t, t < n → (y'.1 7 t = 6 ↔ (t = j ∨ y.1 7 t = 6))) ∧ r' = 1 := fun j hj e h6 => by
    rcases p with ⟨q, -, -⟩ | ⟨j', hj', e', -, er, ⟨-, ez⟩ | ⟨t, q4, ez⟩ | ⟨l, -, ez⟩⟩
    · exact absurd (q j hj e) h6
    · have := inj j' j hj' hj e' e
      subst this
      refine ⟨?_, er⟩
      have e1 : y'.1 = m_cr1 y.1 j' := by rw [ez]
      rw [e1]
      refine ⟨by rw [(cr1 _ _).1], fun x hx => ?_⟩
      rw [(cr1 _ _).2]
      by_cases q : x = j'
      · rw [q, u2_ss]; exact ⟨fun _ => Or.inl rfl, fun _ => rfl⟩
      · rw [u2_sn q]; exact ⟨Or.inr, fun w => w.resolve_left q⟩
    · have := inj j' j hj' hj e' e
      subst this
      obtain ⟨_, inv⟩ := cv
      have h4 := (TrAt_R inv q4).1
      refine ⟨?_, er⟩
      have e1 : y'.1 = m_cr1 (m_crS y.1 t) j' := by rw [ez]
      rw [e1]
      refine ⟨by rw [(cr1 _ _).1]; unfold m_crS; rw [u2_ne (by decide), u2_ne (by decide), u2_ne (by decide)], fun x hx => ?_⟩
      rw [(cr1 _ _).2]
      by_cases q : x = j'
      · rw [q, u2_ss]; exact ⟨fun _ => Or.inl rfl, fun _ => rfl⟩
      · rw [u2_sn q]
        unfold m_crS
        rw [u2_ne (by decide), u2_ne (by decide)]
        by_cases q2 : x = t
        · rw [q2, u2_ss, h4]
          rw [q2] at q
          exact ⟨fun w => absurd w (by decide), fun w => absurd (w.resolve_left q) (by decide)⟩
        · rw [u2_sn q2]; exact ⟨Or.inr, fun w => w.resolve_left q⟩
    · have := inj j' j hj' hj e' e
      subst this
      refine ⟨?_, er⟩
      have e1 : y'.1 = m_cr1 (m_crR y.1) j' := by rw [ez]
      rw [e1]
      refine ⟨by rw [(cr1 _ _).1]; unfold m_crR; rw [u2_ne (by decide), u2_ne (by decide)], fun x hx => ?_⟩
      rw [(cr1 _ _).2]
      by_cases q : x = j'
      · rw [q, u2_ss]; exact ⟨fun _ => Or.inl rfl, fun _ => rfl⟩
      · rw [u2_sn q]
        unfold m_crR
        rw [u2_ne (by decide), u2_ne (by decide)]; exact ⟨Or.inr, fun w => w.resolve_left q⟩
  by_cases ex : ∃ j, j < n ∧ i = nI j ∧ ¬ z.1 7 j = 6
  · obtain ⟨j, hj, e, h6⟩ := ex
    obtain ⟨⟨a1, a2⟩, a3⟩ := C j hj e h6
    obtain ⟨⟨b1, b2⟩, b3⟩ := E j hj e (fun q => h6 ((H.2 j hj).mpr q))
    refine ⟨⟨a1.trans (H.1.trans b1.symm), fun t ht => ?_⟩, a3.trans b3.symm⟩
    rw [a2 t ht, b2 t ht, H.2 t ht]
  · have hz : z' = z ∧ r = 0 := by
      rcases o with ⟨er, ez, -⟩ | ⟨-, j, hj, e, h6, -⟩ | ⟨-, j, t, hj, -, e, h1, -⟩
      · exact ⟨ez, er⟩
      · exact absurd ⟨j, hj, e, h6⟩ ex
      · exact absurd ⟨j, hj, e, by rw [h1]; decide⟩ ex
    have hy : y' = y ∧ r' = 0 := by
      rcases p with ⟨-, ey, er⟩ | ⟨j, hj, e, h6, -⟩
      · exact ⟨ey, er⟩
      · exact absurd ⟨j, hj, e, fun q => h6 ((H.2 j hj).mp q)⟩ ex
    rw [hz.1, hz.2, hy.1, hy.2]; exact ⟨H, rfl⟩
theorem R0_rep {n : Nat} {i : Int32} {z z' : CZ} {y y' : RZ} {r r' : Int32} (hn : n ≤ 4) (H : R0 n z y) (o : oRep n i z z' r) (p : pRep n i y y' r') : R0 n z' y' := by
  have inj : ∀ a b, a < n → b < n → i = nI a → i = nI b → a = b := fun a b ha hb ea eb => nIv_inj (ea.symm.trans eb) (by omega) (by omega)
  have C : z'.1 5 0 = z.1 5 0 ∧ ∀ t, t < n → (z'.1 7 t = 6 ↔ (z.1 7 t = 6 ∧ ¬ i = nI t)) := by
    rcases o with ⟨-, ez, q⟩ | ⟨-, j, hj, e, h6, ez⟩
    · rw [ez]; exact ⟨rfl, fun t ht => ⟨fun w => ⟨w, fun e => q ⟨t, ht, e, Or.inl w⟩⟩, fun w => w.1⟩⟩
    · have k : ∀ f, f = 5 ∨ f = 7 → z'.1 f = u2 z.1 7 j 0 f := fun f hf => by
        rw [ez]
        show (if z.1 122 0 = i then k_fgt (u2 z.1 7 j 0) else u2 z.1 7 j 0) f = _
        split
        · rw [fgt_ne (by omega)]
        · rfl
      refine ⟨by rw [k 5 (by omega), u2_ne (by decide)], fun t ht => ?_⟩
      rw [k 7 (by omega)]
      by_cases q : t = j
      · rw [q, u2_ss]; exact ⟨fun w => absurd w (by decide), fun w => absurd e w.2⟩
      · rw [u2_sn q]; exact ⟨fun w => ⟨w, fun e2 => q (inj t j ht hj e2 e)⟩, fun w => w.1⟩
  have E : y'.1 5 0 = y.1 5 0 ∧ ∀ t, t < n → (y'.1 7 t = 6 ↔ (y.1 7 t = 6 ∧ ¬ i = nI t)) := by
    rcases p with ⟨q, ez, -⟩ | ⟨j, hj, e, h6, ez, -⟩
    · rw [ez]; exact ⟨rfl, fun t ht => ⟨fun w => ⟨w, fun e => q t ht e (Or.inl w)⟩, fun w => w.1⟩⟩
    · have k : y'.1 5 = y.1 5 ∧ y'.1 7 = u2 y.1 7 j 0 7 := by
        rw [ez]
        show m_rep y.1 j 5 = _ ∧ m_rep y.1 j 7 = _
        unfold m_rep
        exact ⟨by rw [noCh_lo (by decide), u2_ne (by decide), u2_ne (by decide), u2_ne (by decide), u2_ne (by decide)], by rw [noCh_lo (by decide), u2_ne (by decide), u2_ne (by decide), u2_ne (by decide)]⟩
      refine ⟨by rw [k.1], fun t ht => ?_⟩
      rw [k.2]
      by_cases q : t = j
      · rw [q, u2_ss]; exact ⟨fun w => absurd w (by decide), fun w => absurd e w.2⟩
      · rw [u2_sn q]; exact ⟨fun w => ⟨w, fun e2 => q (inj t j ht hj e2 e)⟩, fun w => w.1⟩
  exact ⟨C.1.trans (H.1.trans E.1.symm), fun t ht => by rw [C.2 t ht, E.2 t ht, H.2 t ht]⟩
