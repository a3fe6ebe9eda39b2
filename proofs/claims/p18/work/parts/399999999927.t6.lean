theorem ad0_D {n pg j : Nat} {ε : Nat → ED} {ρ : Nat → Nat → Option Nat} {τ : (Nat → Nat → Int64)} {u : (Nat → Nat → Int32)} : D7 u (k_ad0 ε ρ τ pg j u) := by
  unfold k_ad0
  by_cases q : u 7 j = 2 ∨ u 7 j = 3
  · rw [if_pos q]
    have e : ∀ F, F < 15 → k_te ε ρ τ pg j (cl (u 121 j)) u F = u F := fun F h => te_ne (by omega) (by omega) _ _
    by_cases r : k_te ε ρ τ pg j (cl (u 121 j)) u 7 j = 3 ∧ k_te ε ρ τ pg j (cl (u 121 j)) u 121 j = 0
    · refine D7.u (j := j) (v := 1) (by rw [gi_ne (by decide), e 5 (by omega)]) ?_ (by decide) (by rcases q with q | q <;> rw [q] <;> decide)
      have e7 : k_gi (k_te ε ρ τ pg j (cl (u 121 j)) u) j 7 = k_go1 (k_te ε ρ τ pg j (cl (u 121 j)) u) j 7 := by
        unfold k_gi
        rw [if_pos r]; unfold k_go
        by_cases r2 : k_kop (k_go1 (k_te ε ρ τ pg j (cl (u 121 j)) u) j) j (cl (k_te ε ρ τ pg j (cl (u 121 j)) u 112 j)) (cl (k_te ε ρ τ pg j (cl (u 121 j)) u 38 j)) = false ∧ k_te ε ρ τ pg j (cl (u 121 j)) u 27 j = 1
        · rw [if_pos r2, k_dap_ne (by decide), k_la_ne (by decide) (by decide)]
        · rw [if_neg r2, k_la_ne (by decide) (by decide)]
      rw [e7]; unfold k_go1; rw [k_lvP_ne (by decide)]
      funext t
      by_cases q : t = j
      · rw [q, u2_ss, u2_ss]
      · rw [u2_sn q, u2_sn q, e 7 (by omega)]
    · rw [gi_n r]; exact D7.nf (e 5 (by omega)) (e 7 (by omega))
  · rw [if_neg q]; exact D7.rf
theorem ad3_D {ca : Nat → Nat → Nat} {n pg rm c j : Nat} {z : CZ} (hn : n ≤ 4) (hp : pg ≤ 16) (hj : j < n) (O : OKp ca n pg rm c z) : D7 z.1 (k_ad3 z.2.1 pg j (k_ad0 z.2.2.2 z.2.2.1 z.2.1 pg j z.1)) := by
  obtain ⟨S, hx, H⟩ := O
  obtain ⟨S2, H2⟩ := SQ_ad0 (τ := z.2.1) hn hp hj S H
  obtain ⟨-, -, F3, -⟩ := SQ_ad3 (τ := z.2.1) hn hp hj S2 H2
  exact (ad0_D (n := n)).tr (D7.nf (wF_ne F3 (by decide)) (wF_ne F3 (by decide)))
theorem StZ_D {ca : Nat → Nat → Nat} {n pg rm c j : Nat} {z z' : CZ} (hn : n ≤ 4) (hp : pg ≤ 16) (hj : j < n) (O : OKp ca n pg rm c z) (st : StZ n pg rm j z z') : D7 z.1 z'.1 := by
  have D := ad3_D hn hp hj O
  have e4 : ∀ f, f ≠ 37 → k_ad4 z.2.1 pg j (k_ad0 z.2.2.2 z.2.2.1 z.2.1 pg j z.1) f = k_ad3 z.2.1 pg j (k_ad0 z.2.2.2 z.2.2.1 z.2.1 pg j z.1) f := fun f hf => by unfold k_ad4; rw [u2_ne hf]
  obtain ⟨-, ⟨-, e⟩ | ⟨-, -, e⟩ | ⟨-, -, -, a, -, e⟩⟩ := st
  · rw [e]; exact D
  · rw [e]
    refine D.tr ?_
    have k : ∀ f, f = 5 ∨ f = 7 → k_hd0 (k_ad4 z.2.1 pg j (k_ad0 z.2.2.2 z.2.2.1 z.2.1 pg j z.1)) j f = k_ad3 z.2.1 pg j (k_ad0 z.2.2.2 z.2.2.1 z.2.1 pg j z.1) f := fun f hf => by
      unfold k_hd0
      split
      · rw [k_lv_ne (by omega) (by omega), e4 f (by omega)]
      · rw [k_kp_ne (by omega), e4 f (by omega)]
    exact D7.nf (k 5 (by omega)) (k 7 (by omega))
  · rw [e]
    refine D.tr ?_
    have k : ∀ f, f = 5 ∨ f = 7 → k_icS (k_kp (k_ad4 z.2.1 pg j (k_ad0 z.2.2.2 z.2.2.1 z.2.1 pg j z.1)) j) rm j f = k_ad3 z.2.1 pg j (k_ad0 z.2.2.2 z.2.2.1 z.2.1 pg j z.1) f := fun f hf => by rw [ic_ne (by omega) (by omega), k_kp_ne (by omega), e4 f (by omega)]
    exact D7.nf (k 5 (by omega)) (k 7 (by omega))
theorem RnZ_D {ca : Nat → Nat → Nat} {n pg rm c j : Nat} (hn : n ≤ 4) (hp : pg ≤ 16) (hj : j < n) : ∀ (t : Nat) (z z' : CZ), RnZ ca n pg rm c j t z z' → D7 z.1 z'.1
  | 0, z, z', h => by rw [show z' = z from h]; exact D7.rf
  | t + 1, z, z', ⟨z1, h1, h2, h3⟩ => (RnZ_D hn hp hj t z z1 h1).tr (StZ_D hn hp hj h2 h3)
theorem oRun_D {ca : Nat → Nat → Nat} {n pg rm c : Nat} {i s : Int32} {z z' : CZ} {r : Int32} (hn : n ≤ 4) (hp : pg ≤ 16) (o : oRun ca n pg rm c i s z z' r) : D7 z.1 z'.1 := by
  rcases o with ⟨-, e, -⟩ | ⟨j, N, t, hj, -, -, -, -, ⟨-, x⟩ | ⟨-, z1, ς, x, ok, -, hE, e⟩⟩
  · rw [e]; exact D7.rf
  · exact RnZ_D hn hp hj _ _ _ x
  · rw [e]
    refine (RnZ_D hn hp hj _ _ _ x).tr ((ad0_D (n := n) (ε := z1.2.2.2) (ρ := z1.2.2.1) (τ := z1.2.1) (pg := pg) (j := j)).tr ?_)
    rcases hE with ⟨-, q⟩ | ⟨-, q⟩ <;> rw [q]
    · exact D7.rf
    · show D7 _ (u2 (k_ad0 z1.2.2.2 z1.2.2.1 z1.2.1 pg j z1.1) 20 j 0)
      exact D7.nf (u2_ne (by decide)) (u2_ne (by decide))
theorem br_D {pg rm j : Nat} {u : (Nat → Nat → Int32)} {kd vl : Int32} {b : Option (Nat × (Nat → Int32))} : D7 u (k_brS u pg rm j kd vl b) := by
  have k : ∀ f, f = 5 ∨ f = 7 → k_brS u pg rm j kd vl b f = u f := fun f hf => by
    unfold k_brS
    split
    · rw [k_rcv_n2 (by omega)]
    · rw [ic_ne (by omega) (by omega), k_rcv_n2 (by omega)]
  exact D7.nf (k 5 (by omega)) (k 7 (by omega))
theorem oEv_D {n pg rm : Nat} {kd vl : Int32} {bo : Option (Nat × (Nat → Int32)) → Prop} {full : Nat → Prop} {bad : Prop} {z z' : CZ} {r : Int32} (o : oEv n pg rm kd vl bo full bad z z' r) : D7 z.1 z'.1 := by
  rcases o with ⟨-, e, -⟩ | ⟨-, -, j, a, b, -, -, -, -, -, -, -, e⟩
  · rw [e]; exact D7.rf
  · rw [e]; exact br_D
theorem oDisk_D {n pg rm : Nat} {z z' : CZ} {r : Int32} (o : oDisk n pg rm z z' r) : D7 z.1 z'.1 := by
  have k : D7 z.1 (k_co z.1) := D7.nf (co_ne (by decide)) (co_ne (by decide))
  rcases o with ⟨-, e, -⟩ | ⟨-, -, -, e⟩ | ⟨-, -, j, a, b, -, -, -, -, -, -, e⟩
  · rw [e]; exact D7.rf
  · rw [e]; exact k
  · rw [e]; exact k.tr br_D
theorem oDlv_D {n rm : Nat} {z z' : CZ} {r : Int32} (o : oDlv n rm z z' r) : D7 z.1 z'.1 := by
  rcases o with ⟨-, e, -⟩ | ⟨-, j, a, -, -, -, -, -, -, e⟩
  · rw [e]; exact D7.rf
  · rw [e]
    have k : ∀ f, f = 5 ∨ f = 7 → k_dl z.1 rm j f = z.1 f := fun f hf => by
      unfold k_dl k_dl1
      split
      · rw [u2_ne (by omega), u2_ne (by omega), u2_ne (by omega)]
      · rw [u2_ne (by omega), u2_ne (by omega), u2_ne (by omega), u2_ne (by omega)]
    exact D7.nf (k 5 (by omega)) (k 7 (by omega))
theorem oAck_D {n rm : Nat} {z z' : CZ} {r : Int32} (o : oAck n rm z z' r) : D7 z.1 z'.1 := by
  rcases o with ⟨-, e, -⟩ | ⟨-, j, a, -, -, -, -, -, -, e⟩
  · rw [e]; exact D7.rf
  · rw [e]
    have k : ∀ f, f = 5 ∨ f = 7 → k_ak z.1 rm j (z.2.2.2 a).1 f = z.1 f := fun f hf => by
      unfold k_ak
      split
      · rw [k_drop_ne (by omega) (by omega), k_lv_ne (by omega) (by omega), k_ak1_ne (by omega)]
      · rw [k_ak1_ne (by omega)]
    exact D7.nf (k 5 (by omega)) (k 7 (by omega))
theorem stop_7 {u : (Nat → Nat → Int32)} {j f k : Nat} {v : Int32} : k_stop u j f k v 5 = u 5 ∧ k_stop u j f k v 7 = u2 u 7 j v 7 := by
  unfold k_stop
  refine ⟨?_, ?_⟩
  · rw [k_drop_ne (by decide) (by decide), u2_ne (by decide), u2_ne (by decide), k_lvP_ne (by decide), u2_ne (by decide), u2_ne (by decide)]
  · rw [k_drop_ne (by decide) (by decide), u2_ne (by decide), u2_ne (by decide), k_lvP_ne (by decide), u2_ne (by decide)]
theorem gi_D {u : (Nat → Nat → Int32)} {j : Nat} : D7 u (k_gi u j) := by
  by_cases q : u 7 j = 3 ∧ u 121 j = 0
  · refine D7.u (j := j) (v := 1) (gi_ne (by decide)) ?_ (by decide) (by rw [q.1]; decide)
    have e7 : k_gi u j 7 = k_go1 u j 7 := by
      unfold k_gi
      rw [if_pos q]; unfold k_go
      split
      · rw [k_dap_ne (by decide), k_la_ne (by decide) (by decide)]
      · rw [k_la_ne (by decide) (by decide)]
    rw [e7]; unfold k_go1; rw [k_lvP_ne (by decide)]
  · rw [gi_n q]; exact D7.rf
theorem oSus_D {n : Nat} {i : Int32} {z z' : CZ} {r : Int32} (o : oSus n i z z' r) : D7 z.1 z'.1 := by
  rcases o with ⟨-, e, -⟩ | ⟨-, j, -, -, ⟨q, -, e⟩ | ⟨-, -, -, e⟩ | ⟨q, -, -, e⟩ | ⟨l, q, -, -, -, -, e⟩⟩
  · rw [e]; exact D7.rf
  · rw [e]
    show D7 z.1 (k_stop z.1 j (cl (z.1 112 j)) (cl (z.1 38 j)) 5)
    exact D7.u (j := j) (v := 5) stop_7.1 stop_7.2 (by decide) (q.elim (fun q => by rw [q]; decide) (fun q => by rw [q.1]; decide))
  · rw [e]
    have k : ∀ f, f = 5 ∨ f = 7 → k_la (k_lvP (k_fgt (u2 z.1 14 0 (z.1 113 j))) j) j f = z.1 f := fun f hf => by rw [k_la_ne (by omega) (by omega), k_lvP_ne (by omega), fgt_ne (by omega), u2_ne (by omega)]
    exact D7.nf (k 5 (by omega)) (k 7 (by omega))
  · rw [e]
    refine (D7.u (j := j) (v := 3) ?_ ?_ (by decide) (by rw [q]; decide)).tr gi_D
    · rw [u2_ne (by decide), fgt_ne (by decide), u2_ne (by decide)]
    · funext t
      by_cases q : t = j
      · rw [q, u2_ss, u2_ss]
      · rw [u2_sn q, u2_sn q, fgt_ne (by decide), u2_ne (by decide)]
  · rw [e]
    refine (D7.u (j := j) (v := 3) ?_ ?_ (by decide) (by rw [q]; decide)).tr gi_D
    · rw [u2_ne (by decide), fgt_ne (by decide), u2_ne (by decide), u2_ne (by decide), u2_ne (by decide)]
    · funext t
      by_cases q : t = j
      · rw [q, u2_ss, u2_ss]
      · rw [u2_sn q, u2_sn q, fgt_ne (by decide), u2_ne (by decide), u2_ne (by decide), u2_ne (by decide)]
theorem oPro_D {n pg : Nat} {i : Int32} {z z' : CZ} {r : Int32} (o : oPro n pg i z z' r) : D7 z.1 z'.1 := by
  rcases o with ⟨-, e, -⟩ | ⟨-, j, l, -, -, q, -, -, -, e⟩
  · rw [e]; exact D7.rf
  · rw [e]
    show D7 z.1 (u2 (k_all (u2 z.1 7 j 4) l pg) 62 0 0)
    exact D7.u (j := j) (v := 4) (by rw [u2_ne (by decide), all_ne (by decide) pg, u2_ne (by decide)]) (by rw [u2_ne (by decide), all_ne (by decide) pg]) (by decide) (by rw [q]; decide)
theorem oTra_D {n pg : Nat} {z z' : CZ} {r : Int32} (o : oTra n pg z z' r) : D7 z.1 z'.1 := by
  rcases o with ⟨-, e, -⟩ | ⟨t, l, p, -, -, -, -, -, -, -, -, e⟩ | ⟨t, l, -, -, q, -, -, -, e⟩
  · rw [e]; exact D7.rf
  · rw [e]
    have k : ∀ f, f = 5 ∨ f = 7 → u2 (k_send z.1 l t p) 62 0 (z.1 62 0 + 1) f = z.1 f := fun f hf => by unfold k_send; rw [u2_ne (by omega), u2_ne (by omega), k_cp_ne (by omega)]
    exact D7.nf (k 5 (by omega)) (k 7 (by omega))
  · rw [e]
    have k : ∀ f, f = 5 ∨ f = 7 → u2 (k_call (k_mp1 z.1 l t) l t) 113 t ((if z.1 13 0 < z.1 14 0 then z.1 14 0 else z.1 13 0) + 1) f = z.1 f := fun f hf => by rw [u2_ne (by omega), call_ne (by omega), k_mp1_ne (by omega)]
    refine D7.u (j := t) (v := 2) ?_ ?_ (by decide) (by rw [q]; decide)
    · show k_mp z.1 l t 5 = _
      unfold k_mp; rw [u2_ne (by decide), k 5 (by omega)]
    · show k_mp z.1 l t 7 = _
      unfold k_mp
      funext x
      by_cases q : x = t
      · rw [q, u2_ss, u2_ss]
      · rw [u2_sn q, u2_sn q, k 7 (by omega)]
theorem oHos_D {n pg : Nat} {i s : Int32} {z z' : CZ} {r : Int64} (o : oHos n pg i s z z' r) : D7 z.1 z'.1 := by rw [o.1]; exact D7.rf
theorem oMem_D {n pg : Nat} {i a : Int32} {z z' : CZ} {r : Int32} (o : oMem n pg i a z z' r) : D7 z.1 z'.1 := by rw [o.1]; exact D7.rf
theorem oBlk_D {b k : Int32} {z z' : CZ} {r : Int32} (o : oBlk b k z z' r) : D7 z.1 z'.1 := by rw [o.1]; exact D7.rf
theorem oPut_D {pg : Nat} {a : Int32} {v : Int64} {z z' : CZ} {r : Int32} (o : oPut pg a v z z' r) : D7 z.1 z'.1 := by
  rcases o with ⟨-, e, -⟩ | ⟨A, -, -, e, -⟩
  · rw [e]; exact D7.rf
  · rw [e]
    show D7 z.1 (m_putl z.1 A v 8)
    exact D7.nf (m_putl_ne (by decide) 8) (m_putl_ne (by decide) 8)
