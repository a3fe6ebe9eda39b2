def oDisk (n pg rm : Nat) (z z' : CZ) (r : Int32) : Prop := (r = 0 ∧ z' = z ∧ (cl (z.1 125 0) = 0 ∨ ∃ j, ¬ cl (z.1 125 0) = 0 ∧ j < n ∧ z.1 129 (cl (z.1 124 0)) = nI j ∧ k_hrs z.1 j = true ∧ k_room z.1 j = false)) ∨ (r = 1 ∧ ¬ cl (z.1 125 0) = 0 ∧ (¬ ∃ j, j < n ∧ z.1 129 (cl (z.1 124 0)) = nI j ∧ k_hrs z.1 j = true) ∧ z' = (k_co z.1, z.2)) ∨ (r = 1 ∧ ¬ cl (z.1 125 0) = 0 ∧ ∃ j a b, j < n ∧ z.1 129 (cl (z.1 124 0)) = nI j ∧ k_hrs z.1 j = true ∧ k_room z.1 j = true ∧ (b = none ∧ ¬ z.1 126 (cl (z.1 124 0)) = 1 ∨ ∃ g, b = some (64, g) ∧ z.1 126 (cl (z.1 124 0)) = 1 ∧ ∀ i, i < 64 → g i = z.1 64 (64 * k_cob z.1 + i)) ∧ FRQ n rm z.2.2.1 z.1 a ∧ z' = evZ pg rm j a 4 0 b (k_co z.1) z)
theorem co_ne {u : (Nat → Nat → Int32)} {F : Nat} (h : F ≠ 124 ∧ F ≠ 125 ∧ F ≠ 64) : k_co u F = u F := by
  unfold k_co
  by_cases q : u 126 (cl (u 124 0)) = 1
  · rw [if_pos q, k_co1_ne ⟨h.1, h.2.1⟩]
  · rw [if_neg q, k_cp_ne h.2.2, k_co1_ne ⟨h.1, h.2.1⟩]
theorem cc_disk {G : xG} {ro : xR} {sv : Nat → Value} (hG : x_Good G ro sv) {d n pg rm c : Nat} {ca : Nat → Nat → Nat} {z : CZ} {h : xH} {Q : xQ} (hp4 : 4 ≤ pg) (hr1 : 1 ≤ rm) (O : OKZ ca n pg rm c z h) (hQ : ∀ z' r h', oDisk n pg rm z z' r → OKZ ca n pg rm (c + 1) z' h' → CX ca n h h' → Q (some (.int r)) h') : G (d + 4) n_X11_disk 2 69 0 [(0, .ref (ca 0 0))] [] h 0 0 Q := by
  have hK := O.2.1.1
  have Sc := SC_co O.n4 O.2.1
  have Hc : QQ ca n rm h z.2.2.2 z.2.2.1 (k_co z.1) := O.2.2.nf (fun f hf => co_ne (by omega))
  refine kk_diskP hG O.1 hp4 hK.1 (fun j hj => (O.2.1.2.1 j hj).R) hr1 O.2.1.2.2.2.2.1 O.2.1.2.2.2.2.2.1 hK.2.1 hK.2.2.1 (fun q => hQ z 0 h (Or.inl ⟨rfl, rfl, Or.inl q⟩) (O.up (by omega)) CX.rf) (fun q1 q2 h' R f => ?_) (fun j q1 hj e hr => ⟨fun q => hQ z 0 h (Or.inl ⟨rfl, rfl, Or.inr ⟨j, q1, hj, e, hr, q⟩⟩) (O.up (by omega)) CX.rf, fun q a h' b hb ha R x f => ?_⟩)
  · exact hQ _ 1 h' (Or.inr (Or.inl ⟨rfl, q1, q2, rfl⟩)) ⟨R, SC_up Sc (by omega), Hc.cx f⟩ f
  · have er : k_room (k_co z.1) j = true := by unfold k_room; rw [co_ne (by decide), co_ne (by decide), co_ne (by decide)]; exact q
    refine hQ _ 1 h' (Or.inr (Or.inr ⟨rfl, q1, j, a, b, hj, e, hr, q, hb, O.2.2.fr ha, rfl⟩)) (ev_ok hr1 O.n4 O.p16 O.r32 Sc Hc hj er (EK_4 ?_) ha R x f) f
    rcases hb with hb | ⟨g, hb, -⟩
    · exact Or.inl hb.1
    · exact Or.inr ⟨g, hb⟩
def oDlv (n rm : Nat) (z z' : CZ) (r : Int32) : Prop := (r = 0 ∧ z' = z ∧ ((¬ ∃ j, j < n ∧ z.1 123 0 = nI j ∧ z.1 7 j = 2 ∧ ¬ cl (z.1 121 j) = 512) ∨ cl (z.1 133 0) = 0)) ∨ (r = 1 ∧ ∃ j a, j < n ∧ z.1 123 0 = nI j ∧ z.1 7 j = 2 ∧ ¬ cl (z.1 121 j) = 512 ∧ ¬ cl (z.1 133 0) = 0 ∧ z.2.2.1 4 (cl (z.1 132 0)) = some a ∧ z' = (k_dl z.1 rm j, z.2.1, k_dlR z.2.2.1 z.1 rm j a, z.2.2.2))
theorem cc_deliver {G : xG} {ro : xR} {sv : Nat → Value} (hG : x_Good G ro sv) {d n pg rm c : Nat} {ca : Nat → Nat → Nat} {z : CZ} {h : xH} {Q : xQ} (hr1 : 1 ≤ rm) (O : OKZ ca n pg rm c z h) (hQ : ∀ z' r h', oDlv n rm z z' r → OKZ ca n pg rm (c + 1) z' h' → CX ca n h h' → Q (some (.int r)) h') : G (d + 3) n_X11_deliver 0 0 0 [(0, .ref (ca 0 0))] [] h 0 0 Q := by
  obtain ⟨s1, s2, s3, s4, s5, s6⟩ := id O.2.1.2.2.2
  refine kk_deliver hG O.1 hr1 s2 s3 s4 s5 (fun j hj => ⟨(O.2.2.1 j hj).1, (O.2.2.1 j hj).2.1⟩) (fun q => ?_) (fun q => hQ z 0 h (Or.inl ⟨rfl, rfl, q⟩) (O.up (by omega)) CX.rf) (fun j a hj q1 q2 q3 q4 q5 h' R f => ?_)
  · obtain ⟨a, e, x⟩ := O.2.2.2.1 0 q
    rw [show k_wr rm (cl (z.1 132 0) + 0) = cl (z.1 132 0) from if_pos (by have := s2.2; omega)] at e
    obtain ⟨⟨⟨x1, bv, x2, -⟩, -⟩, -⟩ := x
    exact ⟨a, _, e, x2, x1⟩
  · exact hQ _ 1 h' (Or.inr ⟨rfl, j, a, hj, q1, q2, q3, q4, q5, rfl⟩) ⟨R, SC_up (SC_dl O.n4 O.r32 hr1 O.2.1) (by omega), (QQ_dl O.n4 hr1 O.r32 O.2.1.2.2.2 O.2.2 hj q3 q4 q5).cx (CX.cf f)⟩ (CX.cf f)
def oAck (n rm : Nat) (z z' : CZ) (r : Int32) : Prop := (r = 0 ∧ z' = z ∧ ((¬ ∃ j, j < n ∧ z.1 122 0 = nI j ∧ z.1 7 j = 1 ∧ ¬ z.1 115 j = 0) ∨ cl (z.1 135 0) = 0)) ∨ (r = 1 ∧ ∃ j a, j < n ∧ z.1 122 0 = nI j ∧ z.1 7 j = 1 ∧ ¬ z.1 115 j = 0 ∧ ¬ cl (z.1 135 0) = 0 ∧ z.2.2.1 5 (cl (z.1 134 0)) = some a ∧ z' = (k_ak z.1 rm j (z.2.2.2 a).1, z.2))
theorem ak_ne {u : (Nat → Nat → Int32)} {rm j F : Nat} {kd : Int32} (h : F = 120 ∨ F = 121 ∨ F = 132 ∨ F = 133 ∨ F = 134 ∨ F = 135) : k_ak u rm j kd F = k_ak1 u rm j F := by
  unfold k_ak
  by_cases q : kd = 0 ∧ ¬ cl (u 38 j) = 0
  · rw [if_pos q, k_drop_ne (by omega) (by omega), k_lv_ne (by omega) (by omega)]
  · rw [if_neg q]
theorem cc_ack {G : xG} {ro : xR} {sv : Nat → Value} (hG : x_Good G ro sv) {d n pg rm c : Nat} {ca : Nat → Nat → Nat} {z : CZ} {h : xH} {Q : xQ} (hr1 : 1 ≤ rm) (hc : c ≤ 511) (O : OKZ ca n pg rm c z h) (hQ : ∀ z' r h', oAck n rm z z' r → OKZ ca n pg rm (c + 1) z' h' → CX ca n h h' → Q (some (.int r)) h') : G (d + 3) n_X11_ack 0 0 0 [(0, .ref (ca 0 0))] [] h 0 0 Q := by
  obtain ⟨s1, s2, s3, s4, s5, s6⟩ := id O.2.1.2.2.2
  refine kk_ack (ε := z.2.2.2) hG O.1 hr1 O.2.1.1 s4 s5 (fun q => ?_) (fun q => hQ z 0 h (Or.inl ⟨rfl, rfl, q⟩) (O.up (by omega)) CX.rf) (fun j a hj q1 q2 q3 q4 q5 h' R f => ?_)
  · obtain ⟨a, e, x⟩ := O.2.2.2.2 0 q
    rw [show k_wr rm (cl (z.1 134 0) + 0) = cl (z.1 134 0) from if_pos (by have := s4.2; omega)] at e
    exact ⟨a, e, x.1⟩
  · exact hQ _ 1 h' (Or.inr ⟨rfl, j, a, hj, q1, q2, q3, q4, q5, rfl⟩) ⟨R, SC_ak O.n4 O.r32 hr1 (by omega) O.2.1 hj, ((QQ_ak1 (j := j) hr1 O.r32 O.2.1.2.2.2 O.2.2).nf (fun f hf => ak_ne hf)).cx (CX.cf f)⟩ (CX.cf f)
theorem stop_q {ca : Nat → Nat → Nat} {n rm j f k : Nat} {h : xH} {ε : Nat → ED} {ρ : Nat → Nat → Option Nat} {u : (Nat → Nat → Int32)} {v : Int32} (H : QQ ca n rm h ε ρ u) : QQ ca n rm h ε ρ (k_stop u j f k v) := by
  have H1 : QQ ca n rm h ε ρ (k_lvP (u2 (u2 u 7 j v) 10 j (u 10 j + 1)) j) := H.nf (fun f hf => by rw [k_lvP_ne (by omega), u2_ne (by omega), u2_ne (by omega)])
  exact (QQ_in0 (j := j) H1).nf (fun f hf => by unfold k_stop; rw [k_drop_ne (by omega) (by omega)])
def oSus (n : Nat) (i : Int32) (z z' : CZ) (r : Int32) : Prop := (r = 0 ∧ z' = z ∧ ∀ j, j < n → i = nI j → ¬ (z.1 7 j = 2 ∨ (z.1 7 j = 1 ∧ ¬ z.1 115 j = 0))) ∨ (r = 1 ∧ ∃ j, j < n ∧ i = nI j ∧ (((z.1 7 j = 2 ∨ (z.1 7 j = 1 ∧ ¬ z.1 115 j = 0)) ∧ z.1 113 j ≤ z.1 14 0 ∧ z' = (k_stop z.1 j (cl (z.1 112 j)) (cl (z.1 38 j)) 5, z.2)) ∨ (z.1 7 j = 1 ∧ ¬ z.1 115 j = 0 ∧ ¬ z.1 113 j ≤ z.1 14 0 ∧ z' = (k_la (k_lvP (k_fgt (u2 z.1 14 0 (z.1 113 j))) j) j, z.2)) ∨ (z.1 7 j = 2 ∧ ¬ z.1 113 j ≤ z.1 14 0 ∧ (¬ ∃ l, l < n ∧ z.1 122 0 = nI l ∧ z.1 7 l = 1) ∧ z' = (k_gi (u2 (k_fgt (u2 z.1 14 0 (z.1 113 j))) 7 j 3) j, z.2)) ∨ (∃ l, z.1 7 j = 2 ∧ ¬ z.1 113 j ≤ z.1 14 0 ∧ l < n ∧ z.1 122 0 = nI l ∧ z.1 7 l = 1 ∧ z' = (k_gi (u2 (k_fgt (u2 (u2 (u2 z.1 14 0 (z.1 113 j)) 116 l 1) 114 l 0)) 7 j 3) j, z.2))))
theorem SC_114 {n pg rm c l : Nat} {u : (Nat → Nat → Int32)} (hn : n ≤ 4) (h : SC n pg rm c u) : SC n pg rm c (u2 u 114 l 0) := by
  obtain ⟨s1, s2, s3, s4, s5, s6⟩ := h.2.2.2
  refine SC_ks hn h (KD_u h.1 (by decide)) (fun f hf => u2_ne (by omega)) ⟨by rw [u2_ne (by decide)]; exact s1, by rw [u2_ne (by decide)]; exact s2, by rw [u2_ne (by decide)]; exact s3, by rw [u2_ne (by decide)]; exact s4, by rw [u2_ne (by decide)]; exact s5, fun t ht => ?_⟩
  by_cases q : t = l
  · rw [q, u2_ss]; exact ⟨by show -(c : Int) ≤ 0; omega, by decide⟩
  · rw [u2_sn q]; exact s6 t ht
theorem cc_suspect {G : xG} {ro : xR} {sv : Nat → Value} (hG : x_Good G ro sv) {d n pg rm c : Nat} {ca : Nat → Nat → Nat} {z : CZ} {h : xH} {Q : xQ} {i : Int32} (O : OKZ ca n pg rm c z h) (hQ : ∀ z' r h', oSus n i z z' r → OKZ ca n pg rm (c + 1) z' h' → CX ca n h h' → Q (some (.int r)) h') : G (d + 6) n_X11_suspect 0 0 0 [(0, .ref (ca 0 0)), (1, .int i)] [] h 0 0 Q := by
  have hK := O.2.1.1
  refine kk_suspect hG O.1 hK (fun q => hQ z 0 h (Or.inl ⟨rfl, rfl, q⟩) (O.up (by omega)) CX.rf) (fun j hj e q1 q2 h' R f => ?_) (fun j hj e q1 q2 q3 h' R f => ?_) (fun j hj e q1 q2 q3 h' R f => ?_) (fun j l hj e q1 q2 hl q3 q4 h' R f => ?_)
  · exact hQ _ 1 h' (Or.inr ⟨rfl, j, hj, e, Or.inl ⟨q1, q2, rfl⟩⟩) ⟨R, SC_up (SC_stop O.n4 O.2.1 (hK.2.2.2.2 j hj).2.1.2) (by omega), (stop_q O.2.2).cx (CX.cf f)⟩ (CX.cf f)
  · refine hQ _ 1 h' (Or.inr ⟨rfl, j, hj, e, Or.inr (Or.inl ⟨q1, q2, q3, rfl⟩)⟩) ⟨R, SC_up (SC_la O.n4 (SC_lvP O.n4 (SC_fgt O.n4 (SC_u 14 O.n4 O.2.1 (by decide) (by decide)))) hj) (by omega), ?_⟩ (CX.cf f)
    have H1 : QQ ca n rm h z.2.2.2 z.2.2.1 (u2 z.1 14 0 (z.1 113 j)) := O.2.2.nf (fun f hf => u2_ne (by omega))
    exact ((QQ_fgt H1).nf (fun f hf => by dsimp only; rw [k_la_ne (by omega) (by omega), k_lvP_ne (by omega)])).cx (CX.cf f)
  · refine hQ _ 1 h' (Or.inr ⟨rfl, j, hj, e, Or.inr (Or.inr (Or.inl ⟨q1, q2, q3, rfl⟩))⟩) ⟨R, SC_up (SC_gi O.n4 (SC_u 7 O.n4 (SC_fgt O.n4 (SC_u 14 O.n4 O.2.1 (by decide) (by decide))) (by decide) (by decide)) hj) (by omega), ?_⟩ (CX.cf f)
    have H1 : QQ ca n rm h z.2.2.2 z.2.2.1 (u2 z.1 14 0 (z.1 113 j)) := O.2.2.nf (fun f hf => u2_ne (by omega))
    exact ((QQ_fgt H1).nf (fun f hf => by dsimp only; rw [gi_ne (by omega), u2_ne (by omega)])).cx (CX.cf f)
  · refine hQ _ 1 h' (Or.inr ⟨rfl, j, hj, e, Or.inr (Or.inr (Or.inr ⟨l, q1, q2, hl, q3, q4, rfl⟩))⟩) ⟨R, SC_up (SC_gi O.n4 (SC_u 7 O.n4 (SC_fgt O.n4 (SC_114 O.n4 (SC_u 116 O.n4 (SC_u 14 O.n4 O.2.1 (by decide) (by decide)) (by decide) (by decide)))) (by decide) (by decide)) hj) (by omega), ?_⟩ (CX.cf f)
    have H1 : QQ ca n rm h z.2.2.2 z.2.2.1 (u2 (u2 (u2 z.1 14 0 (z.1 113 j)) 116 l 1) 114 l 0) := O.2.2.nf (fun f hf => by rw [u2_ne (by omega), u2_ne (by omega), u2_ne (by omega)])
    exact ((QQ_fgt H1).nf (fun f hf => by dsimp only; rw [gi_ne (by omega), u2_ne (by omega)])).cx (CX.cf f)
