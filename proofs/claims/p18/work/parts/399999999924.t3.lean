def oPro (n pg : Nat) (i : Int32) (z z' : CZ) (r : Int32) : Prop := (r = 0 ∧ z' = z ∧ ¬ ∃ j l, j < n ∧ i = nI j ∧ z.1 7 j = 0 ∧ k_one z.1 n l ∧ z.1 115 l = 0 ∧ ∀ t, t < n → ¬ z.1 7 t = 4) ∨ (r = 1 ∧ ∃ j l, j < n ∧ i = nI j ∧ z.1 7 j = 0 ∧ k_one z.1 n l ∧ z.1 115 l = 0 ∧ (∀ t, t < n → ¬ z.1 7 t = 4) ∧ z' = (u2 (k_all (u2 z.1 7 j 4) l pg) 62 0 0, z.2))
theorem cc_protect {G : xG} {ro : xR} {sv : Nat → Value} (hG : x_Good G ro sv) {d n pg rm c : Nat} {ca : Nat → Nat → Nat} {z : CZ} {h : xH} {Q : xQ} {i : Int32} (O : OKZ ca n pg rm c z h) (hQ : ∀ z' r h', oPro n pg i z z' r → OKZ ca n pg rm (c + 1) z' h' → CX ca n h h' → Q (some (.int r)) h') : G (d + 1) n_X11_protect 0 0 0 [(0, .ref (ca 0 0)), (1, .int i)] [] h 0 0 Q :=
  kk_protect hG O.1 (fun q => hQ z 0 h (Or.inl ⟨rfl, rfl, q⟩) (O.up (by omega)) CX.rf) (fun j l hj e q1 q2 q3 q4 h' R f => hQ _ 1 h' (Or.inr ⟨rfl, j, l, hj, e, q1, q2, q3, q4, rfl⟩) (O.to R (SC_prot O.n4 O.2.1) (by omega) (fun F hF => by rw [u2_ne (by omega), all_ne (by omega) pg, u2_ne (by omega)]) f) (CX.cf f))
def oTra (n pg : Nat) (z z' : CZ) (r : Int32) : Prop := (r = -1 ∧ z' = z ∧ ((∀ j, j < n → ¬ z.1 7 j = 4) ∨ ∀ l, ¬ k_one z.1 n l)) ∨ (∃ t l p, r = nI p ∧ t < n ∧ z.1 7 t = 4 ∧ (∀ i, i < t → ¬ z.1 7 i = 4) ∧ k_one z.1 n l ∧ p < pg ∧ ¬ z.1 105 (16 * l + p) = 0 ∧ (∀ i, i < p → z.1 105 (16 * l + i) = 0) ∧ z' = (u2 (k_send z.1 l t p) 62 0 (z.1 62 0 + 1), z.2)) ∨ (∃ t l, r = 64 ∧ t < n ∧ z.1 7 t = 4 ∧ (∀ i, i < t → ¬ z.1 7 i = 4) ∧ k_one z.1 n l ∧ (∀ i, i < pg → z.1 105 (16 * l + i) = 0) ∧ z' = (k_mp z.1 l t, t2 z.2.1 19 t (z.2.1 19 l), z.2.2))
theorem mp_ne {u : (Nat → Nat → Int32)} {l r F : Nat} (h : F = 120 ∨ F = 121) : k_mp u l r F = u F := by
  unfold k_mp
  rw [u2_ne (by omega), u2_ne (by omega), call_ne (by omega), k_mp1_ne (by omega)]
theorem mp_0 {u : (Nat → Nat → Int32)} {l r F : Nat} (h : F = 132 ∨ F = 133 ∨ F = 134 ∨ F = 135) : k_mp u l r F 0 = 0 := by
  unfold k_mp
  rw [u2_ne (by omega), u2_ne (by omega), call_ne (by omega)]
  unfold k_mp1
  rw [u2_ne (by omega), u2_ne (by omega), u2_ne (by omega), u2_ne (by omega), u2_ne (by omega), fgt_0 h]
theorem cc_transfer {G : xG} {ro : xR} {sv : Nat → Value} (hG : x_Good G ro sv) {d n pg rm c : Nat} {ca : Nat → Nat → Nat} {z : CZ} {h : xH} {Q : xQ} (O : OKZ ca n pg rm c z h) (hQ : ∀ z' r h', oTra n pg z z' r → OKZ ca n pg rm (c + 1) z' h' → CX ca n h h' → Q (some (.int r)) h') : G (d + 4) n_X11_transfer 0 0 0 [(0, .ref (ca 0 0))] [] h 0 0 Q := by
  refine kk_transfer hG O.1 O.2.1.1.1 O.2.1.2.2.1 (fun q => hQ z (-1) h (Or.inl ⟨rfl, rfl, q⟩) (O.up (by omega)) CX.rf) (fun t l p ht q1 q2 q3 q4 q5 q6 h' R f => ?_) (fun t l ht q1 q2 q3 q4 h' R f => ?_)
  · exact hQ _ (nI p) h' (Or.inr (Or.inl ⟨t, l, p, rfl, ht, q1, q2, q3, q4, q5, q6, rfl⟩)) (O.to R (SC_send O.n4 O.2.1) (by omega) (fun F hF => by unfold k_send; rw [u2_ne (by omega), u2_ne (by omega), k_cp_ne (by omega)]) f) (CX.cf f)
  · have hlt : l ≠ t := fun e => by rw [e] at q3; rw [q3.2.1] at q1; exact absurd q1 (by decide)
    refine hQ _ 64 h' (Or.inr (Or.inr ⟨t, l, rfl, ht, q1, q2, q3, q4, rfl⟩)) ⟨R, SC_up (SC_mp O.n4 O.2.1 q3.1 ht hlt) (by omega), ?_⟩ (CX.cf f)
    have H1 : QQ ca n rm h z.2.2.2 z.2.2.1 (k_mp z.1 l t) := by
      unfold QQ
      rw [mp_ne (F := 120) (by omega), mp_ne (F := 121) (by omega), mp_0 (by omega), mp_0 (by omega), mp_0 (by omega), mp_0 (by omega)]
      exact ⟨O.2.2.1, QC.z, QC.z⟩
    exact H1.cx (CX.cf f)
def oCra (n : Nat) (i : Int32) (z z' : CZ) (r : Int32) : Prop := (r = 0 ∧ z' = z ∧ ¬ ∃ j, j < n ∧ i = nI j ∧ ¬ z.1 7 j = 6) ∨ (r = 1 ∧ ∃ j, j < n ∧ i = nI j ∧ ¬ z.1 7 j = 6 ∧ (¬ z.1 7 j = 1 ∨ ∀ t, t < n → ¬ z.1 7 t = 4) ∧ z' = (k_stop z.1 j (cl (z.1 112 j)) (cl (z.1 38 j)) 6, z.2)) ∨ (r = 1 ∧ ∃ j t, j < n ∧ t < n ∧ i = nI j ∧ z.1 7 j = 1 ∧ z.1 7 t = 4 ∧ (∀ x, x < t → ¬ z.1 7 x = 4) ∧ z' = (k_stop (u2 z.1 7 t 0) j (cl (z.1 112 j)) (cl (z.1 38 j)) 6, z.2))
theorem cc_crash {G : xG} {ro : xR} {sv : Nat → Value} (hG : x_Good G ro sv) {d n pg rm c : Nat} {ca : Nat → Nat → Nat} {z : CZ} {h : xH} {Q : xQ} {i : Int32} (O : OKZ ca n pg rm c z h) (hQ : ∀ z' r h', oCra n i z z' r → OKZ ca n pg rm (c + 1) z' h' → CX ca n h h' → Q (some (.int r)) h') : G (d + 3) n_X11_crash 0 0 0 [(0, .ref (ca 0 0)), (1, .int i)] [] h 0 0 Q := by
  have hK := O.2.1.1
  refine kk_crash hG O.1 (fun j hj => ⟨(hK.2.2.2.2 j hj).1, (hK.2.2.2.2 j hj).2.1⟩) (fun q => hQ z 0 h (Or.inl ⟨rfl, rfl, q⟩) (O.up (by omega)) CX.rf) (fun j hj e q1 q2 h' R f => ?_) (fun j t hj ht e q1 q2 q3 h' R f => ?_)
  · exact hQ _ 1 h' (Or.inr (Or.inl ⟨rfl, j, hj, e, q1, q2, rfl⟩)) ⟨R, SC_up (SC_stop O.n4 O.2.1 (hK.2.2.2.2 j hj).2.1.2) (by omega), (stop_q O.2.2).cx (CX.cf f)⟩ (CX.cf f)
  · exact hQ _ 1 h' (Or.inr (Or.inr ⟨rfl, j, t, hj, ht, e, q1, q2, q3, rfl⟩)) ⟨R, SC_up (SC_stop O.n4 (SC_u 7 O.n4 O.2.1 (by decide) (by decide)) (hK.2.2.2.2 j hj).2.1.2) (by omega), (stop_q (u := u2 z.1 7 t 0) (O.2.2.nf (fun f hf => u2_ne (by omega)))).cx (CX.cf f)⟩ (CX.cf f)
def oRep (n : Nat) (i : Int32) (z z' : CZ) (r : Int32) : Prop := (r = 0 ∧ z' = z ∧ ¬ ∃ j, j < n ∧ i = nI j ∧ (z.1 7 j = 6 ∨ z.1 7 j = 5)) ∨ (r = 1 ∧ ∃ j, j < n ∧ i = nI j ∧ (z.1 7 j = 6 ∨ z.1 7 j = 5) ∧ z' = ((if z.1 122 0 = i then k_fgt (u2 z.1 7 j 0) else u2 z.1 7 j 0), z.2))
theorem cc_repair {G : xG} {ro : xR} {sv : Nat → Value} (hG : x_Good G ro sv) {d n pg rm c : Nat} {ca : Nat → Nat → Nat} {z : CZ} {h : xH} {Q : xQ} {i : Int32} (O : OKZ ca n pg rm c z h) (hQ : ∀ z' r h', oRep n i z z' r → OKZ ca n pg rm (c + 1) z' h' → CX ca n h h' → Q (some (.int r)) h') : G (d + 2) n_X11_repair 0 0 0 [(0, .ref (ca 0 0)), (1, .int i)] [] h 0 0 Q := by
  refine kk_repair hG O.1 (fun q => hQ z 0 h (Or.inl ⟨rfl, rfl, q⟩) (O.up (by omega)) CX.rf) (fun j hj e q1 h' R f => hQ _ 1 h' (Or.inr ⟨rfl, j, hj, e, q1, rfl⟩) ⟨R, SC_up (c := c) ?_ (Nat.le_succ c), QQ.cx (h := h) ?_ (CX.cf f)⟩ (CX.cf f))
  · show SC n pg rm c (if z.1 122 0 = i then k_fgt (u2 z.1 7 j 0) else u2 z.1 7 j 0)
    by_cases q : z.1 122 0 = i
    · rw [if_pos q]; exact SC_fgt O.n4 (SC_u 7 O.n4 O.2.1 (by decide) (by decide))
    · rw [if_neg q]; exact SC_u 7 O.n4 O.2.1 (by decide) (by decide)
  · show QQ ca n rm h z.2.2.2 z.2.2.1 (if z.1 122 0 = i then k_fgt (u2 z.1 7 j 0) else u2 z.1 7 j 0)
    have H1 : QQ ca n rm h z.2.2.2 z.2.2.1 (u2 z.1 7 j 0) := O.2.2.nf (fun f hf => u2_ne (by omega))
    by_cases q : z.1 122 0 = i
    · rw [if_pos q]; exact QQ_fgt H1
    · rw [if_neg q]; exact H1
def oHos (n pg : Nat) (i s : Int32) (z z' : CZ) (r : Int64) : Prop := z' = z ∧ (((¬ ∃ j, j < n ∧ i = nI j) ∧ r = -1) ∨ ((∃ j, j < n ∧ i = nI j) ∧ ¬ HoIn s ∧ r = -2) ∨ ∃ j w p, j < n ∧ i = nI j ∧ s = nI w ∧ (w ≤ 14 ∨ 32 ≤ w) ∧ w ≤ 71 ∧ k_ptsv z.1 n pg j p ∧ r = k_hostv z.1 z.2.1 j w p)
theorem cc_host {G : xG} {ro : xR} {sv : Nat → Value} (hG : x_Good G ro sv) {d n pg rm c : Nat} {ca : Nat → Nat → Nat} {z : CZ} {h : xH} {Q : xQ} {i s : Int32} (O : OKZ ca n pg rm c z h) (hQ : ∀ z' r h', oHos n pg i s z z' r → OKZ ca n pg rm (c + 1) z' h' → CX ca n h h' → Q (some (.long r)) h') : G (d + 3) n_X11_host 0 0 0 [(0, .ref (ca 0 0)), (1, .int i), (2, .int s)] [] h 0 0 Q :=
  kk_host hG O.1 (fun q => hQ z _ h ⟨rfl, Or.inl ⟨q, rfl⟩⟩ (O.up (by omega)) CX.rf) (fun q q2 => hQ z _ h ⟨rfl, Or.inr (Or.inl ⟨q, q2, rfl⟩)⟩ (O.up (by omega)) CX.rf) (fun j w p hj e1 e2 h1 h2 h3 => hQ z _ h ⟨rfl, Or.inr (Or.inr ⟨j, w, p, hj, e1, e2, h1, h2, h3, rfl⟩)⟩ (O.up (by omega)) CX.rf)
def oMem (n pg : Nat) (i a : Int32) (z z' : CZ) (r : Int32) : Prop := z' = z ∧ (((¬ ∃ j A, j < n ∧ A < 256 * pg ∧ i = nI j ∧ a = nI A ∧ hasG z.1 j = true) ∧ r = -1) ∨ ∃ j A, j < n ∧ A < 256 * pg ∧ i = nI j ∧ a = nI A ∧ hasG z.1 j = true ∧ r = z.1 15 (4096 * j + A) &&& 255)
theorem cc_memory {G : xG} {ro : xR} {sv : Nat → Value} (hG : x_Good G ro sv) {d n pg rm c : Nat} {ca : Nat → Nat → Nat} {z : CZ} {h : xH} {Q : xQ} {i a : Int32} (hp4 : 4 ≤ pg) (O : OKZ ca n pg rm c z h) (hQ : ∀ z' r h', oMem n pg i a z z' r → OKZ ca n pg rm (c + 1) z' h' → CX ca n h h' → Q (some (.int r)) h') : G (d + 1) n_X11_memory 0 0 0 [(0, .ref (ca 0 0)), (1, .int i), (2, .int a)] [] h 0 0 Q :=
  kk_memory hG O.1 hp4 (fun q => hQ z _ h ⟨rfl, Or.inl ⟨q, rfl⟩⟩ (O.up (by omega)) CX.rf) (fun j A hj hA e1 e2 g => hQ z _ h ⟨rfl, Or.inr ⟨j, A, hj, hA, e1, e2, g, rfl⟩⟩ (O.up (by omega)) CX.rf)
def oBlk (b k : Int32) (z z' : CZ) (r : Int32) : Prop := z' = z ∧ ((b = 8 ∧ r = z.1 14 0) ∨ (¬ b = 8 ∧ (¬ ∃ B K, B < 8 ∧ K < 64 ∧ b = nI B ∧ k = nI K) ∧ r = -1) ∨ ∃ B K, B < 8 ∧ K < 64 ∧ b = nI B ∧ k = nI K ∧ r = z.1 64 (64 * B + K) &&& 255)
theorem cc_block {G : xG} {ro : xR} {sv : Nat → Value} (hG : x_Good G ro sv) {d n pg rm c : Nat} {ca : Nat → Nat → Nat} {z : CZ} {h : xH} {Q : xQ} {b k : Int32} (O : OKZ ca n pg rm c z h) (hQ : ∀ z' r h', oBlk b k z z' r → OKZ ca n pg rm (c + 1) z' h' → CX ca n h h' → Q (some (.int r)) h') : G d n_X11_block 0 0 0 [(0, .ref (ca 0 0)), (1, .int b), (2, .int k)] [] h 0 0 Q :=
  kk_block hG O.1 (fun q => hQ z _ h ⟨rfl, Or.inl ⟨q, rfl⟩⟩ (O.up (by omega)) CX.rf) (fun q q2 => hQ z _ h ⟨rfl, Or.inr (Or.inl ⟨q, q2, rfl⟩)⟩ (O.up (by omega)) CX.rf) (fun B K hB hK e1 e2 => hQ z _ h ⟨rfl, Or.inr (Or.inr ⟨B, K, hB, hK, e1, e2, rfl⟩)⟩ (O.up (by omega)) CX.rf)
theorem cc_out {G : xG} {ro : xR} {sv : Nat → Value} (hG : x_Good G ro sv) {d n pg rm c : Nat} {ca : Nat → Nat → Nat} {z : CZ} {h : xH} {Q : xQ} {i : Int32} (O : OKZ ca n pg rm c z h) (hQ : ∀ r, OKZ ca n pg rm (c + 1) z h → Q (some (.int r)) h) : G (d + 1) n_X11_out 0 0 0 [(0, .ref (ca 0 0)), (1, .int i)] [] h 0 0 Q :=
  kk_outAt hG O.1 O.2.1.1.2.2.2.1.1 O.2.1.1.2.2.2.1.2 (fun _ => hQ _ (O.up (by omega))) (fun _ _ _ => hQ _ (O.up (by omega)))
