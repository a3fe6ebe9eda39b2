abbrev RZ := (Nat → Nat → Int32) × (Nat → Nat → Int64)
def DJ (ca : Nat → Nat → Nat) (n m : Nat) (ra : Nat → Nat) : Prop := ∀ k j, j < c_cnt n k → ca k j ≠ m ∧ ∀ i, r_isA i = true → ca k j ≠ ra i
def OKR (m : Nat) (ra : Nat → Nat) (n pg rm c : Nat) (y : RZ) (h : xH) : Prop := RepR m ra y.1 y.2 h ∧ CV n pg rm c y.1 y.2
theorem OKR.cx {ca : Nat → Nat → Nat} {m n pg rm c : Nat} {ra : Nat → Nat} {y : RZ} {h h' : xH} (O : OKR m ra n pg rm c y h) (D : DJ ca n m ra) (f : CX ca n h h') : OKR m ra n pg rm c y h' := by
  obtain ⟨⟨r1, r2, r3, r4⟩, cv⟩ := O
  refine ⟨⟨?_, fun k hk => ?_, r3, r4⟩, cv⟩
  · rw [f m (fun k j hj q => (D k j hj).1 q.symm) (by rw [r1]; intro q; cases q)]; exact r1
  · rw [f (ra k) (fun k' j hj q => (D k' j hj).2 k hk q.symm) (by rw [r2 k hk]; intro q; cases q)]; exact r2 k hk
theorem EK.len {d : ED} {L : Nat} {g : Nat → Int32} (k : EK d) (e : d.2.2.1 = some (L, g)) : L ≤ 64 := by
  by_cases e2 : d.1 = 2
  · obtain ⟨N, f, e', -, h2, -⟩ := k.2.1 e2
    rw [e] at e'; cases e'; omega
  by_cases e4 : d.1 = 4
  · rcases k.2.2.1 e4 with q | ⟨f, q⟩
    · rw [e] at q; cases q
    · rw [e] at q; cases q; omega
  · have q := k.2.2.2 e2 e4
    rw [e] at q; cases q
theorem r_byl : ∀ k, k < 75 → r_isA k = true → r_ty k = 1 → 65 ≤ r_len k := by decide +kernel
theorem r_lt75 {k : Nat} (h : r_isA k = true) : k < 75 := by
  rcases Nat.lt_or_ge k 75 with q | q
  · exact q
  · rw [r_isA_big q] at h; cases h
theorem OKZ.rf {ca : Nat → Nat → Nat} {m n pg rm c : Nat} {ra : Nat → Nat} {z : CZ} {s : (Nat → Nat → Int32)} {T : (Nat → Nat → Int64)} {h h' : xH} (O : OKZ ca n pg rm c z h) (D : DJ ca n m ra) (R : RepR m ra s T h) (f : RF m ra h h') : OKZ ca n pg rm c z h' := by
  obtain ⟨⟨c1, c2, c3⟩, S, H⟩ := O
  refine ⟨⟨fun k j hj => ?_, c2, c3⟩, S, H.mo (fun a d x => ?_)⟩
  · rw [f _ (D k j hj).1 (D k j hj).2]; exact c1 k j hj
  · obtain ⟨⟨⟨x1, bv, x2, x3, x4⟩, x5⟩, x6⟩ := x
    have fa : h' a = h a := f a (fun q => by rw [q, R.1] at x2; cases x2) (fun k hk q => by rw [q, R.2.1 k hk] at x2; cases x2)
    refine ⟨⟨⟨x1, bv, by rw [fa]; exact x2, x3, fun L g e => ?_⟩, x5⟩, x6⟩
    obtain ⟨b, b1, b2, b3⟩ := x4 L g e
    have hL := x6.len e
    have fb : h' b = h b := by
      refine f b (fun q => by rw [q, R.1] at b2; cases b2) (fun k hk q => ?_)
      rw [q, R.2.1 k hk] at b2
      unfold r_cell at b2
      have b4 := Sum.inl.inj (Option.some.inj b2)
      have h1 : r_ty k = 1 := congrArg Prod.fst b4
      have h2 : r_len k = L := congrArg (fun x => x.2.1) b4
      have := r_byl k (r_lt75 hk) hk h1
      omega
    exact ⟨b, b1, by rw [fb]; exact b2, b3⟩
theorem CV.g {n pg rm c : Nat} {σ : (Nat → Nat → Int32)} {τ : (Nat → Nat → Int64)} (H : CV n pg rm c σ τ) : RB σ n pg rm ∧ nb (σ 50 0) (64 * c) ∧ nb (σ 72 0) 4096 ∧ PartOK σ ∧ nb (σ 65 0) (cl (σ 66 0)) ∧ nb (σ 66 0) c ∧ ((σ 60 0 = -1 ∧ σ 61 0 = -1) ∨ ∃ r s, TrAt σ n r s ∧ σ 7 r = 4 ∧ σ 7 s = 1 ∧ σ 11 s = 0 ∧ ∀ a, a < 256 * pg → σ 63 (a / 256) = 0 → σ 15 (4096 * r + a) = σ 15 (4096 * s + a)) := by
  obtain ⟨l, g, -, o, r⟩ := H
  exact ⟨g.1, g.2.2.1, g.2.2.2.1, g.2.2.2.2.2.1, o.1, o.2.1, r⟩
theorem OKR.up {m n pg rm c : Nat} {ra : Nat → Nat} {y : RZ} {h h' : xH} (O : OKR m ra n pg rm c y h) (hc : c ≤ 511) (R : RepR m ra y.1 y.2 h') : OKR m ra n pg rm (c + 1) y h' := ⟨R, CV_up hc O.2⟩
def pPut (pg : Nat) (a : Int32) (v : Int64) (y y' : RZ) (r : Int32) : Prop := (¬ (0 ≤ a ∧ a ≤ nI (256 * pg) - 8) ∧ y' = y ∧ r = 0) ∨ ∃ A, A + 8 ≤ 256 * pg ∧ a = nI A ∧ y' = (m_putl y.1 A v 8, y.2) ∧ r = 1
theorem rc_put {G : xG} {ro : xR} {sv : Nat → Value} (hG : x_Good G ro sv) {d m n pg rm c : Nat} {ra : Nat → Nat} {y : RZ} {h : xH} {Q : xQ} {a : Int32} {v : Int64} (hc : c ≤ 511) (O : OKR m ra n pg rm c y h) (hQ : ∀ y' r h', pPut pg a v y y' r → OKR m ra n pg rm (c + 1) y' h' → RF m ra h h' → Q (some (.int r)) h') : G d n_X12_put 0 0 0 [(0, .ref m), (1, .int a), (2, .long v)] [] h 0 0 Q :=
  rr_put hG O.1 O.2.g.1 (fun q h' R f => hQ y 0 h' (Or.inl ⟨q, rfl, rfl⟩) (O.up hc R) f) (fun A h1 h2 h' R f => hQ _ 1 h' (Or.inr ⟨A, h1, h2, rfl, rfl⟩) ⟨R, CV_put hc O.2⟩ f)
def pBoot (y y' : RZ) (r : Int32) : Prop := (¬ y.1 5 0 = 0 ∧ y' = y ∧ r = 0) ∨ (y.1 5 0 = 0 ∧ y' = (m_boot y.1, y.2) ∧ r = 1)
theorem rc_boot {G : xG} {ro : xR} {sv : Nat → Value} (hG : x_Good G ro sv) {d m n pg rm c : Nat} {ra : Nat → Nat} {y : RZ} {h : xH} {Q : xQ} (hc : c ≤ 511) (O : OKR m ra n pg rm c y h) (hQ : ∀ y' r h', pBoot y y' r → OKR m ra n pg rm (c + 1) y' h' → RF m ra h h' → Q (some (.int r)) h') : G d n_X12_boot 0 0 0 [(0, .ref m)] [] h 0 0 Q :=
  rr_boot hG O.1 O.2.g.1 (fun q h' R f => hQ y 0 h' (Or.inl ⟨q, rfl, rfl⟩) (O.up hc R) f) (fun h1 h' R f => hQ _ 1 h' (Or.inr ⟨h1, rfl, rfl⟩) ⟨R, CV_boot hc O.2 h1⟩ f)
def D7 (s σ : (Nat → Nat → Int32)) : Prop := σ 5 0 = s 5 0 ∧ ∀ t, (σ 7 t = 6 ↔ s 7 t = 6)
theorem D7.rf {s : (Nat → Nat → Int32)} : D7 s s := ⟨rfl, fun _ => Iff.rfl⟩
theorem D7.tr {s σ ς : (Nat → Nat → Int32)} (a : D7 s σ) (b : D7 σ ς) : D7 s ς := ⟨b.1.trans a.1, fun t => (b.2 t).trans (a.2 t)⟩
theorem D7.nf {s σ : (Nat → Nat → Int32)} (e5 : σ 5 = s 5) (e7 : σ 7 = s 7) : D7 s σ := ⟨by rw [e5], fun t => by rw [e7]⟩
theorem D7.u {s σ : (Nat → Nat → Int32)} {j : Nat} {v : Int32} (e5 : σ 5 = s 5) (e7 : σ 7 = u2 s 7 j v 7) (h1 : ¬ v = 6) (h2 : ¬ s 7 j = 6) : D7 s σ := ⟨by rw [e5], fun t => by
  rw [e7]
  by_cases q : t = j
  · subst q; rw [u2_ss]; exact ⟨fun x => absurd x h1, fun x => absurd x h2⟩
  · rw [u2_sn q]⟩
theorem goL_e {σ : (Nat → Nat → Int32)} {j k F : Nat} (h : F < 38) : m_goLive σ j k F = m_go0 σ j F := by
  unfold m_goLive
  split
  · rw [m_oper_ne (by omega) (by omega) (by omega) (by omega) (by omega), m_gow_ne (by omega), m_lall_ne (by omega) (by omega) (by omega) (by omega) (by omega) (by omega) (by omega) (by omega) (by omega) (by omega) (by omega) (by omega) (by omega) (by omega)]
  · rw [m_lall_ne (by omega) (by omega) (by omega) (by omega) (by omega) (by omega) (by omega) (by omega) (by omega) (by omega) (by omega) (by omega) (by omega) (by omega)]
theorem tk3_lo {σ : (Nat → Nat → Int32)} {j F : Nat} (h : F < 15) : m_tk3 σ j F = σ F := m_tk3_ne (by omega) (by omega) (by omega) (by omega) (by omega) (by omega) (by omega) (by omega) (by omega) (by omega) (by omega) (by omega) (by omega) (by omega) (by omega) (by omega)
theorem take1_D {σ : (Nat → Nat → Int32)} {j : Nat} (h7 : σ 7 j = 1 ∨ σ 7 j = 2 ∨ σ 7 j = 3) : D7 σ (m_take1 σ j) := by
  unfold m_take1
  split
  · have e : ∀ F, F < 15 → m_goLive (m_tk3 σ j) j (cl (m_tk3 σ j 38 j)) F = m_go0 (m_tk3 σ j) j F := fun F h => goL_e (by omega)
    refine D7.u (j := j) (v := 1) ?_ ?_ (by decide) (by rcases h7 with q | q | q <;> rw [q] <;> decide)
    · rw [e 5 (by omega)]; unfold m_go0; rw [u2_ne (by decide), u2_ne (by decide), u2_ne (by decide), u2_ne (by decide), tk3_lo (by omega)]
    · rw [e 7 (by omega)]; unfold m_go0; rw [u2_ne (by decide), u2_ne (by decide), u2_ne (by decide)]
      funext t
      by_cases q : t = j
      · rw [q, u2_ss, u2_ss]
      · rw [u2_sn q, u2_sn q, tk3_lo (by omega)]
  · exact D7.nf (tk3_lo (by omega)) (tk3_lo (by omega))
theorem pst_lo {σ : (Nat → Nat → Int32)} {j F : Nat} (h : F < 15) : m_pst σ j F = σ F := by
  unfold m_pst
  split
  · split
    · rw [m_sends_ne (by omega) (by omega) (by omega) (by omega), m_entry_ne (by omega) (by omega) (by omega) (by omega) (by omega) (by omega)]
    · rw [m_lall_ne (by omega) (by omega) (by omega) (by omega) (by omega) (by omega) (by omega) (by omega) (by omega) (by omega) (by omega) (by omega) (by omega) (by omega)]
  · rfl
theorem nx0_lo {S M j F : Nat} {l : Nat → Nat} {σ : (Nat → Nat → Int32)} {τ : (Nat → Nat → Int64)} (H : HI S M l σ τ j) (h : F < 15) : m_nx0 σ τ j F = σ F := by
  have e : m_stS σ τ j F = σ F := by
    unfold m_stS
    rw [u2_ne (by omega), pst_lo h]
    funext i
    exact st_7 H (Or.inl h) (by omega) (by omega)
  unfold m_nx0
  split
  · exact e
  · rw [u2_ne (by omega)]; exact e
def pRun (n : Nat) (i s : Int32) (y y' : RZ) (r : Int32) : Prop := ((¬ ∃ j N, j < n ∧ N ≤ 2000 ∧ i = nI j ∧ s = nI N) ∧ y' = y ∧ r = -1) ∨ ∃ j N, j < n ∧ N ≤ 2000 ∧ i = nI j ∧ s = nI N ∧ (((¬ (y.1 7 j = 1 ∨ y.1 7 j = 2 ∨ y.1 7 j = 3) ∨ (y.1 7 j = 1 ∧ m_frozen y.1 j = true)) ∧ y' = y ∧ r = 0) ∨ ((y.1 7 j = 1 ∨ y.1 7 j = 2 ∨ y.1 7 j = 3) ∧ ¬ (y.1 7 j = 1 ∧ m_frozen y.1 j = true) ∧ y' = (m_runl j N y.1 y.2).2 ∧ r = nI (m_runl j N y.1 y.2).1 ∧ D7 y.1 y'.1))
theorem run_D {n pg rm c j N : Nat} {s : (Nat → Nat → Int32)} (hc : c ≤ 511) (hj : j < 4) (hN : N ≤ 2000) : RunC j N (fun t σ τ => JR n pg rm c j t σ τ ∧ D7 s σ) := by
  intro t σ τ ht ⟨x, d⟩
  obtain ⟨⟨a1, a2⟩, a3⟩ := run_C hc hj t σ τ (by omega) x
  refine ⟨⟨a1, fun q => ⟨(a2 q).1, (a2 q).2, ?_⟩⟩, fun q => ?_⟩
  · obtain ⟨l, -, -, h7⟩ := x
    exact d.tr (take1_D h7)
  · obtain ⟨b1, b2, b3⟩ := a3 q
    refine ⟨b1, fun q1 q2 => ⟨b2 q1 q2, d.tr (D7.nf (u2_ne (by decide)) (u2_ne (by decide)))⟩, fun q1 q2 => ⟨(b3 q1 q2).1, (b3 q1 q2).2, ?_⟩⟩
    obtain ⟨l, inv, -, -⟩ := x
    have H := (inv.2.1 j hj).1
    exact d.tr (D7.nf (nx0_lo H (by omega)) (nx0_lo H (by omega)))
theorem rc_run {G : xG} {ro : xR} {sv : Nat → Value} (hG : x_Good G ro sv) {d m n pg rm c : Nat} {ra : Nat → Nat} {y : RZ} {h : xH} {Q : xQ} {i s : Int32} (hc : c ≤ 511) (O : OKR m ra n pg rm c y h) (hQ : ∀ y' r h', pRun n i s y y' r → OKR m ra n pg rm (c + 1) y' h' → RF m ra h h' → Q (some (.int r)) h') : G (d + 6) n_X12_run 0 0 0 [(0, .ref m), (1, .int i), (2, .int s)] [] h 0 0 Q := by
  have hn4 := O.2.g.1.2.2.2.2.2.2.1
  refine rr_runC hG O.1 O.2.g.1 (fun q h' R f => hQ y _ h' (Or.inl ⟨q, rfl, rfl⟩) (O.up hc R) f) (fun j N hj hN e1 e2 q h' R f => hQ y _ h' (Or.inr ⟨j, N, hj, hN, e1, e2, Or.inl ⟨q, rfl, rfl⟩⟩) (O.up hc R) f) (fun j N hj hN e1 e2 q1 q2 => ?_)
  have hj4 : j < 4 := by omega
  refine ⟨fun t σ τ => JR n pg rm c j t σ τ ∧ D7 y.1 σ, run_D hc hj4 hN, ⟨JR_0 O.2 hc q1, D7.rf⟩, fun h' R ⟨t, ht, x, dd⟩ f => ?_⟩
  exact hQ _ _ h' (Or.inr ⟨j, N, hj, hN, e1, e2, Or.inr ⟨q1, q2, rfl, rfl, dd⟩⟩) ⟨R, JR_e x hc hj4 (by omega)⟩ f
def pTick (n : Nat) (y y' : RZ) (r : Int32) : Prop := ((∀ j, j < n → ¬ m_isLv y.1 j) ∧ y' = y ∧ r = 0) ∨ ∃ j, j < n ∧ m_isLv y.1 j ∧ (∀ i, i < j → ¬ m_isLv y.1 i) ∧ y' = (m_comes y.1 j 2 0, m_comesT y.1 y.2 j) ∧ r = cond (m_comesR y.1 j) 1 0
theorem rc_tick {G : xG} {ro : xR} {sv : Nat → Value} (hG : x_Good G ro sv) {d m n pg rm c : Nat} {ra : Nat → Nat} {y : RZ} {h : xH} {Q : xQ} (hc : c ≤ 511) (O : OKR m ra n pg rm c y h) (hQ : ∀ y' r h', pTick n y y' r → OKR m ra n pg rm (c + 1) y' h' → RF m ra h h' → Q (some (.int r)) h') : G (d + 3) n_X12_tick 0 0 0 [(0, .ref m)] [] h 0 0 Q := by
  have hn4 := O.2.g.1.2.2.2.2.2.2.1
  refine rr_tick hG O.1 O.2.g.1 (fun q h' R f => hQ y _ h' (Or.inl ⟨q, rfl, rfl⟩) (O.up hc R) f) (fun j hj h1 h2 => ?_)
  obtain ⟨v, ok⟩ := CV_tick hc O.2 (by omega) h1
  exact ⟨ok, fun h' R f => hQ _ _ h' (Or.inr ⟨j, hj, h1, h2, rfl, rfl⟩) ⟨R, v⟩ f⟩
def pKey (n : Nat) (b : Int32) (y y' : RZ) (r : Int32) : Prop := ((∀ j, j < n → ¬ m_isLv y.1 j) ∧ y' = y ∧ r = 0) ∨ ∃ j, j < n ∧ m_isLv y.1 j ∧ (∀ i, i < j → ¬ m_isLv y.1 i) ∧ ((y.1 33 j = 16 ∧ y' = y ∧ r = 0) ∨ (¬ y.1 33 j = 16 ∧ y' = (m_comes (m_data1 y.1 b) j 0 1, m_comesT (m_data1 y.1 b) y.2 j) ∧ r = cond (m_comesR (m_data1 y.1 b) j) 1 0))
theorem nb_up {x : Int32} {a b : Nat} (h : nb x a) (q : a ≤ b) : nb x b := ⟨h.1, Nat.le_trans h.2 q⟩
theorem rc_key {G : xG} {ro : xR} {sv : Nat → Value} (hG : x_Good G ro sv) {d m n pg rm c : Nat} {ra : Nat → Nat} {y : RZ} {h : xH} {Q : xQ} {b : Int32} (hc : c ≤ 511) (O : OKR m ra n pg rm c y h) (hQ : ∀ y' r h', pKey n b y y' r → OKR m ra n pg rm (c + 1) y' h' → RF m ra h h' → Q (some (.int r)) h') : G (d + 3) n_X12_key 0 0 0 [(0, .ref m), (1, .int b)] [] h 0 0 Q := by
  have hn4 := O.2.g.1.2.2.2.2.2.2.1
  refine rr_key hG O.1 O.2.g.1 (nb_up O.2.g.2.1 (by omega)) (fun q h' R f => hQ y _ h' (Or.inl ⟨q, rfl, rfl⟩) (O.up hc R) f) (fun j hj h1 h2 => ⟨fun q h' R f => hQ y _ h' (Or.inr ⟨j, hj, h1, h2, Or.inl ⟨q, rfl, rfl⟩⟩) (O.up hc R) f, fun q => ?_⟩)
  obtain ⟨v, ok⟩ := CV_key (b := b) hc O.2 (by omega) h1 q
  exact ⟨ok, fun h' R f => hQ _ _ h' (Or.inr ⟨j, hj, h1, h2, Or.inr ⟨q, rfl, rfl⟩⟩) ⟨R, v⟩ f⟩
def pPkt (n : Nat) (w : Int32) (a b c e : Int64) (y y' : RZ) (r : Int32) : Prop := (((∀ j, j < n → ¬ m_isLv y.1 j) ∨ ¬ PkIn w) ∧ y' = y ∧ r = 0) ∨ ∃ j N, j < n ∧ m_isLv y.1 j ∧ (∀ i, i < j → ¬ m_isLv y.1 i) ∧ 1 ≤ N ∧ N ≤ 32 ∧ w = nI N ∧ ((y.1 35 j = 4 ∧ y' = y ∧ r = 0) ∨ (¬ y.1 35 j = 4 ∧ y' = (m_comes (m_pkl y.1 (cl (y.1 50 0)) a b c e N) j 1 N, m_comesT (m_pkl y.1 (cl (y.1 50 0)) a b c e N) y.2 j) ∧ r = cond (m_comesR (m_pkl y.1 (cl (y.1 50 0)) a b c e N) j) 1 0))
theorem rc_packet {G : xG} {ro : xR} {sv : Nat → Value} (hG : x_Good G ro sv) {dd m n pg rm c : Nat} {ra : Nat → Nat} {y : RZ} {h : xH} {Q : xQ} {w : Int32} {a b e g : Int64} (hc : c ≤ 511) (O : OKR m ra n pg rm c y h) (hQ : ∀ y' r h', pPkt n w a b e g y y' r → OKR m ra n pg rm (c + 1) y' h' → RF m ra h h' → Q (some (.int r)) h') : G (dd + 3) n_X12_packet 0 0 0 [(0, .ref m), (1, .int w), (2, .long a), (4, .long b), (6, .long e), (8, .long g)] [] h 0 0 Q := by
  have hn4 := O.2.g.1.2.2.2.2.2.2.1
  refine rr_packet hG O.1 O.2.g.1 (nb_up O.2.g.2.1 (by omega)) (fun q h' R f => hQ y _ h' (Or.inl ⟨q, rfl, rfl⟩) (O.up hc R) f) (fun j N hj h1 h2 n1 n2 n3 => ⟨fun q h' R f => hQ y _ h' (Or.inr ⟨j, N, hj, h1, h2, n1, n2, n3, Or.inl ⟨q, rfl, rfl⟩⟩) (O.up hc R) f, fun q => ?_⟩)
  obtain ⟨v, ok⟩ := CV_packet (a := a) (b := b) (d := e) (e := g) hc O.2 (by omega) h1 n2 q
  exact ⟨ok, fun h' R f => hQ _ _ h' (Or.inr ⟨j, N, hj, h1, h2, n1, n2, n3, Or.inr ⟨q, rfl, rfl⟩⟩) ⟨R, v⟩ f⟩
def pDisk (y y' : RZ) (r : Int32) : Prop := (cl (y.1 65 0) = cl (y.1 66 0) ∧ y' = y ∧ r = 0) ∨ (cl (y.1 65 0) < cl (y.1 66 0) ∧ ∃ j B, j < 4 ∧ B < 8 ∧ y.1 67 (cl (y.1 65 0)) = nI j ∧ y.1 70 (cl (y.1 65 0)) = nI B ∧ ((m_hears y.1 (cl (y.1 65 0)) j = true ∧ ¬ y.1 11 j = 0 ∧ y.1 3 0 ≤ y.1 55 j ∧ y' = y ∧ r = 0) ∨ (m_hears y.1 (cl (y.1 65 0)) j = false ∧ y' = (m_dk1 y.1 (cl (y.1 65 0)) B, y.2) ∧ r = 1) ∨ (m_hears y.1 (cl (y.1 65 0)) j = true ∧ ¬ (¬ y.1 11 j = 0 ∧ y.1 3 0 ≤ y.1 55 j) ∧ y' = (m_comes (m_dk2 y.1 (cl (y.1 65 0)) B) j 3 (m_dkn y.1 (cl (y.1 65 0))), m_comesT (m_dk2 y.1 (cl (y.1 65 0)) B) y.2 j) ∧ r = cond (m_comesR (m_dk2 y.1 (cl (y.1 65 0)) B) j) 1 0)))
theorem rc_disk {G : xG} {ro : xR} {sv : Nat → Value} (hG : x_Good G ro sv) {d m n pg rm c : Nat} {ra : Nat → Nat} {y : RZ} {h : xH} {Q : xQ} (hc : c ≤ 511) (O : OKR m ra n pg rm c y h) (hQ : ∀ y' r h', pDisk y y' r → OKR m ra n pg rm (c + 1) y' h' → RF m ra h h' → Q (some (.int r)) h') : G (d + 3) n_X12_disk 0 0 0 [(0, .ref m)] [] h 0 0 Q := by
  obtain ⟨g1, g2, g3, g4, g5, g6, g7⟩ := O.2.g
  refine rr_disk hG O.1 g1 g5.1 g6.1 g5.2 (by have := g6.2; omega) (nb_up g2 (by omega)) (fun q h' R f => hQ y _ h' (Or.inl ⟨q, rfl, rfl⟩) (O.up hc R) f) (fun q => ?_)
  obtain ⟨j, B, hj, hB, e1, e2, v1, v2⟩ := CV_disk hc O.2 rfl q
  refine ⟨j, B, hj, hB, e1, e2, fun a1 a2 a3 h' R f => hQ y _ h' (Or.inr ⟨q, j, B, hj, hB, e1, e2, Or.inl ⟨a1, a2, a3, rfl, rfl⟩⟩) (O.up hc R) f, fun a1 h' R f => hQ _ _ h' (Or.inr ⟨q, j, B, hj, hB, e1, e2, Or.inr (Or.inl ⟨a1, rfl, rfl⟩)⟩) ⟨R, v1⟩ f, fun a1 a2 => ⟨(v2 a1).2, fun h' R f => hQ _ _ h' (Or.inr ⟨q, j, B, hj, hB, e1, e2, Or.inr (Or.inr ⟨a1, a2, rfl, rfl⟩)⟩) ⟨R, (v2 a1).1⟩ f⟩⟩
def pDlv (n : Nat) (y y' : RZ) (r : Int32) : Prop := ((∀ b l, b < n → l < 4 → ¬ DvAt y.1 b l) ∧ y' = y ∧ r = 0) ∨ ∃ b l, b < n ∧ l < 4 ∧ DvAt y.1 b l ∧ (∀ b' l', b' < b → l' < 4 → ¬ DvAt y.1 b' l') ∧ y' = (m_dlv y.1 b l, y.2) ∧ r = 1
theorem rc_deliver {G : xG} {ro : xR} {sv : Nat → Value} (hG : x_Good G ro sv) {d m n pg rm c : Nat} {ra : Nat → Nat} {y : RZ} {h : xH} {Q : xQ} (hc : c ≤ 511) (O : OKR m ra n pg rm c y h) (hQ : ∀ y' r h', pDlv n y y' r → OKR m ra n pg rm (c + 1) y' h' → RF m ra h h' → Q (some (.int r)) h') : G (d + 1) n_X12_deliver 0 0 0 [(0, .ref m)] [] h 0 0 Q := by
  obtain ⟨g1, g2, g3, g4, g5, g6, g7⟩ := O.2.g
  have hn4 := g1.2.2.2.2.2.2.1
  refine rr_deliver hG O.1 g1 g4 (fun q h' R f => hQ y _ h' (Or.inl ⟨q, rfl, rfl⟩) (O.up hc R) f) (fun b l hb hl a1 a2 => ?_)
  obtain ⟨v, w1, w2⟩ := CV_dlv hc O.2 (by omega) hl a1
  exact ⟨w1, w2, fun h' R f => hQ _ _ h' (Or.inr ⟨b, l, hb, hl, a1, a2, rfl, rfl⟩) ⟨R, v⟩ f⟩
def pAck (n : Nat) (y y' : RZ) (r : Int32) : Prop := ((∀ j, j < n → ¬ AkAt y.1 j) ∧ y' = y ∧ r = 0) ∨ ∃ j, j < n ∧ AkAt y.1 j ∧ (∀ i, i < j → ¬ AkAt y.1 i) ∧ y' = (m_ack y.1 j, y.2) ∧ r = 1
theorem rc_ack {G : xG} {ro : xR} {sv : Nat → Value} (hG : x_Good G ro sv) {d m n pg rm c : Nat} {ra : Nat → Nat} {y : RZ} {h : xH} {Q : xQ} (hc : c ≤ 511) (O : OKR m ra n pg rm c y h) (hQ : ∀ y' r h', pAck n y y' r → OKR m ra n pg rm (c + 1) y' h' → RF m ra h h' → Q (some (.int r)) h') : G (d + 2) n_X12_ack 0 0 0 [(0, .ref m)] [] h 0 0 Q := by
  have g1 := O.2.g.1
  have hn4 := g1.2.2.2.2.2.2.1
  refine rr_ack hG O.1 g1 (fun q h' R f => hQ y _ h' (Or.inl ⟨q, rfl, rfl⟩) (O.up hc R) f) (fun j hj a1 a2 => ?_)
  obtain ⟨v, ok⟩ := CV_ack hc O.2 (by omega) a1
  exact ⟨ok, fun h' R f => hQ _ _ h' (Or.inr ⟨j, hj, a1, a2, rfl, rfl⟩) ⟨R, v⟩ f⟩
