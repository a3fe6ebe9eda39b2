theorem r_thr {m : Nat} {ra : Nat → Nat} {σ : Nat → Nat → Int32} {τ : Nat → Nat → Int64} {h h' : xH} (hR : RepR m ra σ τ h) (h0 : σ 0 0 = 0) (e : h' = x_up h m (.inr (12, (r_ob (r_F σ ra)).set 0 (.int 0)))) : RepR m ra σ τ h' := by
  obtain ⟨a1, a2, a3, a4⟩ := hR
  have hF : va_up (r_F σ ra) 0 (.int 0) = r_F σ ra := by
    funext j
    by_cases hj : j = 0
    · subst hj
      rw [va_up_self]
      show Value.int 0 = Value.int (σ 0 0)
      rw [h0]
    · rw [va_up_ne _ _ hj]
  refine ⟨by rw [e, x_up_self, r_ob_set, hF], fun k hk => ?_, a3, a4⟩
  rw [e, x_up_ne (a3 k hk)]
  exact a2 k hk
abbrev r_0 (n pg rm : Nat) : Nat → Nat → Int32 := r_s0 (nI n) (nI pg) (nI rm)
abbrev r_t0 : Nat → Nat → Int64 := fun _ _ => 0
theorem s_isHost {G : xG} {ro : xR} {sv : Nat → Value} (hG : x_Good G ro sv) {d m n pg rm : Nat} {ra : Nat → Nat} {h : xH} {Q : xQ} {i : Int32} (hR : RepR m ra (r_0 n pg rm) r_t0 h) (hQ1 : (i < 0 ∨ nI n ≤ i) → Q (some (.int 0)) h) (hQ2 : ¬ (i < 0 ∨ nI n ≤ i) → Q (some (.int 1)) h) : G d n_X12_isHost 0 0 0 [(0, .ref m), (1, .int i)] [] h 0 0 Q := by
  repeat refine hG _ _ _ _ _ _ _ _ _ _ _ ?_
  refine ⟨fun hc => ?_, fun hc => ?_⟩
  · repeat refine hG _ _ _ _ _ _ _ _ _ _ _ ?_
    exact ⟨rfl, by decide, by decide, hQ1 (Or.inl hc)⟩
  · repeat refine hG _ _ _ _ _ _ _ _ _ _ _ ?_
    refine ⟨_, _, hR.1, r_at (by decide), ?_⟩
    repeat refine hG _ _ _ _ _ _ _ _ _ _ _ ?_
    refine ⟨fun hc2 => ?_, fun hc2 => ?_⟩
    · repeat refine hG _ _ _ _ _ _ _ _ _ _ _ ?_
      exact ⟨rfl, by decide, by decide, hQ1 (Or.inr hc2)⟩
    · repeat refine hG _ _ _ _ _ _ _ _ _ _ _ ?_
      exact ⟨rfl, by decide, by decide, hQ2 (fun q => q.elim hc hc2)⟩
theorem r_ix {n : Nat} {i : Int32} (hn : n ≤ 4) (h : ¬ (i < 0 ∨ nI n ≤ i)) : ∃ j : Nat, j < n ∧ i = nI j := by
  rcases pk_ix i (n := n) (by omega) with q | q | q
  · exact absurd (Or.inl q) h
  · exact absurd (Or.inr q) h
  · exact q
theorem s_run {G : xG} {ro : xR} {sv : Nat → Value} (hG : x_Good G ro sv) {d m n pg rm : Nat} {ra : Nat → Nat} {h : xH} {Q : xQ} {i s : Int32} (hn : n ≤ 4) (hR : RepR m ra (r_0 n pg rm) r_t0 h) (hQ : ∀ h', Q (some (.int (v_run n i s))) h') : G (d + 1) n_X12_run 0 0 0 [(0, .ref m), (1, .int i), (2, .int s)] [] h 0 0 Q := by
  repeat refine hG _ _ _ _ _ _ _ _ _ _ _ ?_
  refine ⟨_, hR.1, r_obl (by decide), rfl, rfl, ?_⟩
  rintro h1 e1
  have hR := r_thr hR rfl e1
  have bad : ∀ (hw : (i < 0 ∨ nI n ≤ i) ∨ s < 0 ∨ 2000 < s), G (d + 1) n_X12_run 0 0 24 [(0, .ref m), (1, .int i), (2, .int s)] [] h1 0 0 Q := by
    intro hw
    have hQ := hQ h1
    rw [v_run, if_pos hw] at hQ
    repeat refine hG _ _ _ _ _ _ _ _ _ _ _ ?_
    exact ⟨rfl, by decide, by decide, hQ⟩
  repeat refine hG _ _ _ _ _ _ _ _ _ _ _ ?_
  refine ⟨⟨_, hR.1⟩, 0, 0, by decide, by decide, s_isHost hG hR (fun hq => ?_) (fun hq => ?_)⟩
  · repeat refine hG _ _ _ _ _ _ _ _ _ _ _ ?_
    refine ⟨fun _ => bad (Or.inl hq), fun hc => absurd rfl hc⟩
  · repeat refine hG _ _ _ _ _ _ _ _ _ _ _ ?_
    refine ⟨fun hc => absurd hc (by decide), fun _ => ?_⟩
    repeat refine hG _ _ _ _ _ _ _ _ _ _ _ ?_
    refine ⟨fun hc => bad (Or.inr (Or.inl hc)), fun hs0 => ?_⟩
    repeat refine hG _ _ _ _ _ _ _ _ _ _ _ ?_
    refine ⟨fun hs1 => ?_, fun hc => bad (Or.inr (Or.inr (Int32.not_le.mp hc)))⟩
    have hQ1 := hQ h1
    rw [v_run, if_neg (fun q => q.elim hq (fun q => q.elim hs0 (Int32.not_lt.mpr hs1)))] at hQ1
    obtain ⟨j, hj, rfl⟩ := r_ix hn hq
    have hin : vp_in (nI j) 4 := vp_in_nI (by omega) (by decide)
    repeat refine hG _ _ _ _ _ _ _ _ _ _ _ ?_
    refine ⟨_, _, hR.1, r_at (by decide), ?_⟩
    repeat refine hG _ _ _ _ _ _ _ _ _ _ _ ?_
    refine ⟨_, _, Or.inl ⟨_, hR.2.1 7 rfl, rfl⟩, hin, ?_⟩
    repeat refine hG _ _ _ _ _ _ _ _ _ _ _ ?_
    refine ⟨fun hc => absurd (show (0 : Int32) = 1 from hc) (by decide), fun _ => ?_⟩
    repeat refine hG _ _ _ _ _ _ _ _ _ _ _ ?_
    refine ⟨_, _, hR.1, r_at (by decide), ?_⟩
    repeat refine hG _ _ _ _ _ _ _ _ _ _ _ ?_
    refine ⟨_, _, Or.inl ⟨_, hR.2.1 7 rfl, rfl⟩, hin, ?_⟩
    repeat refine hG _ _ _ _ _ _ _ _ _ _ _ ?_
    refine ⟨fun hc => absurd (show (0 : Int32) = 2 from hc) (by decide), fun _ => ?_⟩
    repeat refine hG _ _ _ _ _ _ _ _ _ _ _ ?_
    refine ⟨_, _, hR.1, r_at (by decide), ?_⟩
    repeat refine hG _ _ _ _ _ _ _ _ _ _ _ ?_
    refine ⟨_, _, Or.inl ⟨_, hR.2.1 7 rfl, rfl⟩, hin, ?_⟩
    repeat refine hG _ _ _ _ _ _ _ _ _ _ _ ?_
    refine ⟨fun hc => absurd (show (0 : Int32) = 3 from hc) (by decide), fun _ => ?_⟩
    repeat refine hG _ _ _ _ _ _ _ _ _ _ _ ?_
    exact ⟨rfl, by decide, by decide, hQ1⟩
theorem s_liveL {G : xG} {ro : xR} {sv : Nat → Value} (hG : x_Good G ro sv) {d m n pg rm : Nat} {ra : Nat → Nat} {h : xH} {Q : xQ} (hn : n ≤ 4) (hR : RepR m ra (r_0 n pg rm) r_t0 h) (hQ : Q (some (.int (-1))) h) : ∀ t k : Nat, k + t = n → G d n_X12_live 0 0 2 [(1, .int (nI k)), (0, .ref m)] [] h 0 0 Q := by
  intro t
  induction t with
  | zero =>
    intro k hk
    have hkn : k = n := by omega
    subst hkn
    repeat refine hG _ _ _ _ _ _ _ _ _ _ _ ?_
    refine ⟨_, _, hR.1, r_at (by decide), ?_⟩
    repeat refine hG _ _ _ _ _ _ _ _ _ _ _ ?_
    refine ⟨fun _ => ?_, fun hc => absurd (show nI k ≤ nI k from Int32.le_refl _) hc⟩
    repeat refine hG _ _ _ _ _ _ _ _ _ _ _ ?_
    exact ⟨rfl, by decide, by decide, hQ⟩
  | succ t ih =>
    intro k hk
    repeat refine hG _ _ _ _ _ _ _ _ _ _ _ ?_
    refine ⟨_, _, hR.1, r_at (by decide), ?_⟩
    repeat refine hG _ _ _ _ _ _ _ _ _ _ _ ?_
    refine ⟨fun hc => absurd (show nI n ≤ nI k from hc) (nI_ge (by omega) (by omega)), fun _ => ?_⟩
    repeat refine hG _ _ _ _ _ _ _ _ _ _ _ ?_
    refine ⟨_, _, hR.1, r_at (by decide), ?_⟩
    repeat refine hG _ _ _ _ _ _ _ _ _ _ _ ?_
    refine ⟨_, _, Or.inl ⟨_, hR.2.1 7 rfl, rfl⟩, (show vp_in (nI k) 4 from vp_in_nI (by omega) (by decide)), ?_⟩
    repeat refine hG _ _ _ _ _ _ _ _ _ _ _ ?_
    refine ⟨fun _ => ?_, fun hc => absurd (show (0 : Int32) = 1 from hc) (by decide)⟩
    refine hG _ _ _ _ _ _ _ _ _ _ _ ?_
    refine hG _ _ _ _ _ _ _ _ _ _ _ ?_
    have ih1 := ih (k + 1) (by omega)
    rw [nI_succ] at ih1
    exact ih1
theorem s_live {G : xG} {ro : xR} {sv : Nat → Value} (hG : x_Good G ro sv) {d m n pg rm : Nat} {ra : Nat → Nat} {h : xH} {Q : xQ} (hn : n ≤ 4) (hR : RepR m ra (r_0 n pg rm) r_t0 h) (hQ : Q (some (.int (-1))) h) : G d n_X12_live 0 0 0 [(0, .ref m)] [] h 0 0 Q := by
  refine hG _ _ _ _ _ _ _ _ _ _ _ ?_
  refine hG _ _ _ _ _ _ _ _ _ _ _ ?_
  exact s_liveL hG hn hR hQ n 0 (by omega)
theorem s_key {G : xG} {ro : xR} {sv : Nat → Value} (hG : x_Good G ro sv) {d m n pg rm : Nat} {ra : Nat → Nat} {h : xH} {Q : xQ} {i : Int32} (hn : n ≤ 4) (hR : RepR m ra (r_0 n pg rm) r_t0 h) (hQ : ∀ h', Q (some (.int 0)) h') : G (d + 1) n_X12_key 0 0 0 [(0, .ref m), (1, .int i)] [] h 0 0 Q := by
  repeat refine hG _ _ _ _ _ _ _ _ _ _ _ ?_
  refine ⟨_, hR.1, r_obl (by decide), rfl, rfl, ?_⟩
  rintro h1 e1
  have hR := r_thr hR rfl e1
  repeat refine hG _ _ _ _ _ _ _ _ _ _ _ ?_
  refine ⟨⟨_, hR.1⟩, 0, 0, by decide, by decide, s_live hG hn hR ?_⟩
  repeat refine hG _ _ _ _ _ _ _ _ _ _ _ ?_
  refine ⟨fun _ => ?_, fun hc => absurd rfl hc⟩
  repeat refine hG _ _ _ _ _ _ _ _ _ _ _ ?_
  exact ⟨rfl, by decide, by decide, hQ h1⟩
theorem s_packet {G : xG} {ro : xR} {sv : Nat → Value} (hG : x_Good G ro sv) {d m n pg rm : Nat} {ra : Nat → Nat} {h : xH} {Q : xQ} {i : Int32} {l1 l2 l3 l4 : Int64} (hn : n ≤ 4) (hR : RepR m ra (r_0 n pg rm) r_t0 h) (hQ : ∀ h', Q (some (.int 0)) h') : G (d + 1) n_X12_packet 0 0 0 [(0, .ref m), (1, .int i), (2, .long l1), (4, .long l2), (6, .long l3), (8, .long l4)] [] h 0 0 Q := by
  repeat refine hG _ _ _ _ _ _ _ _ _ _ _ ?_
  refine ⟨_, hR.1, r_obl (by decide), rfl, rfl, ?_⟩
  rintro h1 e1
  have hR := r_thr hR rfl e1
  repeat refine hG _ _ _ _ _ _ _ _ _ _ _ ?_
  refine ⟨⟨_, hR.1⟩, 0, 0, by decide, by decide, s_live hG hn hR ?_⟩
  repeat refine hG _ _ _ _ _ _ _ _ _ _ _ ?_
  refine ⟨fun _ => ?_, fun hc => absurd rfl hc⟩
  repeat refine hG _ _ _ _ _ _ _ _ _ _ _ ?_
  exact ⟨rfl, by decide, by decide, hQ h1⟩
theorem s_tick {G : xG} {ro : xR} {sv : Nat → Value} (hG : x_Good G ro sv) {d m n pg rm : Nat} {ra : Nat → Nat} {h : xH} {Q : xQ} (hn : n ≤ 4) (hR : RepR m ra (r_0 n pg rm) r_t0 h) (hQ : ∀ h', Q (some (.int 0)) h') : G (d + 1) n_X12_tick 0 0 0 [(0, .ref m)] [] h 0 0 Q := by
  repeat refine hG _ _ _ _ _ _ _ _ _ _ _ ?_
  refine ⟨_, hR.1, r_obl (by decide), rfl, rfl, ?_⟩
  rintro h1 e1
  have hR := r_thr hR rfl e1
  repeat refine hG _ _ _ _ _ _ _ _ _ _ _ ?_
  refine ⟨⟨_, hR.1⟩, 0, 0, by decide, by decide, s_live hG hn hR ?_⟩
  repeat refine hG _ _ _ _ _ _ _ _ _ _ _ ?_
  refine ⟨fun _ => ?_, fun hc => absurd rfl hc⟩
  repeat refine hG _ _ _ _ _ _ _ _ _ _ _ ?_
  exact ⟨rfl, by decide, by decide, hQ h1⟩
theorem s_disk {G : xG} {ro : xR} {sv : Nat → Value} (hG : x_Good G ro sv) {d m n pg rm : Nat} {ra : Nat → Nat} {h : xH} {Q : xQ} (hR : RepR m ra (r_0 n pg rm) r_t0 h) (hQ : ∀ h', Q (some (.int 0)) h') : G d n_X12_disk 0 0 0 [(0, .ref m)] [] h 0 0 Q := by
  repeat refine hG _ _ _ _ _ _ _ _ _ _ _ ?_
  refine ⟨_, hR.1, r_obl (by decide), rfl, rfl, ?_⟩
  rintro h1 e1
  have hR := r_thr hR rfl e1
  repeat refine hG _ _ _ _ _ _ _ _ _ _ _ ?_
  refine ⟨_, _, hR.1, r_at (by decide), ?_⟩
  repeat refine hG _ _ _ _ _ _ _ _ _ _ _ ?_
  refine ⟨_, _, hR.1, r_at (by decide), ?_⟩
  repeat refine hG _ _ _ _ _ _ _ _ _ _ _ ?_
  refine ⟨fun hc => absurd rfl hc, fun _ => ?_⟩
  repeat refine hG _ _ _ _ _ _ _ _ _ _ _ ?_
  exact ⟨rfl, by decide, by decide, hQ h1⟩
theorem s_deliverL {G : xG} {ro : xR} {sv : Nat → Value} (hG : x_Good G ro sv) {d m n pg rm : Nat} {ra : Nat → Nat} {h : xH} {Q : xQ} (hn : n ≤ 4) (hR : RepR m ra (r_0 n pg rm) r_t0 h) (hQ : Q (some (.int 0)) h) : ∀ t k : Nat, k + t = n → ∀ lv : xL, lv = [(1, .int (nI k)), (0, .ref m)] ∨ lv = [(1, .int (nI k)), (2, .int (-1)), (0, .ref m)] → G d n_X12_deliver 0 0 7 lv [] h 0 0 Q := by
  intro t
  induction t with
  | zero =>
    intro k hk lv hlv
    have hkn : k = n := by omega
    subst hkn
    rcases hlv with rfl | rfl
    all_goals
      repeat refine hG _ _ _ _ _ _ _ _ _ _ _ ?_
      refine ⟨_, _, hR.1, r_at (by decide), ?_⟩
      repeat refine hG _ _ _ _ _ _ _ _ _ _ _ ?_
      refine ⟨fun _ => ?_, fun hc => absurd (show nI k ≤ nI k from Int32.le_refl _) hc⟩
      repeat refine hG _ _ _ _ _ _ _ _ _ _ _ ?_
      exact ⟨rfl, by decide, by decide, hQ⟩
  | succ t ih =>
    intro k hk lv hlv
    have ih1 := ih (k + 1) (by omega) _ (Or.inr rfl)
    rw [nI_succ] at ih1
    rcases hlv with rfl | rfl
    all_goals
      repeat refine hG _ _ _ _ _ _ _ _ _ _ _ ?_
      refine ⟨_, _, hR.1, r_at (by decide), ?_⟩
      repeat refine hG _ _ _ _ _ _ _ _ _ _ _ ?_
      refine ⟨fun hc => absurd (show nI n ≤ nI k from hc) (nI_ge (by omega) (by omega)), fun _ => ?_⟩
      repeat refine hG _ _ _ _ _ _ _ _ _ _ _ ?_
      refine ⟨_, _, hR.1, r_at (by decide), ?_⟩
      repeat refine hG _ _ _ _ _ _ _ _ _ _ _ ?_
      refine ⟨_, _, Or.inl ⟨_, hR.2.1 7 rfl, rfl⟩, (show vp_in (nI k) 4 from vp_in_nI (by omega) (by decide)), ?_⟩
      repeat refine hG _ _ _ _ _ _ _ _ _ _ _ ?_
      refine ⟨fun _ => ?_, fun hc => absurd (show (0 : Int32) = 2 from hc) (by decide)⟩
      repeat refine hG _ _ _ _ _ _ _ _ _ _ _ ?_
      refine ⟨fun _ => ?_, fun hc => absurd rfl hc⟩
      refine hG _ _ _ _ _ _ _ _ _ _ _ ?_
      refine hG _ _ _ _ _ _ _ _ _ _ _ ?_
      exact ih1
theorem s_deliver {G : xG} {ro : xR} {sv : Nat → Value} (hG : x_Good G ro sv) {d m n pg rm : Nat} {ra : Nat → Nat} {h : xH} {Q : xQ} (hn : n ≤ 4) (hR : RepR m ra (r_0 n pg rm) r_t0 h) (hQ : ∀ h', Q (some (.int 0)) h') : G d n_X12_deliver 0 0 0 [(0, .ref m)] [] h 0 0 Q := by
  repeat refine hG _ _ _ _ _ _ _ _ _ _ _ ?_
  refine ⟨_, hR.1, r_obl (by decide), rfl, rfl, ?_⟩
  rintro h1 e1
  have hR := r_thr hR rfl e1
  refine hG _ _ _ _ _ _ _ _ _ _ _ ?_
  refine hG _ _ _ _ _ _ _ _ _ _ _ ?_
  exact s_deliverL hG hn hR (hQ h1) n 0 (by omega) _ (Or.inl rfl)
theorem s_ackL {G : xG} {ro : xR} {sv : Nat → Value} (hG : x_Good G ro sv) {d m n pg rm : Nat} {ra : Nat → Nat} {h : xH} {Q : xQ} (hn : n ≤ 4) (hR : RepR m ra (r_0 n pg rm) r_t0 h) (hQ : Q (some (.int 0)) h) : ∀ t k : Nat, k + t = n → G d n_X12_ack 0 0 7 [(1, .int (nI k)), (0, .ref m)] [] h 0 0 Q := by
  intro t
  induction t with
  | zero =>
    intro k hk
    have hkn : k = n := by omega
    subst hkn
    repeat refine hG _ _ _ _ _ _ _ _ _ _ _ ?_
    refine ⟨_, _, hR.1, r_at (by decide), ?_⟩
    repeat refine hG _ _ _ _ _ _ _ _ _ _ _ ?_
    refine ⟨fun _ => ?_, fun hc => absurd (show nI k ≤ nI k from Int32.le_refl _) hc⟩
    repeat refine hG _ _ _ _ _ _ _ _ _ _ _ ?_
    exact ⟨rfl, by decide, by decide, hQ⟩
  | succ t ih =>
    intro k hk
    repeat refine hG _ _ _ _ _ _ _ _ _ _ _ ?_
    refine ⟨_, _, hR.1, r_at (by decide), ?_⟩
    repeat refine hG _ _ _ _ _ _ _ _ _ _ _ ?_
    refine ⟨fun hc => absurd (show nI n ≤ nI k from hc) (nI_ge (by omega) (by omega)), fun _ => ?_⟩
    repeat refine hG _ _ _ _ _ _ _ _ _ _ _ ?_
    refine ⟨_, _, hR.1, r_at (by decide), ?_⟩
    repeat refine hG _ _ _ _ _ _ _ _ _ _ _ ?_
    refine ⟨_, _, Or.inl ⟨_, hR.2.1 7 rfl, rfl⟩, (show vp_in (nI k) 4 from vp_in_nI (by omega) (by decide)), ?_⟩
    repeat refine hG _ _ _ _ _ _ _ _ _ _ _ ?_
    refine ⟨fun _ => ?_, fun hc => absurd (show (0 : Int32) = 1 from hc) (by decide)⟩
    refine hG _ _ _ _ _ _ _ _ _ _ _ ?_
    refine hG _ _ _ _ _ _ _ _ _ _ _ ?_
    have ih1 := ih (k + 1) (by omega)
    rw [nI_succ] at ih1
    exact ih1
theorem s_ack {G : xG} {ro : xR} {sv : Nat → Value} (hG : x_Good G ro sv) {d m n pg rm : Nat} {ra : Nat → Nat} {h : xH} {Q : xQ} (hn : n ≤ 4) (hR : RepR m ra (r_0 n pg rm) r_t0 h) (hQ : ∀ h', Q (some (.int 0)) h') : G d n_X12_ack 0 0 0 [(0, .ref m)] [] h 0 0 Q := by
  repeat refine hG _ _ _ _ _ _ _ _ _ _ _ ?_
  refine ⟨_, hR.1, r_obl (by decide), rfl, rfl, ?_⟩
  rintro h1 e1
  have hR := r_thr hR rfl e1
  refine hG _ _ _ _ _ _ _ _ _ _ _ ?_
  refine hG _ _ _ _ _ _ _ _ _ _ _ ?_
  exact s_ackL hG hn hR (hQ h1) n 0 (by omega)
theorem s_suspect {G : xG} {ro : xR} {sv : Nat → Value} (hG : x_Good G ro sv) {d m n pg rm : Nat} {ra : Nat → Nat} {h : xH} {Q : xQ} {i : Int32} (hn : n ≤ 4) (hR : RepR m ra (r_0 n pg rm) r_t0 h) (hQ : ∀ h', Q (some (.int 0)) h') : G (d + 1) n_X12_suspect 0 0 0 [(0, .ref m), (1, .int i)] [] h 0 0 Q := by
  repeat refine hG _ _ _ _ _ _ _ _ _ _ _ ?_
  refine ⟨_, hR.1, r_obl (by decide), rfl, rfl, ?_⟩
  rintro h1 e1
  have hR := r_thr hR rfl e1
  repeat refine hG _ _ _ _ _ _ _ _ _ _ _ ?_
  refine ⟨⟨_, hR.1⟩, 0, 0, by decide, by decide, s_isHost hG hR (fun hq => ?_) (fun hq => ?_)⟩
  · repeat refine hG _ _ _ _ _ _ _ _ _ _ _ ?_
    refine ⟨fun hc => absurd rfl hc, fun _ => ?_⟩
    repeat refine hG _ _ _ _ _ _ _ _ _ _ _ ?_
    exact ⟨rfl, by decide, by decide, hQ h1⟩
  · obtain ⟨j, hj, rfl⟩ := r_ix hn hq
    have hin : vp_in (nI j) 4 := vp_in_nI (by omega) (by decide)
    repeat refine hG _ _ _ _ _ _ _ _ _ _ _ ?_
    refine ⟨fun _ => ?_, fun hc => absurd hc (by decide)⟩
    repeat refine hG _ _ _ _ _ _ _ _ _ _ _ ?_
    refine ⟨_, _, hR.1, r_at (by decide), ?_⟩
    repeat refine hG _ _ _ _ _ _ _ _ _ _ _ ?_
    refine ⟨_, _, Or.inl ⟨_, hR.2.1 7 rfl, rfl⟩, hin, ?_⟩
    repeat refine hG _ _ _ _ _ _ _ _ _ _ _ ?_
    refine ⟨fun _ => ?_, fun hc => absurd (show (0 : Int32) = 1 from hc) (by decide)⟩
    repeat refine hG _ _ _ _ _ _ _ _ _ _ _ ?_
    refine ⟨fun hc => absurd rfl hc, fun _ => ?_⟩
    repeat refine hG _ _ _ _ _ _ _ _ _ _ _ ?_
    refine ⟨_, _, hR.1, r_at (by decide), ?_⟩
    repeat refine hG _ _ _ _ _ _ _ _ _ _ _ ?_
    refine ⟨_, _, Or.inl ⟨_, hR.2.1 7 rfl, rfl⟩, hin, ?_⟩
    repeat refine hG _ _ _ _ _ _ _ _ _ _ _ ?_
    refine ⟨fun hc => absurd (show (0 : Int32) = 2 from hc) (by decide), fun _ => ?_⟩
    repeat refine hG _ _ _ _ _ _ _ _ _ _ _ ?_
    exact ⟨rfl, by decide, by decide, hQ h1⟩
theorem s_transfer {G : xG} {ro : xR} {sv : Nat → Value} (hG : x_Good G ro sv) {d m n pg rm : Nat} {ra : Nat → Nat} {h : xH} {Q : xQ} (hR : RepR m ra (r_0 n pg rm) r_t0 h) (hQ : ∀ h', Q (some (.int (-1))) h') : G d n_X12_transfer 0 0 0 [(0, .ref m)] [] h 0 0 Q := by
  repeat refine hG _ _ _ _ _ _ _ _ _ _ _ ?_
  refine ⟨_, hR.1, r_obl (by decide), rfl, rfl, ?_⟩
  rintro h1 e1
  have hR := r_thr hR rfl e1
  repeat refine hG _ _ _ _ _ _ _ _ _ _ _ ?_
  refine ⟨_, _, hR.1, r_at (by decide), ?_⟩
  repeat refine hG _ _ _ _ _ _ _ _ _ _ _ ?_
  refine ⟨fun hc => absurd rfl hc, fun _ => ?_⟩
  repeat refine hG _ _ _ _ _ _ _ _ _ _ _ ?_
  exact ⟨rfl, by decide, by decide, hQ h1⟩
theorem s_repair {G : xG} {ro : xR} {sv : Nat → Value} (hG : x_Good G ro sv) {d m n pg rm : Nat} {ra : Nat → Nat} {h : xH} {Q : xQ} {i : Int32} (hn : n ≤ 4) (hR : RepR m ra (r_0 n pg rm) r_t0 h) (hQ : ∀ h', Q (some (.int 0)) h') : G (d + 1) n_X12_repair 0 0 0 [(0, .ref m), (1, .int i)] [] h 0 0 Q := by
  repeat refine hG _ _ _ _ _ _ _ _ _ _ _ ?_
  refine ⟨_, hR.1, r_obl (by decide), rfl, rfl, ?_⟩
  rintro h1 e1
  have hR := r_thr hR rfl e1
  repeat refine hG _ _ _ _ _ _ _ _ _ _ _ ?_
  refine ⟨⟨_, hR.1⟩, 0, 0, by decide, by decide, s_isHost hG hR (fun hq => ?_) (fun hq => ?_)⟩
  · repeat refine hG _ _ _ _ _ _ _ _ _ _ _ ?_
    refine ⟨fun _ => ?_, fun hc => absurd rfl hc⟩
    repeat refine hG _ _ _ _ _ _ _ _ _ _ _ ?_
    exact ⟨rfl, by decide, by decide, hQ h1⟩
  · obtain ⟨j, hj, rfl⟩ := r_ix hn hq
    have hin : vp_in (nI j) 4 := vp_in_nI (by omega) (by decide)
    repeat refine hG _ _ _ _ _ _ _ _ _ _ _ ?_
    refine ⟨fun hc => absurd hc (by decide), fun _ => ?_⟩
    repeat refine hG _ _ _ _ _ _ _ _ _ _ _ ?_
    refine ⟨_, _, hR.1, r_at (by decide), ?_⟩
    repeat refine hG _ _ _ _ _ _ _ _ _ _ _ ?_
    refine ⟨_, _, Or.inl ⟨_, hR.2.1 7 rfl, rfl⟩, hin, ?_⟩
    repeat refine hG _ _ _ _ _ _ _ _ _ _ _ ?_
    refine ⟨fun hc => absurd (show (0 : Int32) = 6 from hc) (by decide), fun _ => ?_⟩
    repeat refine hG _ _ _ _ _ _ _ _ _ _ _ ?_
    refine ⟨_, _, hR.1, r_at (by decide), ?_⟩
    repeat refine hG _ _ _ _ _ _ _ _ _ _ _ ?_
    refine ⟨_, _, Or.inl ⟨_, hR.2.1 7 rfl, rfl⟩, hin, ?_⟩
    repeat refine hG _ _ _ _ _ _ _ _ _ _ _ ?_
    refine ⟨fun hc => absurd (show (0 : Int32) = 5 from hc) (by decide), fun _ => ?_⟩
    repeat refine hG _ _ _ _ _ _ _ _ _ _ _ ?_
    exact ⟨rfl, by decide, by decide, hQ h1⟩
theorem s_hasGuest {G : xG} {ro : xR} {sv : Nat → Value} (hG : x_Good G ro sv) {d m n pg rm j : Nat} {ra : Nat → Nat} {h : xH} {Q : xQ} (hj : j < 4) (hR : RepR m ra (r_0 n pg rm) r_t0 h) (hQ : Q (some (.int 0)) h) : G d n_X12_hasGuest 0 0 0 [(0, .ref m), (1, .int (nI j))] [] h 0 0 Q := by
  have hin : vp_in (nI j) 4 := vp_in_nI (by omega) (by decide)
  repeat refine hG _ _ _ _ _ _ _ _ _ _ _ ?_
  refine ⟨_, _, hR.1, r_at (by decide), ?_⟩
  repeat refine hG _ _ _ _ _ _ _ _ _ _ _ ?_
  refine ⟨_, _, Or.inl ⟨_, hR.2.1 7 rfl, rfl⟩, hin, ?_⟩
  repeat refine hG _ _ _ _ _ _ _ _ _ _ _ ?_
  refine ⟨fun hc => absurd (show (0 : Int32) = 1 from hc) (by decide), fun _ => ?_⟩
  repeat refine hG _ _ _ _ _ _ _ _ _ _ _ ?_
  refine ⟨_, _, hR.1, r_at (by decide), ?_⟩
  repeat refine hG _ _ _ _ _ _ _ _ _ _ _ ?_
  refine ⟨_, _, Or.inl ⟨_, hR.2.1 7 rfl, rfl⟩, hin, ?_⟩
  repeat refine hG _ _ _ _ _ _ _ _ _ _ _ ?_
  refine ⟨fun hc => absurd (show (0 : Int32) = 2 from hc) (by decide), fun _ => ?_⟩
  repeat refine hG _ _ _ _ _ _ _ _ _ _ _ ?_
  refine ⟨_, _, hR.1, r_at (by decide), ?_⟩
  repeat refine hG _ _ _ _ _ _ _ _ _ _ _ ?_
  refine ⟨_, _, Or.inl ⟨_, hR.2.1 7 rfl, rfl⟩, hin, ?_⟩
  repeat refine hG _ _ _ _ _ _ _ _ _ _ _ ?_
  refine ⟨fun _ => ?_, fun hc => absurd (show (0 : Int32) = 3 from hc) (by decide)⟩
  repeat refine hG _ _ _ _ _ _ _ _ _ _ _ ?_
  exact ⟨rfl, by decide, by decide, hQ⟩
theorem s_memory {G : xG} {ro : xR} {sv : Nat → Value} (hG : x_Good G ro sv) {d m n pg rm : Nat} {ra : Nat → Nat} {h : xH} {Q : xQ} {i s : Int32} (hn : n ≤ 4) (hR : RepR m ra (r_0 n pg rm) r_t0 h) (hQ : ∀ h', Q (some (.int (-1))) h') : G (d + 1) n_X12_memory 0 0 0 [(0, .ref m), (1, .int i), (2, .int s)] [] h 0 0 Q := by
  repeat refine hG _ _ _ _ _ _ _ _ _ _ _ ?_
  refine ⟨_, hR.1, r_obl (by decide), rfl, rfl, ?_⟩
  rintro h1 e1
  have hR := r_thr hR rfl e1
  repeat refine hG _ _ _ _ _ _ _ _ _ _ _ ?_
  refine ⟨⟨_, hR.1⟩, 0, 0, by decide, by decide, s_isHost hG hR (fun hq => ?_) (fun hq => ?_)⟩
  · repeat refine hG _ _ _ _ _ _ _ _ _ _ _ ?_
    refine ⟨fun _ => ?_, fun hc => absurd rfl hc⟩
    repeat refine hG _ _ _ _ _ _ _ _ _ _ _ ?_
    exact ⟨rfl, by decide, by decide, hQ h1⟩
  · obtain ⟨j, hj, rfl⟩ := r_ix hn hq
    repeat refine hG _ _ _ _ _ _ _ _ _ _ _ ?_
    refine ⟨fun hc => absurd hc (by decide), fun _ => ?_⟩
    repeat refine hG _ _ _ _ _ _ _ _ _ _ _ ?_
    refine ⟨⟨_, hR.1⟩, 0, 0, by decide, by decide, s_hasGuest hG (by omega) hR ?_⟩
    repeat refine hG _ _ _ _ _ _ _ _ _ _ _ ?_
    refine ⟨fun _ => ?_, fun hc => absurd rfl hc⟩
    repeat refine hG _ _ _ _ _ _ _ _ _ _ _ ?_
    exact ⟨rfl, by decide, by decide, hQ h1⟩
theorem s_out {G : xG} {ro : xR} {sv : Nat → Value} (hG : x_Good G ro sv) {d m n pg rm : Nat} {ra : Nat → Nat} {h : xH} {Q : xQ} {i : Int32} (hR : RepR m ra (r_0 n pg rm) r_t0 h) (hQ : ∀ h', Q (some (.int (-1))) h') : G d n_X12_out 0 0 0 [(0, .ref m), (1, .int i)] [] h 0 0 Q := by
  repeat refine hG _ _ _ _ _ _ _ _ _ _ _ ?_
  refine ⟨_, hR.1, r_obl (by decide), rfl, rfl, ?_⟩
  rintro h1 e1
  have hR := r_thr hR rfl e1
  repeat refine hG _ _ _ _ _ _ _ _ _ _ _ ?_
  refine ⟨fun hc => ?_, fun hc => ?_⟩
  · repeat refine hG _ _ _ _ _ _ _ _ _ _ _ ?_
    exact ⟨rfl, by decide, by decide, hQ h1⟩
  · repeat refine hG _ _ _ _ _ _ _ _ _ _ _ ?_
    refine ⟨_, _, hR.1, r_at (by decide), ?_⟩
    repeat refine hG _ _ _ _ _ _ _ _ _ _ _ ?_
    refine ⟨fun _ => ?_, fun hc2 => absurd (show (0 : Int32) ≤ i from Int32.not_lt.mp hc) hc2⟩
    repeat refine hG _ _ _ _ _ _ _ _ _ _ _ ?_
    exact ⟨rfl, by decide, by decide, hQ h1⟩
