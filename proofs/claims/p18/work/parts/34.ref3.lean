theorem s_block {G : xG} {ro : xR} {sv : Nat → Value} (hG : x_Good G ro sv) {d m n pg rm : Nat} {ra : Nat → Nat} {h : xH} {Q : xQ} {b k : Int32} (hR : RepR m ra (r_0 n pg rm) r_t0 h) (hQ : ∀ h', Q (some (.int (v_block b k))) h') : G d n_X12_block 0 0 0 [(0, .ref m), (1, .int b), (2, .int k)] [] h 0 0 Q := by
  repeat refine hG _ _ _ _ _ _ _ _ _ _ _ ?_
  refine ⟨_, hR.1, r_obl (by decide), rfl, rfl, ?_⟩
  rintro h1 e1
  have hR := r_thr hR rfl e1
  have hQ1 := hQ h1
  have bad : ∀ (h8 : ¬ b = 8) (hw : b < 0 ∨ 8 < b ∨ k < 0 ∨ 64 ≤ k), G d n_X12_block 0 0 54 [(0, .ref m), (1, .int b), (2, .int k)] [] h1 0 0 Q := by
    intro h8 hw
    rw [v_block, if_neg h8, if_pos hw] at hQ1
    repeat refine hG _ _ _ _ _ _ _ _ _ _ _ ?_
    exact ⟨rfl, by decide, by decide, hQ1⟩
  repeat refine hG _ _ _ _ _ _ _ _ _ _ _ ?_
  refine ⟨fun h8 => ?_, fun h8 => ?_⟩
  · repeat refine hG _ _ _ _ _ _ _ _ _ _ _ ?_
    refine ⟨fun hc => bad h8 (Or.inl hc), fun hb0 => ?_⟩
    repeat refine hG _ _ _ _ _ _ _ _ _ _ _ ?_
    refine ⟨fun hc => bad h8 (Or.inr (Or.inl (Int32.lt_of_le_of_ne hc (Ne.symm h8)))), fun hb1 => ?_⟩
    have hb1 := Int32.le_of_lt (Int32.not_le.mp hb1)
    repeat refine hG _ _ _ _ _ _ _ _ _ _ _ ?_
    refine ⟨fun hc => bad h8 (Or.inr (Or.inr (Or.inl hc))), fun hk0 => ?_⟩
    repeat refine hG _ _ _ _ _ _ _ _ _ _ _ ?_
    refine ⟨fun hc => bad h8 (Or.inr (Or.inr (Or.inr hc))), fun hk1 => ?_⟩
    have hk1 := Int32.not_le.mp hk1
    have hw : ¬ (b < 0 ∨ 8 < b ∨ k < 0 ∨ 64 ≤ k) := fun q => by
      rcases q with q | q | q | q
      · exact hb0 q
      · exact Int32.not_lt.mpr hb1 q
      · exact hk0 q
      · exact Int32.not_lt.mpr q hk1
    rw [v_block, if_neg h8, if_neg hw] at hQ1
    obtain ⟨i, j, hi, hj, rfl, rfl⟩ := blk_ix h8 hb0 hb1 hk0 hk1
    repeat refine hG _ _ _ _ _ _ _ _ _ _ _ ?_
    refine ⟨_, _, hR.1, r_at (by decide), ?_⟩
    repeat refine hG _ _ _ _ _ _ _ _ _ _ _ ?_
    refine ⟨_, _, _, hR.2.1 64 rfl, Or.inl rfl, (show vp_in (64 * nI i + nI j) 512 from by rw [show 64 * nI i = nI (64 * i) from pk_mul 64 i, nI_add]; exact vp_in_nI (by omega) (by decide)), ?_⟩
    repeat refine hG _ _ _ _ _ _ _ _ _ _ _ ?_
    refine ⟨rfl, by decide, by decide, ?_⟩
    show Q (some (.int ((0 : Int32) &&& 255))) h1
    exact hQ1
  · rw [v_block, if_pos h8] at hQ1
    repeat refine hG _ _ _ _ _ _ _ _ _ _ _ ?_
    refine ⟨_, _, hR.1, r_at (by decide), ?_⟩
    repeat refine hG _ _ _ _ _ _ _ _ _ _ _ ?_
    exact ⟨rfl, by decide, by decide, hQ1⟩
theorem s_protL {G : xG} {ro : xR} {sv : Nat → Value} (hG : x_Good G ro sv) {d m n pg rm j : Nat} {ra : Nat → Nat} {h : xH} {Q : xQ} (hn : n ≤ 4) (hR : RepR m ra (r_0 n pg rm) r_t0 h) (hQ : Q (some (.int 0)) h) : ∀ t k : Nat, k + t = n → G d n_X12_protect 0 0 39 [(4, .int (nI k)), (3, .int (-1)), (2, .int 0), (0, .ref m), (1, .int (nI j))] [] h 0 0 Q := by
  intro t
  induction t with
  | zero =>
    intro k hk
    have hkn : k = n := by omega
    subst hkn
    repeat refine hG _ _ _ _ _ _ _ _ _ _ _ ?_
    refine ⟨_, _, hR.1, r_at (by decide), ?_⟩
    repeat refine hG _ _ _ _ _ _ _ _ _ _ _ ?_
    refine ⟨fun _ => ?_, fun hc => absurd (show nI k ≤ nI k from Int32.le_refl _) hc⟩
    repeat refine hG _ _ _ _ _ _ _ _ _ _ _ ?_
    refine ⟨fun _ => ?_, fun hc => absurd hc (by decide)⟩
    repeat refine hG _ _ _ _ _ _ _ _ _ _ _ ?_
    exact ⟨rfl, by decide, by decide, hQ⟩
  | succ t ih =>
    intro k hk
    repeat refine hG _ _ _ _ _ _ _ _ _ _ _ ?_
    refine ⟨_, _, hR.1, r_at (by decide), ?_⟩
    repeat refine hG _ _ _ _ _ _ _ _ _ _ _ ?_
    refine ⟨fun hc => absurd (show nI n ≤ nI k from hc) (nI_ge (by omega) (by omega)), fun _ => ?_⟩
    repeat refine hG _ _ _ _ _ _ _ _ _ _ _ ?_
    refine ⟨_, _, hR.1, r_at (by decide), ?_⟩
    repeat refine hG _ _ _ _ _ _ _ _ _ _ _ ?_
    refine ⟨_, _, Or.inl ⟨_, hR.2.1 7 rfl, rfl⟩, (show vp_in (nI k) 4 from vp_in_nI (by omega) (by decide)), ?_⟩
    repeat refine hG _ _ _ _ _ _ _ _ _ _ _ ?_
    refine ⟨fun hc => absurd (show (0 : Int32) = 1 from hc) (by decide), fun _ => ?_⟩
    refine hG _ _ _ _ _ _ _ _ _ _ _ ?_
    refine hG _ _ _ _ _ _ _ _ _ _ _ ?_
    refine hG _ _ _ _ _ _ _ _ _ _ _ ?_
    have ih1 := ih (k + 1) (by omega)
    rw [nI_succ] at ih1
    exact ih1
theorem s_protect {G : xG} {ro : xR} {sv : Nat → Value} (hG : x_Good G ro sv) {d m n pg rm : Nat} {ra : Nat → Nat} {h : xH} {Q : xQ} {i : Int32} (hn : n ≤ 4) (hR : RepR m ra (r_0 n pg rm) r_t0 h) (hQ : ∀ h', Q (some (.int 0)) h') : G (d + 1) n_X12_protect 0 0 0 [(0, .ref m), (1, .int i)] [] h 0 0 Q := by
  repeat refine hG _ _ _ _ _ _ _ _ _ _ _ ?_
  refine ⟨_, hR.1, r_obl (by decide), rfl, rfl, ?_⟩
  rintro h1 e1
  have hR := r_thr hR rfl e1
  repeat refine hG _ _ _ _ _ _ _ _ _ _ _ ?_
  refine ⟨⟨_, hR.1⟩, 0, 0, by decide, by decide, s_isHost hG hR (fun hq => ?_) (fun hq => ?_)⟩
  · repeat refine hG _ _ _ _ _ _ _ _ _ _ _ ?_
    refine ⟨fun _ => ?_, fun hc => absurd rfl hc⟩
    repeat refine hG _ _ _ _ _ _ _ _ _ _ _ ?_
    exact ⟨rfl, by decide, by decide, hQ h1⟩
  · obtain ⟨j, hj, rfl⟩ := r_ix hn hq
    have hin : vp_in (nI j) 4 := vp_in_nI (by omega) (by decide)
    repeat refine hG _ _ _ _ _ _ _ _ _ _ _ ?_
    refine ⟨fun hc => absurd hc (by decide), fun _ => ?_⟩
    repeat refine hG _ _ _ _ _ _ _ _ _ _ _ ?_
    refine ⟨_, _, hR.1, r_at (by decide), ?_⟩
    repeat refine hG _ _ _ _ _ _ _ _ _ _ _ ?_
    refine ⟨_, _, Or.inl ⟨_, hR.2.1 7 rfl, rfl⟩, hin, ?_⟩
    repeat refine hG _ _ _ _ _ _ _ _ _ _ _ ?_
    refine ⟨fun hc => absurd rfl hc, fun _ => ?_⟩
    repeat refine hG _ _ _ _ _ _ _ _ _ _ _ ?_
    refine ⟨_, _, hR.1, r_at (by decide), ?_⟩
    repeat refine hG _ _ _ _ _ _ _ _ _ _ _ ?_
    refine ⟨fun _ => ?_, fun hc => absurd rfl hc⟩
    refine hG _ _ _ _ _ _ _ _ _ _ _ ?_
    refine hG _ _ _ _ _ _ _ _ _ _ _ ?_
    refine hG _ _ _ _ _ _ _ _ _ _ _ ?_
    refine hG _ _ _ _ _ _ _ _ _ _ _ ?_
    refine hG _ _ _ _ _ _ _ _ _ _ _ ?_
    refine hG _ _ _ _ _ _ _ _ _ _ _ ?_
    exact s_protL hG hn hR (hQ h1) n 0 (by omega)
theorem s_crash {G : xG} {ro : xR} {sv : Nat → Value} (hG : x_Good G ro sv) {d m n pg rm : Nat} {ra : Nat → Nat} {h : xH} {Q : xQ} {i : Int32} (hn : n ≤ 4) (hR : RepR m ra (r_0 n pg rm) r_t0 h) (hQ : ∀ h', Q (some (.int (v_crash n i))) h') : G (d + 1) n_X12_crash 0 0 0 [(0, .ref m), (1, .int i)] [] h 0 0 Q := by
  repeat refine hG _ _ _ _ _ _ _ _ _ _ _ ?_
  refine ⟨_, hR.1, r_obl (by decide), rfl, rfl, ?_⟩
  rintro h1 e1
  have hR := r_thr hR rfl e1
  repeat refine hG _ _ _ _ _ _ _ _ _ _ _ ?_
  refine ⟨⟨_, hR.1⟩, 0, 0, by decide, by decide, s_isHost hG hR (fun hq => ?_) (fun hq => ?_)⟩
  · have hQ1 := hQ h1
    rw [v_crash, if_pos hq] at hQ1
    repeat refine hG _ _ _ _ _ _ _ _ _ _ _ ?_
    refine ⟨fun _ => ?_, fun hc => absurd rfl hc⟩
    repeat refine hG _ _ _ _ _ _ _ _ _ _ _ ?_
    exact ⟨rfl, by decide, by decide, hQ1⟩
  · rw [v_crash, if_neg hq] at hQ
    obtain ⟨j, hj, rfl⟩ := r_ix hn hq
    have hin : vp_in (nI j) 4 := vp_in_nI (by omega) (by decide)
    have hm1 : ¬ nI j = -1 := fun q => absurd (show nI j < 0 from by rw [q]; decide) (nI_pos (by omega))
    repeat refine hG _ _ _ _ _ _ _ _ _ _ _ ?_
    refine ⟨fun hc => absurd hc (by decide), fun _ => ?_⟩
    repeat refine hG _ _ _ _ _ _ _ _ _ _ _ ?_
    refine ⟨_, _, hR.1, r_at (by decide), ?_⟩
    repeat refine hG _ _ _ _ _ _ _ _ _ _ _ ?_
    refine ⟨_, _, Or.inl ⟨_, hR.2.1 7 rfl, rfl⟩, hin, ?_⟩
    repeat refine hG _ _ _ _ _ _ _ _ _ _ _ ?_
    refine ⟨fun _ => ?_, fun hc => absurd (show (0 : Int32) = 6 from hc) (by decide)⟩
    repeat refine hG _ _ _ _ _ _ _ _ _ _ _ ?_
    refine ⟨_, _, hR.1, r_at (by decide), ?_⟩
    repeat refine hG _ _ _ _ _ _ _ _ _ _ _ ?_
    refine ⟨fun hc => absurd (show nI j = -1 from hc) hm1, fun _ => ?_⟩
    repeat refine hG _ _ _ _ _ _ _ _ _ _ _ ?_
    refine ⟨_, _, hR.1, r_at (by decide), ?_⟩
    repeat refine hG _ _ _ _ _ _ _ _ _ _ _ ?_
    refine ⟨fun _ => ?_, fun hc => absurd (show nI j = -1 from hc) hm1⟩
    repeat refine hG _ _ _ _ _ _ _ _ _ _ _ ?_
    refine ⟨_, _, hR.1, r_at (by decide), ?_⟩
    repeat refine hG _ _ _ _ _ _ _ _ _ _ _ ?_
    refine ⟨_, _, _, hR.2.1 7 rfl, rfl, hin, ?_⟩
    rintro h2 e2
    have k2 := x_upo e2 (Ne.symm (hR.2.2.1 7 rfl)) hR.1
    have l2 := x_upo e2 (fun q => absurd (hR.2.2.2 10 7 rfl rfl q) (by decide)) (hR.2.1 10 rfl)
    repeat refine hG _ _ _ _ _ _ _ _ _ _ _ ?_
    refine ⟨_, _, k2, r_at (by decide), ?_⟩
    repeat refine hG _ _ _ _ _ _ _ _ _ _ _ ?_
    refine ⟨_, _, Or.inl ⟨_, l2, rfl⟩, hin, ?_⟩
    repeat refine hG _ _ _ _ _ _ _ _ _ _ _ ?_
    refine ⟨_, _, _, l2, rfl, hin, ?_⟩
    rintro h3 e3
    repeat refine hG _ _ _ _ _ _ _ _ _ _ _ ?_
    exact ⟨rfl, by decide, by decide, hQ h3⟩
theorem s_host {G : xG} {ro : xR} {sv : Nat → Value} (hG : x_Good G ro sv) {d m n pg rm : Nat} {ra : Nat → Nat} {h : xH} {Q : xQ} {i w : Int32} (hn : n ≤ 4) (hR : RepR m ra (r_0 n pg rm) r_t0 h) (hQ : ∀ h', Q (some (.long (v_host n i w))) h') : G (d + 1) n_X12_host 0 0 0 [(0, .ref m), (1, .int i), (2, .int w)] [] h 0 0 Q := by
  repeat refine hG _ _ _ _ _ _ _ _ _ _ _ ?_
  refine ⟨_, hR.1, r_obl (by decide), rfl, rfl, ?_⟩
  rintro h1 e1
  have hR := r_thr hR rfl e1
  have hQ1 := hQ h1
  repeat refine hG _ _ _ _ _ _ _ _ _ _ _ ?_
  refine ⟨⟨_, hR.1⟩, 0, 0, by decide, by decide, s_isHost hG hR (fun hq => ?_) (fun hq => ?_)⟩
  · rw [v_host, if_pos hq] at hQ1
    repeat refine hG _ _ _ _ _ _ _ _ _ _ _ ?_
    refine ⟨fun hc => absurd rfl hc, fun _ => ?_⟩
    repeat refine hG _ _ _ _ _ _ _ _ _ _ _ ?_
    exact ⟨by decide, by decide, hQ1⟩
  · rw [v_host, if_neg hq] at hQ1
    obtain ⟨j, hj, rfl⟩ := r_ix hn hq
    have hin : vp_in (nI j) 4 := vp_in_nI (by omega) (by decide)
    have hm1 : ¬ nI j = -1 := fun q => absurd (show nI j < 0 from by rw [q]; decide) (nI_pos (by omega))
    have good : ∀ (hw : ¬ (w < 0 ∨ (14 < w ∧ w < 32) ∨ 71 < w)), G (d + 1) n_X12_host 0 0 43 [(0, .ref m), (1, .int (nI j)), (2, .int w)] [] h1 0 0 Q := by
      intro hw
      rw [if_neg hw] at hQ1
      repeat refine hG _ _ _ _ _ _ _ _ _ _ _ ?_
      refine ⟨fun hc => ?_, fun hc => ?_⟩
      · repeat refine hG _ _ _ _ _ _ _ _ _ _ _ ?_
        refine ⟨fun hc2 => ?_, fun hc2 => ?_⟩
        · repeat refine hG _ _ _ _ _ _ _ _ _ _ _ ?_
          refine ⟨⟨_, hR.1⟩, 0, 0, by decide, by decide, s_hasGuest hG (by omega) hR ?_⟩
          repeat refine hG _ _ _ _ _ _ _ _ _ _ _ ?_
          refine ⟨fun hc => absurd rfl hc, fun _ => ?_⟩
          repeat refine hG _ _ _ _ _ _ _ _ _ _ _ ?_
          exact ⟨by decide, by decide, hQ1⟩
        · repeat refine hG _ _ _ _ _ _ _ _ _ _ _ ?_
          refine ⟨_, _, hR.1, r_at (by decide), ?_⟩
          repeat refine hG _ _ _ _ _ _ _ _ _ _ _ ?_
          refine ⟨fun _ => ?_, fun hc => absurd (show nI j = -1 from hc) hm1⟩
          repeat refine hG _ _ _ _ _ _ _ _ _ _ _ ?_
          exact ⟨by decide, by decide, hQ1⟩
      · repeat refine hG _ _ _ _ _ _ _ _ _ _ _ ?_
        refine ⟨_, _, hR.1, r_at (by decide), ?_⟩
        repeat refine hG _ _ _ _ _ _ _ _ _ _ _ ?_
        refine ⟨_, _, Or.inl ⟨_, hR.2.1 7 rfl, rfl⟩, hin, ?_⟩
        repeat refine hG _ _ _ _ _ _ _ _ _ _ _ ?_
        exact ⟨by decide, by decide, hQ1⟩
    have bad : ∀ (hw : w < 0 ∨ (14 < w ∧ w < 32) ∨ 71 < w), G (d + 1) n_X12_host 0 0 39 [(0, .ref m), (1, .int (nI j)), (2, .int w)] [] h1 0 0 Q := by
      intro hw
      rw [if_pos hw] at hQ1
      repeat refine hG _ _ _ _ _ _ _ _ _ _ _ ?_
      exact ⟨by decide, by decide, hQ1⟩
    repeat refine hG _ _ _ _ _ _ _ _ _ _ _ ?_
    refine ⟨fun _ => ?_, fun hc => absurd hc (by decide)⟩
    repeat refine hG _ _ _ _ _ _ _ _ _ _ _ ?_
    refine ⟨fun hc => bad (Or.inl hc), fun hc => ?_⟩
    repeat refine hG _ _ _ _ _ _ _ _ _ _ _ ?_
    refine ⟨fun hc2 => ?_, fun hc2 => ?_⟩
    · repeat refine hG _ _ _ _ _ _ _ _ _ _ _ ?_
      refine ⟨fun hc3 => good (fun q => ?_), fun hc3 => bad (Or.inr (Or.inr (Int32.not_le.mp hc3)))⟩
      rcases q with q | q | q
      · exact hc q
      · exact Int32.not_lt.mpr hc2 q.1
      · exact Int32.not_lt.mpr hc3 q
    · repeat refine hG _ _ _ _ _ _ _ _ _ _ _ ?_
      refine ⟨fun hc3 => bad (Or.inr (Or.inl ⟨Int32.not_le.mp hc2, hc3⟩)), fun hc3 => ?_⟩
      repeat refine hG _ _ _ _ _ _ _ _ _ _ _ ?_
      refine ⟨fun hc4 => good (fun q => ?_), fun hc4 => bad (Or.inr (Or.inr (Int32.not_le.mp hc4)))⟩
      rcases q with q | q | q
      · exact hc q
      · exact hc3 q.2
      · exact Int32.not_lt.mpr hc4 q
theorem s_putL {G : xG} {ro : xR} {sv : Nat → Value} (hG : x_Good G ro sv) {d pg m IM j : Nat} {F : Nat → Value} {Q : xQ} {v : Int64} (hp : 4 ≤ pg ∧ pg ≤ 16) (hj : j + 8 ≤ pg * 256) (hF : F 6 = .ref IM) (hne : m ≠ IM) (hQ : ∀ h', Q (some (.int 1)) h') : ∀ (t k : Nat) (h : xH) (f : Nat → Int32), k + t = 8 → h m = some (.inr (12, r_ob F)) → h IM = some (.inl (1, 4096, .inl f)) → G d n_X12_put 0 0 25 [(4, .int (nI k)), (0, .ref m), (1, .int (nI j)), (2, .long v)] [] h 0 0 Q := by
  intro t
  induction t with
  | zero =>
    intro k h f hk hx hI
    repeat refine hG _ _ _ _ _ _ _ _ _ _ _ ?_
    refine ⟨fun _ => ?_, fun hc => absurd (by rw [show k = 8 by omega]; exact Int32.le_refl _) hc⟩
    repeat refine hG _ _ _ _ _ _ _ _ _ _ _ ?_
    exact ⟨rfl, by decide, by decide, hQ h⟩
  | succ t ih =>
    intro k h f hk hx hI
    repeat refine hG _ _ _ _ _ _ _ _ _ _ _ ?_
    refine ⟨fun hc => absurd hc (nI_ge (b := 8) (by omega) (by decide)), fun _ => ?_⟩
    repeat refine hG _ _ _ _ _ _ _ _ _ _ _ ?_
    refine ⟨_, _, hx, (r_at (by decide)).trans (congrArg some hF), ?_⟩
    repeat refine hG _ _ _ _ _ _ _ _ _ _ _ ?_
    refine ⟨_, _, _, .byte, hI, rfl, Or.inl rfl, (by rw [nI_add]; exact vp_in_nI (by omega) (by decide)), ?_⟩
    rintro h1 e1
    refine hG _ _ _ _ _ _ _ _ _ _ _ ?_
    refine hG _ _ _ _ _ _ _ _ _ _ _ ?_
    have ih1 := ih (k + 1)
    rw [nI_succ] at ih1
    exact ih1 h1 _ (by omega) (x_upo e1 hne hx) (x_ups e1)
theorem s_put {G : xG} {ro : xR} {sv : Nat → Value} (hG : x_Good G ro sv) {d m n pg rm : Nat} {ra : Nat → Nat} {h : xH} {Q : xQ} {a : Int32} {v : Int64} (hp : 4 ≤ pg ∧ pg ≤ 16) (hR : RepR m ra (r_0 n pg rm) r_t0 h) (hQ : ∀ h', Q (some (.int (v_put pg a))) h') : G d n_X12_put 0 0 0 [(0, .ref m), (1, .int a), (2, .long v)] [] h 0 0 Q := by
  have e256 : 256 * nI pg = nI (pg * 256) := by rw [show 256 * nI pg = nI (256 * pg) from pk_mul 256 pg, Nat.mul_comm]
  repeat refine hG _ _ _ _ _ _ _ _ _ _ _ ?_
  refine ⟨_, hR.1, r_obl (by decide), rfl, rfl, ?_⟩
  rintro h1 e1
  have hR := r_thr hR rfl e1
  have bad : ∀ (hw : a < 0 ∨ nI (pg * 256) - 8 < a), G d n_X12_put 0 0 20 [(0, .ref m), (1, .int a), (2, .long v)] [] h1 0 0 Q := by
    intro hw
    have hQ1 := hQ h1
    rw [v_put, if_pos hw] at hQ1
    repeat refine hG _ _ _ _ _ _ _ _ _ _ _ ?_
    exact ⟨rfl, by decide, by decide, hQ1⟩
  repeat refine hG _ _ _ _ _ _ _ _ _ _ _ ?_
  refine ⟨fun hc => bad (Or.inl hc), fun h0 => ?_⟩
  repeat refine hG _ _ _ _ _ _ _ _ _ _ _ ?_
  refine ⟨_, _, hR.1, r_at (by decide), ?_⟩
  repeat refine hG _ _ _ _ _ _ _ _ _ _ _ ?_
  refine ⟨fun hc => ?_, fun hc => ?_⟩
  · have hc : a ≤ 256 * nI pg - 8 := hc
    rw [e256] at hc
    rw [v_put, if_neg (fun q => q.elim h0 (Int32.not_lt.mpr hc))] at hQ
    obtain ⟨j, hj, rfl⟩ := put_ix hp h0 hc
    refine hG _ _ _ _ _ _ _ _ _ _ _ ?_
    refine hG _ _ _ _ _ _ _ _ _ _ _ ?_
    exact s_putL hG (IM := ra 6) hp hj rfl (Ne.symm (hR.2.2.1 6 rfl)) hQ 8 0 h1 _ rfl hR.1 (hR.2.1 6 rfl)
  · have hc : ¬ a ≤ 256 * nI pg - 8 := hc
    rw [e256] at hc
    exact bad (Or.inr (Int32.not_le.mp hc))
theorem s_bootL {G : xG} {ro : xR} {sv : Nat → Value} (hG : x_Good G ro sv) {d m IM ME ST : Nat} {F : Nat → Value} {Q : xQ} (hF6 : F 6 = .ref IM) (hF15 : F 15 = .ref ME) (hF7 : F 7 = .ref ST) (n1 : m ≠ ME) (n2 : IM ≠ ME) (n3 : ST ≠ ME) (hQ : ∀ h', Q (some (.int 1)) h') : ∀ (t k : Nat) (h : xH) (f g s : Nat → Int32), k + t = 4096 → h m = some (.inr (12, r_ob F)) → h IM = some (.inl (1, 4096, .inl f)) → h ME = some (.inl (1, 16384, .inl g)) → h ST = some (.inl (0, 4, .inl s)) → G d n_X12_boot 0 0 21 [(1, .int (nI k)), (0, .ref m)] [] h 0 0 Q := by
  intro t
  induction t with
  | zero =>
    intro k h f g s hk hx hI hM hS
    repeat refine hG _ _ _ _ _ _ _ _ _ _ _ ?_
    refine ⟨fun _ => ?_, fun hc => absurd (by rw [show k = 4096 by omega]; exact Int32.le_refl _) hc⟩
    repeat refine hG _ _ _ _ _ _ _ _ _ _ _ ?_
    refine ⟨_, _, hx, (r_at (by decide)).trans (congrArg some hF7), ?_⟩
    repeat refine hG _ _ _ _ _ _ _ _ _ _ _ ?_
    refine ⟨_, _, _, hS, rfl, (by unfold vp_in; decide), ?_⟩
    rintro h1 e1
    repeat refine hG _ _ _ _ _ _ _ _ _ _ _ ?_
    exact ⟨rfl, by decide, by decide, hQ h1⟩
  | succ t ih =>
    intro k h f g s hk hx hI hM hS
    repeat refine hG _ _ _ _ _ _ _ _ _ _ _ ?_
    refine ⟨fun hc => absurd hc (nI_ge (b := 4096) (by omega) (by decide)), fun _ => ?_⟩
    repeat refine hG _ _ _ _ _ _ _ _ _ _ _ ?_
    refine ⟨_, _, hx, (r_at (by decide)).trans (congrArg some hF15), ?_⟩
    repeat refine hG _ _ _ _ _ _ _ _ _ _ _ ?_
    refine ⟨_, _, hx, (r_at (by decide)).trans (congrArg some hF6), ?_⟩
    repeat refine hG _ _ _ _ _ _ _ _ _ _ _ ?_
    refine ⟨_, _, _, hI, Or.inl rfl, vp_in_nI (by omega) (by decide), ?_⟩
    repeat refine hG _ _ _ _ _ _ _ _ _ _ _ ?_
    refine ⟨_, _, _, .byte, hM, rfl, Or.inl rfl, vp_in_nI (by omega) (by decide), ?_⟩
    rintro h1 e1
    refine hG _ _ _ _ _ _ _ _ _ _ _ ?_
    refine hG _ _ _ _ _ _ _ _ _ _ _ ?_
    have ih1 := ih (k + 1)
    rw [nI_succ] at ih1
    exact ih1 h1 _ _ _ (by omega) (x_upo e1 n1 hx) (x_upo e1 n2 hI) (x_ups e1) (x_upo e1 n3 hS)
theorem s_boot {G : xG} {ro : xR} {sv : Nat → Value} (hG : x_Good G ro sv) {d m n pg rm : Nat} {ra : Nat → Nat} {h : xH} {Q : xQ} (hR : RepR m ra (r_0 n pg rm) r_t0 h) (hQ : ∀ h', Q (some (.int 1)) h') : G d n_X12_boot 0 0 0 [(0, .ref m)] [] h 0 0 Q := by
  repeat refine hG _ _ _ _ _ _ _ _ _ _ _ ?_
  refine ⟨_, hR.1, r_obl (by decide), rfl, rfl, ?_⟩
  rintro h1 e1
  have hR := r_thr hR rfl e1
  repeat refine hG _ _ _ _ _ _ _ _ _ _ _ ?_
  refine ⟨_, _, hR.1, r_at (by decide), ?_⟩
  repeat refine hG _ _ _ _ _ _ _ _ _ _ _ ?_
  refine ⟨fun _ => ?_, fun hc => absurd rfl hc⟩
  repeat refine hG _ _ _ _ _ _ _ _ _ _ _ ?_
  refine ⟨_, hR.1, r_obl (by decide), rfl, rfl, ?_⟩
  rintro h2 e2
  rw [r_ob_set] at e2
  refine hG _ _ _ _ _ _ _ _ _ _ _ ?_
  refine hG _ _ _ _ _ _ _ _ _ _ _ ?_
  exact s_bootL hG (F := va_up (r_F (r_0 n pg rm) ra) 5 (.int 1)) (IM := ra 6) (ME := ra 15) (ST := ra 7) rfl rfl rfl (Ne.symm (hR.2.2.1 15 rfl)) (fun q => absurd (hR.2.2.2 6 15 rfl rfl q) (by decide)) (fun q => absurd (hR.2.2.2 7 15 rfl rfl q) (by decide)) hQ 4096 0 h2 _ _ _ rfl (x_ups e2) (x_upo e2 (hR.2.2.1 6 rfl) (hR.2.1 6 rfl)) (x_upo e2 (hR.2.2.1 15 rfl) (hR.2.1 15 rfl)) (x_upo e2 (hR.2.2.1 7 rfl) (hR.2.1 7 rfl))
