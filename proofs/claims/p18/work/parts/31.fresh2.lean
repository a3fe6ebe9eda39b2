def v_run (n : Nat) (i s : Int32) : Int32 := if (i < 0 ∨ nI n ≤ i) ∨ s < 0 ∨ 2000 < s then -1 else 0
theorem k_run {G : xG} {ro : xR} {sv : Nat → Value} (hG : x_Good G ro sv) {d n pg rm x : Nat} {h : xH} {Q : xQ} {i s : Int32} (hn : n ≤ 4) (hC : CN n pg rm x h) (hQ : Q (some (.int (v_run n i s))) h) : G (d + 2) n_X11_run 0 0 0 [(0, .ref x), (1, .int i), (2, .int s)] [] h 0 0 Q := by
  obtain ⟨HA, IM, SD, OU, CH, UW, bl, wt, nu, cp, up, f, a1, a2, a3, -⟩ := id hC
  repeat refine hG _ _ _ _ _ _ _ _ _ _ _ ?_
  refine ⟨⟨_, a1⟩, 0, 0, by decide, by decide, k_hostAt hG hn hC (fun hq => ?_) (fun j H hj hij hH => ?_)⟩
  · repeat refine hG _ _ _ _ _ _ _ _ _ _ _ ?_
    rw [v_run, if_pos (Or.inl hq)] at hQ
    exact ⟨rfl, by decide, by decide, hQ⟩
  · obtain ⟨g, ib, kp, mm, dv, rg, ct, mb, mt, pl, c1, c2, c3, c4, c5⟩ := hH
    have hno : ¬ (i < 0 ∨ nI n ≤ i) := by
      subst hij
      exact fun q => q.elim (nI_pos (by omega)) (nI_ge hj (by omega))
    repeat refine hG _ _ _ _ _ _ _ _ _ _ _ ?_
    refine ⟨fun hc => ?_, fun hc => ?_⟩
    · repeat refine hG _ _ _ _ _ _ _ _ _ _ _ ?_
      rw [v_run, if_pos (Or.inr (Or.inl hc))] at hQ
      exact ⟨rfl, by decide, by decide, hQ⟩
    · repeat refine hG _ _ _ _ _ _ _ _ _ _ _ ?_
      refine ⟨fun hc2 => ?_, fun hc2 => ?_⟩
      · rw [v_run, if_neg (fun q => q.elim hno (fun q => q.elim hc (Int32.not_lt.mpr hc2)))] at hQ
        repeat refine hG _ _ _ _ _ _ _ _ _ _ _ ?_
        refine ⟨fun hc3 => ?_, fun hc3 => ?_⟩
        · repeat refine hG _ _ _ _ _ _ _ _ _ _ _ ?_
          exact ⟨rfl, by decide, by decide, hQ⟩
        · repeat refine hG _ _ _ _ _ _ _ _ _ _ _ ?_
          refine ⟨⟨_, a1⟩, 0, 0, by decide, by decide, ?_⟩
          repeat refine hG _ _ _ _ _ _ _ _ _ _ _ ?_
          refine ⟨_, _, c1, rfl, ?_⟩
          repeat refine hG _ _ _ _ _ _ _ _ _ _ _ ?_
          refine ⟨fun hc => absurd hc (by decide), fun _ => ?_⟩
          repeat refine hG _ _ _ _ _ _ _ _ _ _ _ ?_
          refine ⟨_, _, c1, rfl, ?_⟩
          repeat refine hG _ _ _ _ _ _ _ _ _ _ _ ?_
          refine ⟨fun _ => ?_, fun hc => absurd hc (by decide)⟩
          repeat refine hG _ _ _ _ _ _ _ _ _ _ _ ?_
          refine ⟨⟨_, a1⟩, 0, 0, by decide, by decide, ?_⟩
          repeat refine hG _ _ _ _ _ _ _ _ _ _ _ ?_
          refine ⟨_, _, c1, rfl, ?_⟩
          repeat refine hG _ _ _ _ _ _ _ _ _ _ _ ?_
          refine ⟨fun _ => ?_, fun hc => absurd hc (by decide)⟩
          repeat refine hG _ _ _ _ _ _ _ _ _ _ _ ?_
          refine ⟨_, _, c1, rfl, ?_⟩
          repeat refine hG _ _ _ _ _ _ _ _ _ _ _ ?_
          refine ⟨fun hc => absurd hc (by decide), fun _ => ?_⟩
          repeat refine hG _ _ _ _ _ _ _ _ _ _ _ ?_
          refine ⟨_, _, c1, rfl, ?_⟩
          repeat refine hG _ _ _ _ _ _ _ _ _ _ _ ?_
          refine ⟨fun _ => ?_, fun hc => absurd hc (by decide)⟩
          repeat refine hG _ _ _ _ _ _ _ _ _ _ _ ?_
          refine ⟨rfl, by decide, by decide, ?_⟩
          repeat refine hG _ _ _ _ _ _ _ _ _ _ _ ?_
          refine ⟨fun _ => ?_, fun hc => absurd rfl hc⟩
          repeat refine hG _ _ _ _ _ _ _ _ _ _ _ ?_
          refine ⟨rfl, by decide, by decide, ?_⟩
          repeat refine hG _ _ _ _ _ _ _ _ _ _ _ ?_
          refine ⟨fun _ => ?_, fun hc => absurd rfl hc⟩
          repeat refine hG _ _ _ _ _ _ _ _ _ _ _ ?_
          exact ⟨rfl, by decide, by decide, hQ⟩
      · repeat refine hG _ _ _ _ _ _ _ _ _ _ _ ?_
        rw [v_run, if_pos (Or.inr (Or.inr (Int32.not_le.mp hc2)))] at hQ
        exact ⟨rfl, by decide, by decide, hQ⟩
theorem k_key {G : xG} {ro : xR} {sv : Nat → Value} (hG : x_Good G ro sv) {d n pg rm x : Nat} {h : xH} {Q : xQ} {i : Int32} (hn : n ≤ 4) (hC : CN n pg rm x h) (hQ : Q (some (.int 0)) h) : G (d + 1) n_X11_key 0 0 0 [(0, .ref x), (1, .int i)] [] h 0 0 Q := by
  obtain ⟨HA, IM, SD, OU, CH, UW, bl, wt, nu, cp, up, f, a1, a2, a3, -⟩ := id hC
  repeat refine hG _ _ _ _ _ _ _ _ _ _ _ ?_
  refine ⟨⟨_, a1⟩, 0, 0, by decide, by decide, k_heardHost hG hn hC ?_⟩
  repeat refine hG _ _ _ _ _ _ _ _ _ _ _ ?_
  exact ⟨rfl, by decide, by decide, hQ⟩
theorem k_packet {G : xG} {ro : xR} {sv : Nat → Value} (hG : x_Good G ro sv) {d n pg rm x : Nat} {h : xH} {Q : xQ} {i : Int32} {l1 l2 l3 l4 : Int64} (hn : n ≤ 4) (hC : CN n pg rm x h) (hQ : Q (some (.int 0)) h) : G (d + 1) n_X11_packet 0 0 0 [(0, .ref x), (1, .int i), (2, .long l1), (4, .long l2), (6, .long l3), (8, .long l4)] [] h 0 0 Q := by
  obtain ⟨HA, IM, SD, OU, CH, UW, bl, wt, nu, cp, up, f, a1, a2, a3, -⟩ := id hC
  repeat refine hG _ _ _ _ _ _ _ _ _ _ _ ?_
  refine ⟨⟨_, a1⟩, 0, 0, by decide, by decide, k_heardHost hG hn hC ?_⟩
  repeat refine hG _ _ _ _ _ _ _ _ _ _ _ ?_
  exact ⟨rfl, by decide, by decide, hQ⟩
theorem k_tick {G : xG} {ro : xR} {sv : Nat → Value} (hG : x_Good G ro sv) {d n pg rm x : Nat} {h : xH} {Q : xQ} (hn : n ≤ 4) (hC : CN n pg rm x h) (hQ : Q (some (.int 0)) h) : G (d + 1) n_X11_tick 0 0 0 [(0, .ref x)] [] h 0 0 Q := by
  obtain ⟨HA, IM, SD, OU, CH, UW, bl, wt, nu, cp, up, f, a1, a2, a3, -⟩ := id hC
  repeat refine hG _ _ _ _ _ _ _ _ _ _ _ ?_
  refine ⟨⟨_, a1⟩, 0, 0, by decide, by decide, k_heardHost hG hn hC ?_⟩
  repeat refine hG _ _ _ _ _ _ _ _ _ _ _ ?_
  exact ⟨rfl, by decide, by decide, hQ⟩
theorem k_disk {G : xG} {ro : xR} {sv : Nat → Value} (hG : x_Good G ro sv) {d n pg rm x : Nat} {h : xH} {Q : xQ} (hC : CN n pg rm x h) (hQ : Q (some (.int 0)) h) : G (d + 1) n_X11_disk 0 0 0 [(0, .ref x)] [] h 0 0 Q := by
  obtain ⟨HA, IM, SD, OU, CH, UW, bl, wt, nu, cp, up, f, a1, a2, a3, a4, a5, -⟩ := id hC
  repeat refine hG _ _ _ _ _ _ _ _ _ _ _ ?_
  refine ⟨_, _, a1, rfl, ?_⟩
  repeat refine hG _ _ _ _ _ _ _ _ _ _ _ ?_
  refine ⟨⟨_, a5⟩, 0, 0, by decide, by decide, ?_⟩
  repeat refine hG _ _ _ _ _ _ _ _ _ _ _ ?_
  refine ⟨_, _, a5, rfl, ?_⟩
  repeat refine hG _ _ _ _ _ _ _ _ _ _ _ ?_
  refine ⟨fun _ => ?_, fun hc => absurd (by decide) hc⟩
  repeat refine hG _ _ _ _ _ _ _ _ _ _ _ ?_
  refine ⟨by decide, by decide, ?_⟩
  repeat refine hG _ _ _ _ _ _ _ _ _ _ _ ?_
  exact ⟨rfl, by decide, by decide, hQ⟩
theorem k_deliver {G : xG} {ro : xR} {sv : Nat → Value} (hG : x_Good G ro sv) {d n pg rm x : Nat} {h : xH} {Q : xQ} (hn : n ≤ 4) (hC : CN n pg rm x h) (hQ : Q (some (.int 0)) h) : G (d + 1) n_X11_deliver 0 0 0 [(0, .ref x)] [] h 0 0 Q := by
  obtain ⟨HA, IM, SD, OU, CH, UW, bl, wt, nu, cp, up, f, a1, a2, a3, a4, a5, -⟩ := id hC
  repeat refine hG _ _ _ _ _ _ _ _ _ _ _ ?_
  refine ⟨_, _, a1, rfl, ?_⟩
  repeat refine hG _ _ _ _ _ _ _ _ _ _ _ ?_
  refine ⟨⟨_, a1⟩, 0, 0, by decide, by decide, k_hostAt hG hn hC (fun hq => ?_) (fun j H hj hij hH => absurd (show nI j < 0 from by rw [← hij]; decide) (nI_pos (by omega)))⟩
  repeat refine hG _ _ _ _ _ _ _ _ _ _ _ ?_
  exact ⟨rfl, by decide, by decide, hQ⟩
theorem k_ack {G : xG} {ro : xR} {sv : Nat → Value} (hG : x_Good G ro sv) {d n pg rm x : Nat} {h : xH} {Q : xQ} (hn : n ≤ 4) (hC : CN n pg rm x h) (hQ : Q (some (.int 0)) h) : G (d + 1) n_X11_ack 0 0 0 [(0, .ref x)] [] h 0 0 Q := by
  obtain ⟨HA, IM, SD, OU, CH, UW, bl, wt, nu, cp, up, f, a1, a2, a3, a4, a5, -⟩ := id hC
  repeat refine hG _ _ _ _ _ _ _ _ _ _ _ ?_
  refine ⟨_, _, a1, rfl, ?_⟩
  repeat refine hG _ _ _ _ _ _ _ _ _ _ _ ?_
  refine ⟨⟨_, a1⟩, 0, 0, by decide, by decide, k_hostAt hG hn hC (fun hq => ?_) (fun j H hj hij hH => absurd (show nI j < 0 from by rw [← hij]; decide) (nI_pos (by omega)))⟩
  repeat refine hG _ _ _ _ _ _ _ _ _ _ _ ?_
  exact ⟨rfl, by decide, by decide, hQ⟩
theorem k_suspect {G : xG} {ro : xR} {sv : Nat → Value} (hG : x_Good G ro sv) {d n pg rm x : Nat} {h : xH} {Q : xQ} {i : Int32} (hn : n ≤ 4) (hC : CN n pg rm x h) (hQ : Q (some (.int 0)) h) : G (d + 1) n_X11_suspect 0 0 0 [(0, .ref x), (1, .int i)] [] h 0 0 Q := by
  obtain ⟨HA, IM, SD, OU, CH, UW, bl, wt, nu, cp, up, f, a1, a2, a3, a4, a5, -⟩ := id hC
  repeat refine hG _ _ _ _ _ _ _ _ _ _ _ ?_
  refine ⟨⟨_, a1⟩, 0, 0, by decide, by decide, k_hostAt hG hn hC (fun hq => ?_) (fun j H hj hij hH => ?_)⟩
  · repeat refine hG _ _ _ _ _ _ _ _ _ _ _ ?_
    exact ⟨rfl, by decide, by decide, hQ⟩
  · obtain ⟨g, ib, kp, mm, dv, rg, ct, mb, mt, pl, c1, c2, c3, c4, c5⟩ := hH
    repeat refine hG _ _ _ _ _ _ _ _ _ _ _ ?_
    refine ⟨_, _, c1, rfl, ?_⟩
    repeat refine hG _ _ _ _ _ _ _ _ _ _ _ ?_
    refine ⟨fun hc => absurd hc (by decide), fun _ => ?_⟩
    repeat refine hG _ _ _ _ _ _ _ _ _ _ _ ?_
    refine ⟨_, _, c1, rfl, ?_⟩
    repeat refine hG _ _ _ _ _ _ _ _ _ _ _ ?_
    refine ⟨fun _ => ?_, fun hc => absurd hc (by decide)⟩
    repeat refine hG _ _ _ _ _ _ _ _ _ _ _ ?_
    exact ⟨rfl, by decide, by decide, hQ⟩
theorem k_protect {G : xG} {ro : xR} {sv : Nat → Value} (hG : x_Good G ro sv) {d n pg rm x : Nat} {h : xH} {Q : xQ} {i : Int32} (hn : n ≤ 4) (hC : CN n pg rm x h) (hQ : Q (some (.int 0)) h) : G (d + 1) n_X11_protect 0 0 0 [(0, .ref x), (1, .int i)] [] h 0 0 Q := by
  obtain ⟨HA, IM, SD, OU, CH, UW, bl, wt, nu, cp, up, f, a1, a2, a3, a4, a5, -⟩ := id hC
  repeat refine hG _ _ _ _ _ _ _ _ _ _ _ ?_
  refine ⟨⟨_, a1⟩, 0, 0, by decide, by decide, k_hostAt hG hn hC (fun hq => ?_) (fun j H hj hij hH => ?_)⟩
  · repeat refine hG _ _ _ _ _ _ _ _ _ _ _ ?_
    refine ⟨⟨_, a1⟩, 0, 0, by decide, by decide, k_onlyLive hG hn hC ?_⟩
    repeat refine hG _ _ _ _ _ _ _ _ _ _ _ ?_
    exact ⟨rfl, by decide, by decide, hQ⟩
  · obtain ⟨g, ib, kp, mm, dv, rg, ct, mb, mt, pl, c1, c2, c3, c4, c5⟩ := hH
    repeat refine hG _ _ _ _ _ _ _ _ _ _ _ ?_
    refine ⟨⟨_, a1⟩, 0, 0, by decide, by decide, k_onlyLive hG hn hC ?_⟩
    repeat refine hG _ _ _ _ _ _ _ _ _ _ _ ?_
    refine ⟨_, _, c1, rfl, ?_⟩
    repeat refine hG _ _ _ _ _ _ _ _ _ _ _ ?_
    refine ⟨fun hc => absurd rfl hc, fun _ => ?_⟩
    repeat refine hG _ _ _ _ _ _ _ _ _ _ _ ?_
    exact ⟨rfl, by decide, by decide, hQ⟩
theorem k_transfer {G : xG} {ro : xR} {sv : Nat → Value} (hG : x_Good G ro sv) {d n pg rm x : Nat} {h : xH} {Q : xQ} (hn : n ≤ 4) (hC : CN n pg rm x h) (hQ : Q (some (.int (-1))) h) : G (d + 1) n_X11_transfer 0 0 0 [(0, .ref x)] [] h 0 0 Q := by
  obtain ⟨HA, IM, SD, OU, CH, UW, bl, wt, nu, cp, up, f, a1, a2, a3, a4, a5, -⟩ := id hC
  repeat refine hG _ _ _ _ _ _ _ _ _ _ _ ?_
  refine ⟨⟨_, a1⟩, 0, 0, by decide, by decide, k_receiving hG hn hC ?_⟩
  repeat refine hG _ _ _ _ _ _ _ _ _ _ _ ?_
  refine ⟨⟨_, a1⟩, 0, 0, by decide, by decide, k_onlyLive hG hn hC ?_⟩
  repeat refine hG _ _ _ _ _ _ _ _ _ _ _ ?_
  exact ⟨rfl, by decide, by decide, hQ⟩
theorem k_repair {G : xG} {ro : xR} {sv : Nat → Value} (hG : x_Good G ro sv) {d n pg rm x : Nat} {h : xH} {Q : xQ} {i : Int32} (hn : n ≤ 4) (hC : CN n pg rm x h) (hQ : Q (some (.int 0)) h) : G (d + 1) n_X11_repair 0 0 0 [(0, .ref x), (1, .int i)] [] h 0 0 Q := by
  obtain ⟨HA, IM, SD, OU, CH, UW, bl, wt, nu, cp, up, f, a1, a2, a3, a4, a5, -⟩ := id hC
  repeat refine hG _ _ _ _ _ _ _ _ _ _ _ ?_
  refine ⟨⟨_, a1⟩, 0, 0, by decide, by decide, k_hostAt hG hn hC (fun hq => ?_) (fun j H hj hij hH => ?_)⟩
  · repeat refine hG _ _ _ _ _ _ _ _ _ _ _ ?_
    exact ⟨rfl, by decide, by decide, hQ⟩
  · obtain ⟨g, ib, kp, mm, dv, rg, ct, mb, mt, pl, c1, c2, c3, c4, c5⟩ := hH
    repeat refine hG _ _ _ _ _ _ _ _ _ _ _ ?_
    refine ⟨_, _, c1, rfl, ?_⟩
    repeat refine hG _ _ _ _ _ _ _ _ _ _ _ ?_
    refine ⟨fun hc => absurd hc (by decide), fun _ => ?_⟩
    repeat refine hG _ _ _ _ _ _ _ _ _ _ _ ?_
    refine ⟨_, _, c1, rfl, ?_⟩
    repeat refine hG _ _ _ _ _ _ _ _ _ _ _ ?_
    refine ⟨fun hc => absurd hc (by decide), fun _ => ?_⟩
    repeat refine hG _ _ _ _ _ _ _ _ _ _ _ ?_
    exact ⟨rfl, by decide, by decide, hQ⟩
theorem k_hasGuest {G : xG} {ro : xR} {sv : Nat → Value} (hG : x_Good G ro sv) {d H : Nat} {h : xH} {Q : xQ} {fs : List Value} (c1 : h H = some (.inr (4, fs))) (hfs : fs[4]? = some (.int 0)) (hQ : Q (some (.int 0)) h) : G d n_X4_hasGuest 0 0 0 [(0, .ref H)] [] h 0 0 Q := by
  repeat refine hG _ _ _ _ _ _ _ _ _ _ _ ?_
  refine ⟨_, _, c1, hfs, ?_⟩
  repeat refine hG _ _ _ _ _ _ _ _ _ _ _ ?_
  refine ⟨fun hc => absurd hc (by decide), fun _ => ?_⟩
  repeat refine hG _ _ _ _ _ _ _ _ _ _ _ ?_
  refine ⟨_, _, c1, hfs, ?_⟩
  repeat refine hG _ _ _ _ _ _ _ _ _ _ _ ?_
  refine ⟨fun hc => absurd hc (by decide), fun _ => ?_⟩
  repeat refine hG _ _ _ _ _ _ _ _ _ _ _ ?_
  refine ⟨_, _, c1, hfs, ?_⟩
  repeat refine hG _ _ _ _ _ _ _ _ _ _ _ ?_
  refine ⟨fun _ => ?_, fun hc => absurd hc (by decide)⟩
  repeat refine hG _ _ _ _ _ _ _ _ _ _ _ ?_
  exact ⟨rfl, by decide, by decide, hQ⟩
theorem k_memory {G : xG} {ro : xR} {sv : Nat → Value} (hG : x_Good G ro sv) {d n pg rm x : Nat} {h : xH} {Q : xQ} {i s : Int32} (hn : n ≤ 4) (hC : CN n pg rm x h) (hQ : Q (some (.int (-1))) h) : G (d + 1) n_X11_memory 0 0 0 [(0, .ref x), (1, .int i), (2, .int s)] [] h 0 0 Q := by
  obtain ⟨HA, IM, SD, OU, CH, UW, bl, wt, nu, cp, up, f, a1, a2, a3, a4, a5, -⟩ := id hC
  repeat refine hG _ _ _ _ _ _ _ _ _ _ _ ?_
  refine ⟨⟨_, a1⟩, 0, 0, by decide, by decide, k_hostAt hG hn hC (fun hq => ?_) (fun j H hj hij hH => ?_)⟩
  · repeat refine hG _ _ _ _ _ _ _ _ _ _ _ ?_
    exact ⟨rfl, by decide, by decide, hQ⟩
  · obtain ⟨g, ib, kp, mm, dv, rg, ct, mb, mt, pl, c1, c2, c3, c4, c5⟩ := hH
    repeat refine hG _ _ _ _ _ _ _ _ _ _ _ ?_
    refine ⟨⟨_, c1⟩, 0, 0, by decide, by decide, k_hasGuest hG c1 rfl ?_⟩
    repeat refine hG _ _ _ _ _ _ _ _ _ _ _ ?_
    refine ⟨fun _ => ?_, fun hc => absurd rfl hc⟩
    repeat refine hG _ _ _ _ _ _ _ _ _ _ _ ?_
    exact ⟨rfl, by decide, by decide, hQ⟩
theorem k_out {G : xG} {ro : xR} {sv : Nat → Value} (hG : x_Good G ro sv) {d n pg rm x : Nat} {h : xH} {Q : xQ} {i : Int32} (hC : CN n pg rm x h) (hQ : Q (some (.int (-1))) h) : G (d + 1) n_X11_out 0 0 0 [(0, .ref x), (1, .int i)] [] h 0 0 Q := by
  obtain ⟨HA, IM, SD, OU, CH, UW, bl, wt, nu, cp, up, f, a1, a2, a3, a4, a5, a6, a7, -⟩ := id hC
  repeat refine hG _ _ _ _ _ _ _ _ _ _ _ ?_
  refine ⟨_, _, a1, rfl, ?_⟩
  repeat refine hG _ _ _ _ _ _ _ _ _ _ _ ?_
  refine ⟨⟨_, a7⟩, 0, 0, by decide, by decide, ?_⟩
  repeat refine hG _ _ _ _ _ _ _ _ _ _ _ ?_
  refine ⟨fun hc => ?_, fun hc => ?_⟩
  · repeat refine hG _ _ _ _ _ _ _ _ _ _ _ ?_
    refine ⟨rfl, by decide, by decide, ?_⟩
    repeat refine hG _ _ _ _ _ _ _ _ _ _ _ ?_
    exact ⟨rfl, by decide, by decide, hQ⟩
  · repeat refine hG _ _ _ _ _ _ _ _ _ _ _ ?_
    refine ⟨_, _, a7, rfl, ?_⟩
    repeat refine hG _ _ _ _ _ _ _ _ _ _ _ ?_
    refine ⟨fun hc2 => absurd hc2 hc, fun _ => ?_⟩
    repeat refine hG _ _ _ _ _ _ _ _ _ _ _ ?_
    refine ⟨rfl, by decide, by decide, ?_⟩
    repeat refine hG _ _ _ _ _ _ _ _ _ _ _ ?_
    exact ⟨rfl, by decide, by decide, hQ⟩
def v_host (n : Nat) (i w : Int32) : Int64 := if i < 0 ∨ nI n ≤ i then -1 else if w < 0 ∨ (14 < w ∧ w < 32) ∨ 71 < w then -2 else 0
theorem k_host {G : xG} {ro : xR} {sv : Nat → Value} (hG : x_Good G ro sv) {d n pg rm x : Nat} {h : xH} {Q : xQ} {i w : Int32} (hn : n ≤ 4) (hC : CN n pg rm x h) (hQ : Q (some (.long (v_host n i w))) h) : G (d + 2) n_X11_host 0 0 0 [(0, .ref x), (1, .int i), (2, .int w)] [] h 0 0 Q := by
  obtain ⟨HA, IM, SD, OU, CH, UW, bl, wt, nu, cp, up, f, a1, a2, a3, a4, a5, -⟩ := id hC
  repeat refine hG _ _ _ _ _ _ _ _ _ _ _ ?_
  refine ⟨⟨_, a1⟩, 0, 0, by decide, by decide, k_hostAt hG hn hC (fun hq => ?_) (fun j H hj hij hH => ?_)⟩
  · rw [v_host, if_pos hq] at hQ
    repeat refine hG _ _ _ _ _ _ _ _ _ _ _ ?_
    exact ⟨by decide, by decide, hQ⟩
  · obtain ⟨g, ib, kp, mm, dv, rg, ct, mb, mt, pl, c1, c2, c3, c4, c5⟩ := hH
    have hno : ¬ (i < 0 ∨ nI n ≤ i) := by
      subst hij
      exact fun q => q.elim (nI_pos (by omega)) (nI_ge hj (by omega))
    rw [v_host, if_neg hno] at hQ
    have good : ∀ (hw : ¬ (w < 0 ∨ (14 < w ∧ w < 32) ∨ 71 < w)), G (d + 2) n_X11_host 0 0 40 [(3, .ref H), (0, .ref x), (1, .int i), (2, .int w)] [] h 0 0 Q := by
      intro hw
      rw [if_neg hw] at hQ
      repeat refine hG _ _ _ _ _ _ _ _ _ _ _ ?_
      refine ⟨fun hc => ?_, fun hc => ?_⟩
      · repeat refine hG _ _ _ _ _ _ _ _ _ _ _ ?_
        refine ⟨fun hc2 => ?_, fun hc2 => ?_⟩
        · repeat refine hG _ _ _ _ _ _ _ _ _ _ _ ?_
          refine ⟨⟨_, c1⟩, 0, 0, by decide, by decide, k_hasGuest hG c1 rfl ?_⟩
          repeat refine hG _ _ _ _ _ _ _ _ _ _ _ ?_
          refine ⟨fun hc => absurd rfl hc, fun _ => ?_⟩
          repeat refine hG _ _ _ _ _ _ _ _ _ _ _ ?_
          exact ⟨by decide, by decide, hQ⟩
        · repeat refine hG _ _ _ _ _ _ _ _ _ _ _ ?_
          refine ⟨⟨_, a1⟩, 0, 0, by decide, by decide, ?_⟩
          repeat refine hG _ _ _ _ _ _ _ _ _ _ _ ?_
          refine ⟨⟨_, a1⟩, 0, 0, by decide, by decide, k_onlyLive hG hn hC ?_⟩
          repeat refine hG _ _ _ _ _ _ _ _ _ _ _ ?_
          refine ⟨_, _, c1, rfl, ?_⟩
          repeat refine hG _ _ _ _ _ _ _ _ _ _ _ ?_
          refine ⟨fun _ => ?_, fun hc => absurd hc (by decide)⟩
          repeat refine hG _ _ _ _ _ _ _ _ _ _ _ ?_
          refine ⟨rfl, by decide, by decide, ?_⟩
          repeat refine hG _ _ _ _ _ _ _ _ _ _ _ ?_
          exact ⟨by decide, by decide, hQ⟩
      · repeat refine hG _ _ _ _ _ _ _ _ _ _ _ ?_
        refine ⟨_, _, c1, rfl, ?_⟩
        repeat refine hG _ _ _ _ _ _ _ _ _ _ _ ?_
        exact ⟨by decide, by decide, hQ⟩
    have bad : ∀ (hw : w < 0 ∨ (14 < w ∧ w < 32) ∨ 71 < w), G (d + 2) n_X11_host 0 0 36 [(3, .ref H), (0, .ref x), (1, .int i), (2, .int w)] [] h 0 0 Q := by
      intro hw
      rw [if_pos hw] at hQ
      repeat refine hG _ _ _ _ _ _ _ _ _ _ _ ?_
      exact ⟨by decide, by decide, hQ⟩
    repeat refine hG _ _ _ _ _ _ _ _ _ _ _ ?_
    refine ⟨fun hc => bad (Or.inl hc), fun hc => ?_⟩
    repeat refine hG _ _ _ _ _ _ _ _ _ _ _ ?_
    refine ⟨fun hc2 => ?_, fun hc2 => ?_⟩
    · repeat refine hG _ _ _ _ _ _ _ _ _ _ _ ?_
      refine ⟨fun hc3 => good (fun q => ?_), fun hc3 => bad (Or.inr (Or.inr (Int32.not_le.mp hc3)))⟩
      rcases q with q | q | q
      · exact hc q
      · exact Int32.not_lt.mpr hc2 q.1
      · exact Int32.not_lt.mpr hc3 q
    · repeat refine hG _ _ _ _ _ _ _ _ _ _ _ ?_
      refine ⟨fun hc3 => bad (Or.inr (Or.inl ⟨Int32.not_le.mp hc2, hc3⟩)), fun hc3 => ?_⟩
      repeat refine hG _ _ _ _ _ _ _ _ _ _ _ ?_
      refine ⟨fun hc4 => good (fun q => ?_), fun hc4 => bad (Or.inr (Or.inr (Int32.not_le.mp hc4)))⟩
      rcases q with q | q | q
      · exact hc q
      · exact hc3 q.2
      · exact Int32.not_lt.mpr hc4 q
