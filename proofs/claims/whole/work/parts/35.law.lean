def sc (L : Nat) (xs : Nat → Int32) (k : Nat) : Int32 := if k < L then xs k else 0
theorem l_cell {G : xG} {ro : xR} {sv : Nat → Value} (hG : x_Good G ro sv) {d b L k : Nat} {xs : Nat → Int32} {h : xH} {Q : xQ} (hL : L < 2 ^ 31) (hk : k < 2 ^ 31) (hro : ro b = some (L, xs)) (hQ : Q (some (.int (sc L xs k))) h) : G d n_L_cell 0 0 0 [(0, .ref b), (1, .int (nI k))] [] h 0 0 Q := by
  repeat refine hG _ _ _ _ _ _ _ _ _ _ _ ?_
  refine ⟨L, Or.inr ⟨xs, hro⟩, ?_⟩
  repeat refine hG _ _ _ _ _ _ _ _ _ _ _ ?_
  refine ⟨fun hc => ?_, fun hc => ?_⟩
  · have hlt : ¬ k < L := fun q => absurd (show nI L ≤ nI k from hc) (nI_ge q hL)
    rw [sc, if_neg hlt] at hQ
    repeat refine hG _ _ _ _ _ _ _ _ _ _ _ ?_
    exact ⟨rfl, by decide, by decide, hQ⟩
  · have hlt : k < L := by
      rcases Nat.lt_or_ge k L with q | q
      · exact q
      · exact absurd (show Int32.ofNat L ≤ nI k from nI_le q hk) hc
    rw [sc, if_pos hlt] at hQ
    repeat refine hG _ _ _ _ _ _ _ _ _ _ _ ?_
    refine ⟨_, _, Or.inr hro, vp_in_nI hlt hL, ?_⟩
    repeat refine hG _ _ _ _ _ _ _ _ _ _ _ ?_
    refine ⟨rfl, by decide, by decide, ?_⟩
    rw [nI_clamp hk]
    exact hQ
def FR (n pg rm x m : Nat) (ra : Nat → Nat) (hx h : xH) : Prop := 2 ≤ n ∧ n ≤ 4 ∧ (4 ≤ pg ∧ pg ≤ 16) ∧ CN n pg rm x hx ∧ hx m = none ∧ (∀ k, r_isA k = true → hx (ra k) = none) ∧ (∀ b e, hx b = some e → h b = some e) ∧ RepR m ra (r_0 n pg rm) r_t0 h
theorem FR.C {n pg rm x m : Nat} {ra : Nat → Nat} {hx h : xH} (h1 : FR n pg rm x m ra hx h) : CN n pg rm x h := h1.2.2.2.1.mono h1.2.2.2.2.2.2.1
theorem FR.R {n pg rm x m : Nat} {ra : Nat → Nat} {hx h h' : xH} (h1 : FR n pg rm x m ra hx h) (hf : ∀ b, hx b = none → h' b = h b) : RepR m ra (r_0 n pg rm) r_t0 h' := by
  obtain ⟨-, -, -, -, a1, a2, -, r1, r2, r3, r4⟩ := h1
  exact ⟨by rw [hf m a1]; exact r1, fun k hk => by rw [hf _ (a2 k hk)]; exact r2 k hk, r3, r4⟩
theorem FR.x {n pg rm x m : Nat} {ra : Nat → Nat} {hx h : xH} (h1 : FR n pg rm x m ra hx h) : ∃ fs, h x = some (.inr (11, fs)) := by
  obtain ⟨HA, IM, SD, OU, CH, UW, bl, wt, nu, cp, up, f, a1, -⟩ := h1.C
  exact ⟨_, a1⟩
abbrev l_lv (b x m : Nat) : xL := [(3, .int 3), (2, .ref m), (1, .ref x), (0, .ref b)]
theorem l_put {G : xG} {ro : xR} {sv : Nat → Value} (hG : x_Good G ro sv) {b x m n pg rm cs sl : Nat} {ra : Nat → Nat} {xs : Nat → Int32} {hx h : xH} {Q : xQ} (hro : ro b = some (13, xs)) (hcs : cs ≤ 600000) (hsl : sl ≤ 7302250) (hF : FR n pg rm x m ra hx h) (hQ : ∀ h', G 9 n_L_law 600000 7302250 751 (l_lv b x m) [] h' cs sl Q) : G 9 n_L_law 600000 7302250 148 (l_lv b x m) [] h cs sl Q := by
  repeat refine hG _ _ _ _ _ _ _ _ _ _ _ ?_
  refine ⟨_, _, Or.inr hro, (by unfold vp_in; decide), ?_⟩
  repeat refine hG _ _ _ _ _ _ _ _ _ _ _ ?_
  refine ⟨_, _, Or.inr hro, (by unfold vp_in; decide), ?_⟩
  repeat refine hG _ _ _ _ _ _ _ _ _ _ _ ?_
  refine ⟨_, _, Or.inr hro, (by unfold vp_in; decide), ?_⟩
  repeat refine hG _ _ _ _ _ _ _ _ _ _ _ ?_
  refine ⟨hF.x, 0, 0, hcs, hsl, k_put hG hF.2.2.1 hF.2.2.2.1 hF.2.2.2.2.2.2.1 (fun h' hf => ?_)⟩
  repeat refine hG _ _ _ _ _ _ _ _ _ _ _ ?_
  refine ⟨_, _, Or.inr hro, (by unfold vp_in; decide), ?_⟩
  repeat refine hG _ _ _ _ _ _ _ _ _ _ _ ?_
  refine ⟨_, _, Or.inr hro, (by unfold vp_in; decide), ?_⟩
  repeat refine hG _ _ _ _ _ _ _ _ _ _ _ ?_
  refine ⟨_, _, Or.inr hro, (by unfold vp_in; decide), ?_⟩
  repeat refine hG _ _ _ _ _ _ _ _ _ _ _ ?_
  refine ⟨⟨_, (hF.R hf).1⟩, 0, 0, hcs, hsl, s_put hG hF.2.2.1 (hF.R hf) (fun h2 => ?_)⟩
  refine hG _ _ _ _ _ _ _ _ _ _ _ ?_
  exact ⟨fun _ => hQ h2, fun hc => absurd rfl hc⟩
theorem l_boot {G : xG} {ro : xR} {sv : Nat → Value} (hG : x_Good G ro sv) {b x m n pg rm cs sl : Nat} {ra : Nat → Nat} {xs : Nat → Int32} {hx h : xH} {Q : xQ} (hro : ro b = some (13, xs)) (hcs : cs ≤ 600000) (hsl : sl ≤ 7302250) (hF : FR n pg rm x m ra hx h) (hQ : ∀ h', G 9 n_L_law 600000 7302250 751 (l_lv b x m) [] h' cs sl Q) : G 9 n_L_law 600000 7302250 211 (l_lv b x m) [] h cs sl Q := by
  repeat refine hG _ _ _ _ _ _ _ _ _ _ _ ?_
  refine ⟨hF.x, 0, 0, hcs, hsl, k_boot hG hF.1 hF.2.1 hF.2.2.1 hF.2.2.2.1 hF.2.2.2.2.2.2.1 (fun h' hf => ?_)⟩
  repeat refine hG _ _ _ _ _ _ _ _ _ _ _ ?_
  refine ⟨⟨_, (hF.R hf).1⟩, 0, 0, hcs, hsl, s_boot hG (hF.R hf) (fun h2 => ?_)⟩
  refine hG _ _ _ _ _ _ _ _ _ _ _ ?_
  exact ⟨fun _ => hQ h2, fun hc => absurd rfl hc⟩
theorem l_run {G : xG} {ro : xR} {sv : Nat → Value} (hG : x_Good G ro sv) {b x m n pg rm cs sl : Nat} {ra : Nat → Nat} {xs : Nat → Int32} {hx h : xH} {Q : xQ} (hro : ro b = some (13, xs)) (hcs : cs ≤ 600000) (hsl : sl ≤ 7302250) (hF : FR n pg rm x m ra hx h) (hQ : ∀ h', G 9 n_L_law 600000 7302250 751 (l_lv b x m) [] h' cs sl Q) : G 9 n_L_law 600000 7302250 224 (l_lv b x m) [] h cs sl Q := by
  repeat refine hG _ _ _ _ _ _ _ _ _ _ _ ?_
  refine ⟨_, _, Or.inr hro, (by unfold vp_in; decide), ?_⟩
  repeat refine hG _ _ _ _ _ _ _ _ _ _ _ ?_
  refine ⟨_, _, Or.inr hro, (by unfold vp_in; decide), ?_⟩
  repeat refine hG _ _ _ _ _ _ _ _ _ _ _ ?_
  refine ⟨hF.x, 0, 0, hcs, hsl, k_run hG hF.2.1 hF.C ?_⟩
  repeat refine hG _ _ _ _ _ _ _ _ _ _ _ ?_
  refine ⟨_, _, Or.inr hro, (by unfold vp_in; decide), ?_⟩
  repeat refine hG _ _ _ _ _ _ _ _ _ _ _ ?_
  refine ⟨_, _, Or.inr hro, (by unfold vp_in; decide), ?_⟩
  repeat refine hG _ _ _ _ _ _ _ _ _ _ _ ?_
  refine ⟨⟨_, (hF.R (fun _ _ => rfl)).1⟩, 0, 0, hcs, hsl, s_run hG hF.2.1 (hF.R (fun _ _ => rfl)) (fun h2 => ?_)⟩
  refine hG _ _ _ _ _ _ _ _ _ _ _ ?_
  exact ⟨fun _ => hQ h2, fun hc => absurd rfl hc⟩
theorem l_key {G : xG} {ro : xR} {sv : Nat → Value} (hG : x_Good G ro sv) {b x m n pg rm cs sl : Nat} {ra : Nat → Nat} {xs : Nat → Int32} {hx h : xH} {Q : xQ} (hro : ro b = some (13, xs)) (hcs : cs ≤ 600000) (hsl : sl ≤ 7302250) (hF : FR n pg rm x m ra hx h) (hQ : ∀ h', G 9 n_L_law 600000 7302250 751 (l_lv b x m) [] h' cs sl Q) : G 9 n_L_law 600000 7302250 257 (l_lv b x m) [] h cs sl Q := by
  repeat refine hG _ _ _ _ _ _ _ _ _ _ _ ?_
  refine ⟨_, _, Or.inr hro, (by unfold vp_in; decide), ?_⟩
  repeat refine hG _ _ _ _ _ _ _ _ _ _ _ ?_
  refine ⟨hF.x, 0, 0, hcs, hsl, k_key hG hF.2.1 hF.C ?_⟩
  repeat refine hG _ _ _ _ _ _ _ _ _ _ _ ?_
  refine ⟨_, _, Or.inr hro, (by unfold vp_in; decide), ?_⟩
  repeat refine hG _ _ _ _ _ _ _ _ _ _ _ ?_
  refine ⟨⟨_, (hF.R (fun _ _ => rfl)).1⟩, 0, 0, hcs, hsl, s_key hG hF.2.1 (hF.R (fun _ _ => rfl)) (fun h2 => ?_)⟩
  refine hG _ _ _ _ _ _ _ _ _ _ _ ?_
  exact ⟨fun _ => hQ h2, fun hc => absurd rfl hc⟩
theorem l_packet {G : xG} {ro : xR} {sv : Nat → Value} (hG : x_Good G ro sv) {b x m n pg rm cs sl : Nat} {ra : Nat → Nat} {xs : Nat → Int32} {hx h : xH} {Q : xQ} (hro : ro b = some (13, xs)) (hcs : cs ≤ 600000) (hsl : sl ≤ 7302250) (hF : FR n pg rm x m ra hx h) (hQ : ∀ h', G 9 n_L_law 600000 7302250 751 (l_lv b x m) [] h' cs sl Q) : G 9 n_L_law 600000 7302250 280 (l_lv b x m) [] h cs sl Q := by
  repeat refine hG _ _ _ _ _ _ _ _ _ _ _ ?_
  refine ⟨_, _, Or.inr hro, (by unfold vp_in; decide), ?_⟩
  repeat refine hG _ _ _ _ _ _ _ _ _ _ _ ?_
  refine ⟨_, _, Or.inr hro, (by unfold vp_in; decide), ?_⟩
  repeat refine hG _ _ _ _ _ _ _ _ _ _ _ ?_
  refine ⟨_, _, Or.inr hro, (by unfold vp_in; decide), ?_⟩
  repeat refine hG _ _ _ _ _ _ _ _ _ _ _ ?_
  refine ⟨_, _, Or.inr hro, (by unfold vp_in; decide), ?_⟩
  repeat refine hG _ _ _ _ _ _ _ _ _ _ _ ?_
  refine ⟨_, _, Or.inr hro, (by unfold vp_in; decide), ?_⟩
  repeat refine hG _ _ _ _ _ _ _ _ _ _ _ ?_
  refine ⟨_, _, Or.inr hro, (by unfold vp_in; decide), ?_⟩
  repeat refine hG _ _ _ _ _ _ _ _ _ _ _ ?_
  refine ⟨_, _, Or.inr hro, (by unfold vp_in; decide), ?_⟩
  repeat refine hG _ _ _ _ _ _ _ _ _ _ _ ?_
  refine ⟨_, _, Or.inr hro, (by unfold vp_in; decide), ?_⟩
  repeat refine hG _ _ _ _ _ _ _ _ _ _ _ ?_
  refine ⟨_, _, Or.inr hro, (by unfold vp_in; decide), ?_⟩
  repeat refine hG _ _ _ _ _ _ _ _ _ _ _ ?_
  refine ⟨hF.x, 0, 0, hcs, hsl, k_packet hG hF.2.1 hF.C ?_⟩
  repeat refine hG _ _ _ _ _ _ _ _ _ _ _ ?_
  refine ⟨_, _, Or.inr hro, (by unfold vp_in; decide), ?_⟩
  repeat refine hG _ _ _ _ _ _ _ _ _ _ _ ?_
  refine ⟨_, _, Or.inr hro, (by unfold vp_in; decide), ?_⟩
  repeat refine hG _ _ _ _ _ _ _ _ _ _ _ ?_
  refine ⟨_, _, Or.inr hro, (by unfold vp_in; decide), ?_⟩
  repeat refine hG _ _ _ _ _ _ _ _ _ _ _ ?_
  refine ⟨_, _, Or.inr hro, (by unfold vp_in; decide), ?_⟩
  repeat refine hG _ _ _ _ _ _ _ _ _ _ _ ?_
  refine ⟨_, _, Or.inr hro, (by unfold vp_in; decide), ?_⟩
  repeat refine hG _ _ _ _ _ _ _ _ _ _ _ ?_
  refine ⟨_, _, Or.inr hro, (by unfold vp_in; decide), ?_⟩
  repeat refine hG _ _ _ _ _ _ _ _ _ _ _ ?_
  refine ⟨_, _, Or.inr hro, (by unfold vp_in; decide), ?_⟩
  repeat refine hG _ _ _ _ _ _ _ _ _ _ _ ?_
  refine ⟨_, _, Or.inr hro, (by unfold vp_in; decide), ?_⟩
  repeat refine hG _ _ _ _ _ _ _ _ _ _ _ ?_
  refine ⟨_, _, Or.inr hro, (by unfold vp_in; decide), ?_⟩
  repeat refine hG _ _ _ _ _ _ _ _ _ _ _ ?_
  refine ⟨⟨_, (hF.R (fun _ _ => rfl)).1⟩, 0, 0, hcs, hsl, s_packet hG hF.2.1 (hF.R (fun _ _ => rfl)) (fun h2 => ?_)⟩
  refine hG _ _ _ _ _ _ _ _ _ _ _ ?_
  exact ⟨fun _ => hQ h2, fun hc => absurd rfl hc⟩
theorem l_tick {G : xG} {ro : xR} {sv : Nat → Value} (hG : x_Good G ro sv) {b x m n pg rm cs sl : Nat} {ra : Nat → Nat} {xs : Nat → Int32} {hx h : xH} {Q : xQ} (hro : ro b = some (13, xs)) (hcs : cs ≤ 600000) (hsl : sl ≤ 7302250) (hF : FR n pg rm x m ra hx h) (hQ : ∀ h', G 9 n_L_law 600000 7302250 751 (l_lv b x m) [] h' cs sl Q) : G 9 n_L_law 600000 7302250 471 (l_lv b x m) [] h cs sl Q := by
  repeat refine hG _ _ _ _ _ _ _ _ _ _ _ ?_
  refine ⟨hF.x, 0, 0, hcs, hsl, k_tick hG hF.2.1 hF.C ?_⟩
  repeat refine hG _ _ _ _ _ _ _ _ _ _ _ ?_
  refine ⟨⟨_, (hF.R (fun _ _ => rfl)).1⟩, 0, 0, hcs, hsl, s_tick hG hF.2.1 (hF.R (fun _ _ => rfl)) (fun h2 => ?_)⟩
  refine hG _ _ _ _ _ _ _ _ _ _ _ ?_
  exact ⟨fun _ => hQ h2, fun hc => absurd rfl hc⟩
theorem l_disk {G : xG} {ro : xR} {sv : Nat → Value} (hG : x_Good G ro sv) {b x m n pg rm cs sl : Nat} {ra : Nat → Nat} {xs : Nat → Int32} {hx h : xH} {Q : xQ} (hro : ro b = some (13, xs)) (hcs : cs ≤ 600000) (hsl : sl ≤ 7302250) (hF : FR n pg rm x m ra hx h) (hQ : ∀ h', G 9 n_L_law 600000 7302250 751 (l_lv b x m) [] h' cs sl Q) : G 9 n_L_law 600000 7302250 484 (l_lv b x m) [] h cs sl Q := by
  repeat refine hG _ _ _ _ _ _ _ _ _ _ _ ?_
  refine ⟨hF.x, 0, 0, hcs, hsl, k_disk hG hF.C ?_⟩
  repeat refine hG _ _ _ _ _ _ _ _ _ _ _ ?_
  refine ⟨⟨_, (hF.R (fun _ _ => rfl)).1⟩, 0, 0, hcs, hsl, s_disk hG (hF.R (fun _ _ => rfl)) (fun h2 => ?_)⟩
  refine hG _ _ _ _ _ _ _ _ _ _ _ ?_
  exact ⟨fun _ => hQ h2, fun hc => absurd rfl hc⟩
theorem l_deliver {G : xG} {ro : xR} {sv : Nat → Value} (hG : x_Good G ro sv) {b x m n pg rm cs sl : Nat} {ra : Nat → Nat} {xs : Nat → Int32} {hx h : xH} {Q : xQ} (hro : ro b = some (13, xs)) (hcs : cs ≤ 600000) (hsl : sl ≤ 7302250) (hF : FR n pg rm x m ra hx h) (hQ : ∀ h', G 9 n_L_law 600000 7302250 751 (l_lv b x m) [] h' cs sl Q) : G 9 n_L_law 600000 7302250 497 (l_lv b x m) [] h cs sl Q := by
  repeat refine hG _ _ _ _ _ _ _ _ _ _ _ ?_
  refine ⟨hF.x, 0, 0, hcs, hsl, k_deliver hG hF.2.1 hF.C ?_⟩
  repeat refine hG _ _ _ _ _ _ _ _ _ _ _ ?_
  refine ⟨⟨_, (hF.R (fun _ _ => rfl)).1⟩, 0, 0, hcs, hsl, s_deliver hG hF.2.1 (hF.R (fun _ _ => rfl)) (fun h2 => ?_)⟩
  refine hG _ _ _ _ _ _ _ _ _ _ _ ?_
  exact ⟨fun _ => hQ h2, fun hc => absurd rfl hc⟩
theorem l_ack {G : xG} {ro : xR} {sv : Nat → Value} (hG : x_Good G ro sv) {b x m n pg rm cs sl : Nat} {ra : Nat → Nat} {xs : Nat → Int32} {hx h : xH} {Q : xQ} (hro : ro b = some (13, xs)) (hcs : cs ≤ 600000) (hsl : sl ≤ 7302250) (hF : FR n pg rm x m ra hx h) (hQ : ∀ h', G 9 n_L_law 600000 7302250 751 (l_lv b x m) [] h' cs sl Q) : G 9 n_L_law 600000 7302250 510 (l_lv b x m) [] h cs sl Q := by
  repeat refine hG _ _ _ _ _ _ _ _ _ _ _ ?_
  refine ⟨hF.x, 0, 0, hcs, hsl, k_ack hG hF.2.1 hF.C ?_⟩
  repeat refine hG _ _ _ _ _ _ _ _ _ _ _ ?_
  refine ⟨⟨_, (hF.R (fun _ _ => rfl)).1⟩, 0, 0, hcs, hsl, s_ack hG hF.2.1 (hF.R (fun _ _ => rfl)) (fun h2 => ?_)⟩
  refine hG _ _ _ _ _ _ _ _ _ _ _ ?_
  exact ⟨fun _ => hQ h2, fun hc => absurd rfl hc⟩
theorem l_suspect {G : xG} {ro : xR} {sv : Nat → Value} (hG : x_Good G ro sv) {b x m n pg rm cs sl : Nat} {ra : Nat → Nat} {xs : Nat → Int32} {hx h : xH} {Q : xQ} (hro : ro b = some (13, xs)) (hcs : cs ≤ 600000) (hsl : sl ≤ 7302250) (hF : FR n pg rm x m ra hx h) (hQ : ∀ h', G 9 n_L_law 600000 7302250 751 (l_lv b x m) [] h' cs sl Q) : G 9 n_L_law 600000 7302250 523 (l_lv b x m) [] h cs sl Q := by
  repeat refine hG _ _ _ _ _ _ _ _ _ _ _ ?_
  refine ⟨_, _, Or.inr hro, (by unfold vp_in; decide), ?_⟩
  repeat refine hG _ _ _ _ _ _ _ _ _ _ _ ?_
  refine ⟨hF.x, 0, 0, hcs, hsl, k_suspect hG hF.2.1 hF.C ?_⟩
  repeat refine hG _ _ _ _ _ _ _ _ _ _ _ ?_
  refine ⟨_, _, Or.inr hro, (by unfold vp_in; decide), ?_⟩
  repeat refine hG _ _ _ _ _ _ _ _ _ _ _ ?_
  refine ⟨⟨_, (hF.R (fun _ _ => rfl)).1⟩, 0, 0, hcs, hsl, s_suspect hG hF.2.1 (hF.R (fun _ _ => rfl)) (fun h2 => ?_)⟩
  refine hG _ _ _ _ _ _ _ _ _ _ _ ?_
  exact ⟨fun _ => hQ h2, fun hc => absurd rfl hc⟩
theorem l_protect {G : xG} {ro : xR} {sv : Nat → Value} (hG : x_Good G ro sv) {b x m n pg rm cs sl : Nat} {ra : Nat → Nat} {xs : Nat → Int32} {hx h : xH} {Q : xQ} (hro : ro b = some (13, xs)) (hcs : cs ≤ 600000) (hsl : sl ≤ 7302250) (hF : FR n pg rm x m ra hx h) (hQ : ∀ h', G 9 n_L_law 600000 7302250 751 (l_lv b x m) [] h' cs sl Q) : G 9 n_L_law 600000 7302250 546 (l_lv b x m) [] h cs sl Q := by
  repeat refine hG _ _ _ _ _ _ _ _ _ _ _ ?_
  refine ⟨_, _, Or.inr hro, (by unfold vp_in; decide), ?_⟩
  repeat refine hG _ _ _ _ _ _ _ _ _ _ _ ?_
  refine ⟨hF.x, 0, 0, hcs, hsl, k_protect hG hF.2.1 hF.C ?_⟩
  repeat refine hG _ _ _ _ _ _ _ _ _ _ _ ?_
  refine ⟨_, _, Or.inr hro, (by unfold vp_in; decide), ?_⟩
  repeat refine hG _ _ _ _ _ _ _ _ _ _ _ ?_
  refine ⟨⟨_, (hF.R (fun _ _ => rfl)).1⟩, 0, 0, hcs, hsl, s_protect hG hF.2.1 (hF.R (fun _ _ => rfl)) (fun h2 => ?_)⟩
  refine hG _ _ _ _ _ _ _ _ _ _ _ ?_
  exact ⟨fun _ => hQ h2, fun hc => absurd rfl hc⟩
theorem l_transfer {G : xG} {ro : xR} {sv : Nat → Value} (hG : x_Good G ro sv) {b x m n pg rm cs sl : Nat} {ra : Nat → Nat} {xs : Nat → Int32} {hx h : xH} {Q : xQ} (hro : ro b = some (13, xs)) (hcs : cs ≤ 600000) (hsl : sl ≤ 7302250) (hF : FR n pg rm x m ra hx h) (hQ : ∀ h', G 9 n_L_law 600000 7302250 751 (l_lv b x m) [] h' cs sl Q) : G 9 n_L_law 600000 7302250 569 (l_lv b x m) [] h cs sl Q := by
  repeat refine hG _ _ _ _ _ _ _ _ _ _ _ ?_
  refine ⟨hF.x, 0, 0, hcs, hsl, k_transfer hG hF.2.1 hF.C ?_⟩
  repeat refine hG _ _ _ _ _ _ _ _ _ _ _ ?_
  refine ⟨⟨_, (hF.R (fun _ _ => rfl)).1⟩, 0, 0, hcs, hsl, s_transfer hG (hF.R (fun _ _ => rfl)) (fun h2 => ?_)⟩
  refine hG _ _ _ _ _ _ _ _ _ _ _ ?_
  exact ⟨fun _ => hQ h2, fun hc => absurd rfl hc⟩
theorem l_crash {G : xG} {ro : xR} {sv : Nat → Value} (hG : x_Good G ro sv) {b x m n pg rm cs sl : Nat} {ra : Nat → Nat} {xs : Nat → Int32} {hx h : xH} {Q : xQ} (hro : ro b = some (13, xs)) (hcs : cs ≤ 600000) (hsl : sl ≤ 7302250) (hF : FR n pg rm x m ra hx h) (hQ : ∀ h', G 9 n_L_law 600000 7302250 751 (l_lv b x m) [] h' cs sl Q) : G 9 n_L_law 600000 7302250 582 (l_lv b x m) [] h cs sl Q := by
  repeat refine hG _ _ _ _ _ _ _ _ _ _ _ ?_
  refine ⟨_, _, Or.inr hro, (by unfold vp_in; decide), ?_⟩
  repeat refine hG _ _ _ _ _ _ _ _ _ _ _ ?_
  refine ⟨hF.x, 0, 0, hcs, hsl, k_crash hG hF.2.1 hF.2.2.2.1 hF.2.2.2.2.2.2.1 (fun h' hf => ?_)⟩
  repeat refine hG _ _ _ _ _ _ _ _ _ _ _ ?_
  refine ⟨_, _, Or.inr hro, (by unfold vp_in; decide), ?_⟩
  repeat refine hG _ _ _ _ _ _ _ _ _ _ _ ?_
  refine ⟨⟨_, (hF.R hf).1⟩, 0, 0, hcs, hsl, s_crash hG hF.2.1 (hF.R hf) (fun h2 => ?_)⟩
  refine hG _ _ _ _ _ _ _ _ _ _ _ ?_
  exact ⟨fun _ => hQ h2, fun hc => absurd rfl hc⟩
theorem l_repair {G : xG} {ro : xR} {sv : Nat → Value} (hG : x_Good G ro sv) {b x m n pg rm cs sl : Nat} {ra : Nat → Nat} {xs : Nat → Int32} {hx h : xH} {Q : xQ} (hro : ro b = some (13, xs)) (hcs : cs ≤ 600000) (hsl : sl ≤ 7302250) (hF : FR n pg rm x m ra hx h) (hQ : ∀ h', G 9 n_L_law 600000 7302250 751 (l_lv b x m) [] h' cs sl Q) : G 9 n_L_law 600000 7302250 605 (l_lv b x m) [] h cs sl Q := by
  repeat refine hG _ _ _ _ _ _ _ _ _ _ _ ?_
  refine ⟨_, _, Or.inr hro, (by unfold vp_in; decide), ?_⟩
  repeat refine hG _ _ _ _ _ _ _ _ _ _ _ ?_
  refine ⟨hF.x, 0, 0, hcs, hsl, k_repair hG hF.2.1 hF.C ?_⟩
  repeat refine hG _ _ _ _ _ _ _ _ _ _ _ ?_
  refine ⟨_, _, Or.inr hro, (by unfold vp_in; decide), ?_⟩
  repeat refine hG _ _ _ _ _ _ _ _ _ _ _ ?_
  refine ⟨⟨_, (hF.R (fun _ _ => rfl)).1⟩, 0, 0, hcs, hsl, s_repair hG hF.2.1 (hF.R (fun _ _ => rfl)) (fun h2 => ?_)⟩
  refine hG _ _ _ _ _ _ _ _ _ _ _ ?_
  exact ⟨fun _ => hQ h2, fun hc => absurd rfl hc⟩
theorem l_host {G : xG} {ro : xR} {sv : Nat → Value} (hG : x_Good G ro sv) {b x m n pg rm cs sl : Nat} {ra : Nat → Nat} {xs : Nat → Int32} {hx h : xH} {Q : xQ} (hro : ro b = some (13, xs)) (hcs : cs ≤ 600000) (hsl : sl ≤ 7302250) (hF : FR n pg rm x m ra hx h) (hQ : ∀ h', G 9 n_L_law 600000 7302250 751 (l_lv b x m) [] h' cs sl Q) : G 9 n_L_law 600000 7302250 628 (l_lv b x m) [] h cs sl Q := by
  repeat refine hG _ _ _ _ _ _ _ _ _ _ _ ?_
  refine ⟨_, _, Or.inr hro, (by unfold vp_in; decide), ?_⟩
  repeat refine hG _ _ _ _ _ _ _ _ _ _ _ ?_
  refine ⟨_, _, Or.inr hro, (by unfold vp_in; decide), ?_⟩
  repeat refine hG _ _ _ _ _ _ _ _ _ _ _ ?_
  refine ⟨hF.x, 0, 0, hcs, hsl, k_host hG hF.2.1 hF.C ?_⟩
  repeat refine hG _ _ _ _ _ _ _ _ _ _ _ ?_
  refine ⟨_, _, Or.inr hro, (by unfold vp_in; decide), ?_⟩
  repeat refine hG _ _ _ _ _ _ _ _ _ _ _ ?_
  refine ⟨_, _, Or.inr hro, (by unfold vp_in; decide), ?_⟩
  repeat refine hG _ _ _ _ _ _ _ _ _ _ _ ?_
  refine ⟨⟨_, (hF.R (fun _ _ => rfl)).1⟩, 0, 0, hcs, hsl, s_host hG hF.2.1 (hF.R (fun _ _ => rfl)) (fun h2 => ?_)⟩
  refine hG _ _ _ _ _ _ _ _ _ _ _ ?_
  refine hG _ _ _ _ _ _ _ _ _ _ _ ?_
  refine ⟨fun _ => hQ h2, fun hc => absurd ?_ hc⟩
  rw [lg_cmp, if_neg (Int64.lt_irrefl), if_pos rfl]
theorem l_memory {G : xG} {ro : xR} {sv : Nat → Value} (hG : x_Good G ro sv) {b x m n pg rm cs sl : Nat} {ra : Nat → Nat} {xs : Nat → Int32} {hx h : xH} {Q : xQ} (hro : ro b = some (13, xs)) (hcs : cs ≤ 600000) (hsl : sl ≤ 7302250) (hF : FR n pg rm x m ra hx h) (hQ : ∀ h', G 9 n_L_law 600000 7302250 751 (l_lv b x m) [] h' cs sl Q) : G 9 n_L_law 600000 7302250 662 (l_lv b x m) [] h cs sl Q := by
  repeat refine hG _ _ _ _ _ _ _ _ _ _ _ ?_
  refine ⟨_, _, Or.inr hro, (by unfold vp_in; decide), ?_⟩
  repeat refine hG _ _ _ _ _ _ _ _ _ _ _ ?_
  refine ⟨_, _, Or.inr hro, (by unfold vp_in; decide), ?_⟩
  repeat refine hG _ _ _ _ _ _ _ _ _ _ _ ?_
  refine ⟨hF.x, 0, 0, hcs, hsl, k_memory hG hF.2.1 hF.C ?_⟩
  repeat refine hG _ _ _ _ _ _ _ _ _ _ _ ?_
  refine ⟨_, _, Or.inr hro, (by unfold vp_in; decide), ?_⟩
  repeat refine hG _ _ _ _ _ _ _ _ _ _ _ ?_
  refine ⟨_, _, Or.inr hro, (by unfold vp_in; decide), ?_⟩
  repeat refine hG _ _ _ _ _ _ _ _ _ _ _ ?_
  refine ⟨⟨_, (hF.R (fun _ _ => rfl)).1⟩, 0, 0, hcs, hsl, s_memory hG hF.2.1 (hF.R (fun _ _ => rfl)) (fun h2 => ?_)⟩
  refine hG _ _ _ _ _ _ _ _ _ _ _ ?_
  exact ⟨fun _ => hQ h2, fun hc => absurd rfl hc⟩
theorem l_block {G : xG} {ro : xR} {sv : Nat → Value} (hG : x_Good G ro sv) {b x m n pg rm cs sl : Nat} {ra : Nat → Nat} {xs : Nat → Int32} {hx h : xH} {Q : xQ} (hro : ro b = some (13, xs)) (hcs : cs ≤ 600000) (hsl : sl ≤ 7302250) (hF : FR n pg rm x m ra hx h) (hQ : ∀ h', G 9 n_L_law 600000 7302250 751 (l_lv b x m) [] h' cs sl Q) : G 9 n_L_law 600000 7302250 695 (l_lv b x m) [] h cs sl Q := by
  repeat refine hG _ _ _ _ _ _ _ _ _ _ _ ?_
  refine ⟨_, _, Or.inr hro, (by unfold vp_in; decide), ?_⟩
  repeat refine hG _ _ _ _ _ _ _ _ _ _ _ ?_
  refine ⟨_, _, Or.inr hro, (by unfold vp_in; decide), ?_⟩
  repeat refine hG _ _ _ _ _ _ _ _ _ _ _ ?_
  refine ⟨hF.x, 0, 0, hcs, hsl, k_block hG hF.C ?_⟩
  repeat refine hG _ _ _ _ _ _ _ _ _ _ _ ?_
  refine ⟨_, _, Or.inr hro, (by unfold vp_in; decide), ?_⟩
  repeat refine hG _ _ _ _ _ _ _ _ _ _ _ ?_
  refine ⟨_, _, Or.inr hro, (by unfold vp_in; decide), ?_⟩
  repeat refine hG _ _ _ _ _ _ _ _ _ _ _ ?_
  refine ⟨⟨_, (hF.R (fun _ _ => rfl)).1⟩, 0, 0, hcs, hsl, s_block hG (hF.R (fun _ _ => rfl)) (fun h2 => ?_)⟩
  refine hG _ _ _ _ _ _ _ _ _ _ _ ?_
  exact ⟨fun _ => hQ h2, fun hc => absurd rfl hc⟩
theorem l_out {G : xG} {ro : xR} {sv : Nat → Value} (hG : x_Good G ro sv) {b x m n pg rm cs sl : Nat} {ra : Nat → Nat} {xs : Nat → Int32} {hx h : xH} {Q : xQ} (hro : ro b = some (13, xs)) (hcs : cs ≤ 600000) (hsl : sl ≤ 7302250) (hF : FR n pg rm x m ra hx h) (hQ : ∀ h', G 9 n_L_law 600000 7302250 751 (l_lv b x m) [] h' cs sl Q) : G 9 n_L_law 600000 7302250 728 (l_lv b x m) [] h cs sl Q := by
  repeat refine hG _ _ _ _ _ _ _ _ _ _ _ ?_
  refine ⟨_, _, Or.inr hro, (by unfold vp_in; decide), ?_⟩
  repeat refine hG _ _ _ _ _ _ _ _ _ _ _ ?_
  refine ⟨hF.x, 0, 0, hcs, hsl, k_out hG hF.C ?_⟩
  repeat refine hG _ _ _ _ _ _ _ _ _ _ _ ?_
  refine ⟨_, _, Or.inr hro, (by unfold vp_in; decide), ?_⟩
  repeat refine hG _ _ _ _ _ _ _ _ _ _ _ ?_
  refine ⟨⟨_, (hF.R (fun _ _ => rfl)).1⟩, 0, 0, hcs, hsl, s_out hG (hF.R (fun _ _ => rfl)) (fun h2 => ?_)⟩
  refine hG _ _ _ _ _ _ _ _ _ _ _ ?_
  exact ⟨fun _ => hQ h2, fun hc => absurd rfl hc⟩
theorem l_end {G : xG} {ro : xR} {sv : Nat → Value} (hG : x_Good G ro sv) {b x m cs sl : Nat} {xs : Nat → Int32} {h : xH} {Q : xQ} (hro : ro b = some (13, xs)) (hcs : cs ≤ 600000) (hsl : sl ≤ 7302250) (hQ : ∀ h', Q (some (.int 1)) h') : G 9 n_L_law 600000 7302250 751 (l_lv b x m) [] h cs sl Q := by
  repeat refine hG _ _ _ _ _ _ _ _ _ _ _ ?_
  refine ⟨13, Or.inr ⟨xs, hro⟩, ?_⟩
  repeat refine hG _ _ _ _ _ _ _ _ _ _ _ ?_
  refine ⟨fun _ => ?_, fun hc => absurd (by decide) hc⟩
  repeat refine hG _ _ _ _ _ _ _ _ _ _ _ ?_
  exact ⟨rfl, hcs, hsl, hQ h⟩
theorem l_body {G : xG} {ro : xR} {sv : Nat → Value} (hG : x_Good G ro sv) {b x m n pg rm cs sl : Nat} {ra : Nat → Nat} {xs : Nat → Int32} {hx h : xH} {Q : xQ} (hro : ro b = some (13, xs)) (hcs : cs ≤ 600000) (hsl : sl ≤ 7302250) (hF : FR n pg rm x m ra hx h) (hQ : ∀ h', Q (some (.int 1)) h') : G 9 n_L_law 600000 7302250 57 (l_lv b x m) [] h cs sl Q := by
  have hend : ∀ h', G 9 n_L_law 600000 7302250 751 (l_lv b x m) [] h' cs sl Q := fun h' => l_end hG hro hcs hsl hQ
  repeat refine hG _ _ _ _ _ _ _ _ _ _ _ ?_
  refine ⟨_, _, Or.inr hro, (by unfold vp_in; decide), ?_⟩
  repeat refine hG _ _ _ _ _ _ _ _ _ _ _ ?_
  obtain ⟨j, hj, ej⟩ := pk_andE (xs (Int32.toNatClampNeg 3)) (m := 31) 5 (by decide)
  have hj : j < 32 := hj
  rw [ej]
  match j, hj with
  | 0, _ => exact ⟨148, Or.inr ⟨by decide, by decide, 85, by decide, by decide⟩, l_put hG hro hcs hsl hF hend⟩
  | 1, _ => exact ⟨211, Or.inr ⟨by decide, by decide, 148, by decide, by decide⟩, l_boot hG hro hcs hsl hF hend⟩
  | 2, _ => exact ⟨224, Or.inr ⟨by decide, by decide, 161, by decide, by decide⟩, l_run hG hro hcs hsl hF hend⟩
  | 3, _ => exact ⟨257, Or.inr ⟨by decide, by decide, 194, by decide, by decide⟩, l_key hG hro hcs hsl hF hend⟩
  | 4, _ => exact ⟨280, Or.inr ⟨by decide, by decide, 217, by decide, by decide⟩, l_packet hG hro hcs hsl hF hend⟩
  | 5, _ => exact ⟨471, Or.inr ⟨by decide, by decide, 408, by decide, by decide⟩, l_tick hG hro hcs hsl hF hend⟩
  | 6, _ => exact ⟨484, Or.inr ⟨by decide, by decide, 421, by decide, by decide⟩, l_disk hG hro hcs hsl hF hend⟩
  | 7, _ => exact ⟨497, Or.inr ⟨by decide, by decide, 434, by decide, by decide⟩, l_deliver hG hro hcs hsl hF hend⟩
  | 8, _ => exact ⟨510, Or.inr ⟨by decide, by decide, 447, by decide, by decide⟩, l_ack hG hro hcs hsl hF hend⟩
  | 9, _ => exact ⟨523, Or.inr ⟨by decide, by decide, 460, by decide, by decide⟩, l_suspect hG hro hcs hsl hF hend⟩
  | 10, _ => exact ⟨546, Or.inr ⟨by decide, by decide, 483, by decide, by decide⟩, l_protect hG hro hcs hsl hF hend⟩
  | 11, _ => exact ⟨569, Or.inr ⟨by decide, by decide, 506, by decide, by decide⟩, l_transfer hG hro hcs hsl hF hend⟩
  | 12, _ => exact ⟨582, Or.inr ⟨by decide, by decide, 519, by decide, by decide⟩, l_crash hG hro hcs hsl hF hend⟩
  | 13, _ => exact ⟨605, Or.inr ⟨by decide, by decide, 542, by decide, by decide⟩, l_repair hG hro hcs hsl hF hend⟩
  | 14, _ => exact ⟨628, Or.inr ⟨by decide, by decide, 565, by decide, by decide⟩, l_host hG hro hcs hsl hF hend⟩
  | 15, _ => exact ⟨662, Or.inr ⟨by decide, by decide, 599, by decide, by decide⟩, l_memory hG hro hcs hsl hF hend⟩
  | 16, _ => exact ⟨695, Or.inr ⟨by decide, by decide, 632, by decide, by decide⟩, l_block hG hro hcs hsl hF hend⟩
  | 17, _ => exact ⟨728, Or.inr ⟨by decide, by decide, 665, by decide, by decide⟩, l_out hG hro hcs hsl hF hend⟩
  | 18, _ => exact ⟨751, Or.inl ⟨by decide, by decide⟩, hend h⟩
  | 19, _ => exact ⟨751, Or.inl ⟨by decide, by decide⟩, hend h⟩
  | 20, _ => exact ⟨751, Or.inl ⟨by decide, by decide⟩, hend h⟩
  | 21, _ => exact ⟨751, Or.inl ⟨by decide, by decide⟩, hend h⟩
  | 22, _ => exact ⟨751, Or.inl ⟨by decide, by decide⟩, hend h⟩
  | 23, _ => exact ⟨751, Or.inl ⟨by decide, by decide⟩, hend h⟩
  | 24, _ => exact ⟨751, Or.inl ⟨by decide, by decide⟩, hend h⟩
  | 25, _ => exact ⟨751, Or.inl ⟨by decide, by decide⟩, hend h⟩
  | 26, _ => exact ⟨751, Or.inl ⟨by decide, by decide⟩, hend h⟩
  | 27, _ => exact ⟨751, Or.inl ⟨by decide, by decide⟩, hend h⟩
  | 28, _ => exact ⟨751, Or.inl ⟨by decide, by decide⟩, hend h⟩
  | 29, _ => exact ⟨751, Or.inl ⟨by decide, by decide⟩, hend h⟩
  | 30, _ => exact ⟨751, Or.inl ⟨by decide, by decide⟩, hend h⟩
  | 31, _ => exact ⟨751, Or.inl ⟨by decide, by decide⟩, hend h⟩
  | j + 32, hj => exact absurd hj (by omega)
set_option maxHeartbeats 4000000 in
set_option maxRecDepth 100000 in
theorem x_law13 {b L : Nat} {xs : Nat → Int32} (hL : L ≤ 13) : x_Law b L xs := by
  rintro G ro sv t0 hG hro hs0 ⟨f0, hf0, -⟩
  have hL31 : L < 2 ^ 31 := by omega
  repeat refine hG _ _ _ _ _ _ _ _ _ _ _ ?_
  refine ⟨by decide, by decide, fun x hx0 => ?_⟩
  rintro h1 e1
  repeat refine hG _ _ _ _ _ _ _ _ _ _ _ ?_
  refine ⟨0, 0, by decide, by decide, l_cell hG (k := 0) hL31 (by decide) hro ?_⟩
  repeat refine hG _ _ _ _ _ _ _ _ _ _ _ ?_
  refine ⟨0, 0, by decide, by decide, l_cell hG (k := 1) hL31 (by decide) hro ?_⟩
  repeat refine hG _ _ _ _ _ _ _ _ _ _ _ ?_
  refine ⟨0, 0, by decide, by decide, l_cell hG (k := 2) hL31 (by decide) hro ?_⟩
  repeat refine hG _ _ _ _ _ _ _ _ _ _ _ ?_
  refine ⟨1000, 60000, by decide, by decide, c_X11_init hG hs0 ⟨f0, hf0⟩ (by rw [e1, x_up_self]; rfl) (fun hx n pg rm _ hn1 hn2 hp1 hp2 hr1 hr2 en ep er hC => ?_)⟩
  repeat refine hG _ _ _ _ _ _ _ _ _ _ _ ?_
  refine ⟨by decide, by decide, fun m hm => ?_⟩
  rintro h3 e3
  repeat refine hG _ _ _ _ _ _ _ _ _ _ _ ?_
  refine ⟨0, 0, by decide, by decide, l_cell hG (k := 0) hL31 (by decide) hro ?_⟩
  repeat refine hG _ _ _ _ _ _ _ _ _ _ _ ?_
  refine ⟨0, 0, by decide, by decide, l_cell hG (k := 1) hL31 (by decide) hro ?_⟩
  repeat refine hG _ _ _ _ _ _ _ _ _ _ _ ?_
  refine ⟨0, 0, by decide, by decide, l_cell hG (k := 2) hL31 (by decide) hro ?_⟩
  repeat refine hG _ _ _ _ _ _ _ _ _ _ _ ?_
  refine ⟨60, 753964, by decide, by decide, c_X12_init hG (by rw [e3, x_up_self, r_F0_eq]) (fun h4 ra hR hfr hra => ?_)⟩
  rw [en, ep, er] at hR
  have hF : FR n pg rm x m ra hx h4 := ⟨hn1, hn2, ⟨hp1, hp2⟩, hC, hm, fun k hk => (x_upn (by rw [← e3]; exact hra k hk)).2, fun b e hb => hfr b e (x_upd e3 hm hb) (x_fr hm hb), hR⟩
  repeat refine hG _ _ _ _ _ _ _ _ _ _ _ ?_
  refine ⟨L, Or.inr ⟨xs, hro⟩, ?_⟩
  repeat refine hG _ _ _ _ _ _ _ _ _ _ _ ?_
  by_cases h13 : L = 13
  · subst h13
    refine ⟨fun hc => absurd hc (by decide), fun _ => ?_⟩
    exact l_body hG hro (by decide) (by decide) hF (fun _ => rfl)
  · have key : ∀ L, L < 13 → Int32.ofNat L - 10 < 3 := by decide
    refine ⟨fun _ => ?_, fun hc => absurd (key L (by omega)) hc⟩
    repeat refine hG _ _ _ _ _ _ _ _ _ _ _ ?_
    exact ⟨rfl, by decide, by decide, rfl⟩
