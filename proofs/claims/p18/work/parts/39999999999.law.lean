def LI2 (ca : Nat → Nat → Nat) (m : Nat) (ra : Nat → Nat) (n pg rm c : Nat) (h : xH) : Prop := ∃ z y, OKZ ca n pg rm c z h ∧ OKR m ra n pg rm c y h ∧ RR n pg rm c z y
set_option maxHeartbeats 4000000 in
theorem l_put {G : xG} {ro : xR} {sv : Nat → Value} (hG : x_Good G ro sv) {b m n pg rm cs sl L I c t0 : Nat} {ra : Nat → Nat} {ca : Nat → Nat → Nat} {xs : Nat → Int32} {h : xH} {Q : xQ} {fb : Nat → Int32} (hs0 : sv 0 = .ref t0) (hro0 : ro t0 = some (7, fb)) (hfb : ∀ c, c < 7 → fb c = x_bits c) (hn2 : 2 ≤ n) (hn4 : n ≤ 4) (hp4 : 4 ≤ pg) (hp16 : pg ≤ 16) (hr1 : 1 ≤ rm) (D : DJ ca n m ra) (hro : ro b = some (L, xs)) (hI : I + 10 ≤ L) (hL : L ≤ 5123) (hcs : cs + 602 ≤ 600000) (hsl : sl + 3100 ≤ 7302250) (hc : c ≤ 511) (E : LI2 ca m ra n pg rm c h) (hend : ∀ h1 cs1 sl1, cs1 ≤ cs + 602 → sl1 ≤ sl + 3100 → LI2 ca m ra n pg rm (c + 1) h1 → G 9 n_L_law 600000 7302250 750 [(3, .int (nI I)), (2, .ref m), (1, .ref (ca 0 0)), (0, .ref b)] [] h1 cs1 sl1 Q) : G 9 n_L_law 600000 7302250 148 [(3, .int (nI I)), (2, .ref m), (1, .ref (ca 0 0)), (0, .ref b)] [] h cs sl Q := by
  obtain ⟨z, y, OZ, OR, HR⟩ := E
  repeat refine hG _ _ _ _ _ _ _ _ _ _ _ ?_
  refine ⟨_, _, Or.inr hro, ix_in (d := 1) (by omega) (by omega), ?_⟩
  repeat refine hG _ _ _ _ _ _ _ _ _ _ _ ?_
  refine ⟨_, _, Or.inr hro, ix_in (d := 2) (by omega) (by omega), ?_⟩
  repeat refine hG _ _ _ _ _ _ _ _ _ _ _ ?_
  refine ⟨_, _, Or.inr hro, ix_in (d := 3) (by omega) (by omega), ?_⟩
  repeat refine hG _ _ _ _ _ _ _ _ _ _ _ ?_
  refine ⟨c_obj (k := 0) OZ.1 Nat.zero_lt_one rfl rfl, 0, 0, by omega, by omega, cc_put hG hp4 OZ (fun z1 r h1 o O1 f1 => ?_)⟩
  have OR1 := OR.cx D f1
  repeat refine hG _ _ _ _ _ _ _ _ _ _ _ ?_
  refine ⟨_, _, Or.inr hro, ix_in (d := 1) (by omega) (by omega), ?_⟩
  repeat refine hG _ _ _ _ _ _ _ _ _ _ _ ?_
  refine ⟨_, _, Or.inr hro, ix_in (d := 2) (by omega) (by omega), ?_⟩
  repeat refine hG _ _ _ _ _ _ _ _ _ _ _ ?_
  refine ⟨_, _, Or.inr hro, ix_in (d := 3) (by omega) (by omega), ?_⟩
  repeat refine hG _ _ _ _ _ _ _ _ _ _ _ ?_
  refine ⟨⟨_, OR1.1.1⟩, 0, 0, by omega, by omega, rc_put hG hc OR1 (fun y1 r1 h2 p O2 f2 => ?_)⟩
  have Z2 := O1.rf D OR1.1 f2
  refine hG _ _ _ _ _ _ _ _ _ _ _ ?_
  refine hG _ _ _ _ _ _ _ _ _ _ _ ?_
  exact hend h2 _ _ (by omega) (by omega) ⟨_, _, Z2, O2, (RR_put OR.2 (by omega) HR o p).1⟩
set_option maxHeartbeats 4000000 in
theorem l_boot {G : xG} {ro : xR} {sv : Nat → Value} (hG : x_Good G ro sv) {b m n pg rm cs sl L I c t0 : Nat} {ra : Nat → Nat} {ca : Nat → Nat → Nat} {xs : Nat → Int32} {h : xH} {Q : xQ} {fb : Nat → Int32} (hs0 : sv 0 = .ref t0) (hro0 : ro t0 = some (7, fb)) (hfb : ∀ c, c < 7 → fb c = x_bits c) (hn2 : 2 ≤ n) (hn4 : n ≤ 4) (hp4 : 4 ≤ pg) (hp16 : pg ≤ 16) (hr1 : 1 ≤ rm) (D : DJ ca n m ra) (hro : ro b = some (L, xs)) (hI : I + 10 ≤ L) (hL : L ≤ 5123) (hcs : cs + 602 ≤ 600000) (hsl : sl + 3100 ≤ 7302250) (hc : c ≤ 511) (E : LI2 ca m ra n pg rm c h) (hend : ∀ h1 cs1 sl1, cs1 ≤ cs + 602 → sl1 ≤ sl + 3100 → LI2 ca m ra n pg rm (c + 1) h1 → G 9 n_L_law 600000 7302250 750 [(3, .int (nI I)), (2, .ref m), (1, .ref (ca 0 0)), (0, .ref b)] [] h1 cs1 sl1 Q) : G 9 n_L_law 600000 7302250 211 [(3, .int (nI I)), (2, .ref m), (1, .ref (ca 0 0)), (0, .ref b)] [] h cs sl Q := by
  obtain ⟨z, y, OZ, OR, HR⟩ := E
  repeat refine hG _ _ _ _ _ _ _ _ _ _ _ ?_
  refine ⟨c_obj (k := 0) OZ.1 Nat.zero_lt_one rfl rfl, 0, 0, by omega, by omega, cc_boot hG hn2 OZ (fun z1 r h1 o O1 f1 => ?_)⟩
  have OR1 := OR.cx D f1
  repeat refine hG _ _ _ _ _ _ _ _ _ _ _ ?_
  refine ⟨⟨_, OR1.1.1⟩, 0, 0, by omega, by omega, rc_boot hG hc OR1 (fun y1 r1 h2 p O2 f2 => ?_)⟩
  have Z2 := O1.rf D OR1.1 f2
  refine hG _ _ _ _ _ _ _ _ _ _ _ ?_
  refine hG _ _ _ _ _ _ _ _ _ _ _ ?_
  exact hend h2 _ _ (by omega) (by omega) ⟨_, _, Z2, O2, (RR_boot hn2 OZ.2.1 OR.2 (by omega) HR o p).1⟩
set_option maxHeartbeats 4000000 in
theorem l_run {G : xG} {ro : xR} {sv : Nat → Value} (hG : x_Good G ro sv) {b m n pg rm cs sl L I c t0 : Nat} {ra : Nat → Nat} {ca : Nat → Nat → Nat} {xs : Nat → Int32} {h : xH} {Q : xQ} {fb : Nat → Int32} (hs0 : sv 0 = .ref t0) (hro0 : ro t0 = some (7, fb)) (hfb : ∀ c, c < 7 → fb c = x_bits c) (hn2 : 2 ≤ n) (hn4 : n ≤ 4) (hp4 : 4 ≤ pg) (hp16 : pg ≤ 16) (hr1 : 1 ≤ rm) (D : DJ ca n m ra) (hro : ro b = some (L, xs)) (hI : I + 10 ≤ L) (hL : L ≤ 5123) (hcs : cs + 602 ≤ 600000) (hsl : sl + 3100 ≤ 7302250) (hc : c ≤ 511) (E : LI2 ca m ra n pg rm c h) (hend : ∀ h1 cs1 sl1, cs1 ≤ cs + 602 → sl1 ≤ sl + 3100 → LI2 ca m ra n pg rm (c + 1) h1 → G 9 n_L_law 600000 7302250 750 [(3, .int (nI I)), (2, .ref m), (1, .ref (ca 0 0)), (0, .ref b)] [] h1 cs1 sl1 Q) : G 9 n_L_law 600000 7302250 224 [(3, .int (nI I)), (2, .ref m), (1, .ref (ca 0 0)), (0, .ref b)] [] h cs sl Q := by
  obtain ⟨z, y, OZ, OR, HR⟩ := E
  repeat refine hG _ _ _ _ _ _ _ _ _ _ _ ?_
  refine ⟨_, _, Or.inr hro, ix_in (d := 1) (by omega) (by omega), ?_⟩
  repeat refine hG _ _ _ _ _ _ _ _ _ _ _ ?_
  refine ⟨_, _, Or.inr hro, ix_in (d := 2) (by omega) (by omega), ?_⟩
  repeat refine hG _ _ _ _ _ _ _ _ _ _ _ ?_
  refine ⟨c_obj (k := 0) OZ.1 Nat.zero_lt_one rfl rfl, 600, 3000, by omega, by omega, cc_run hG hs0 hro0 hfb hp4 hr1 hc OZ (fun z1 r h1 o O1 f1 => ?_)⟩
  have OR1 := OR.cx D f1
  repeat refine hG _ _ _ _ _ _ _ _ _ _ _ ?_
  refine ⟨_, _, Or.inr hro, ix_in (d := 1) (by omega) (by omega), ?_⟩
  repeat refine hG _ _ _ _ _ _ _ _ _ _ _ ?_
  refine ⟨_, _, Or.inr hro, ix_in (d := 2) (by omega) (by omega), ?_⟩
  repeat refine hG _ _ _ _ _ _ _ _ _ _ _ ?_
  refine ⟨⟨_, OR1.1.1⟩, 0, 0, by omega, by omega, rc_run hG hc OR1 (fun y1 r1 h2 p O2 f2 => ?_)⟩
  have Z2 := O1.rf D OR1.1 f2
  refine hG _ _ _ _ _ _ _ _ _ _ _ ?_
  refine hG _ _ _ _ _ _ _ _ _ _ _ ?_
  exact hend h2 _ _ (by omega) (by omega) ⟨_, _, Z2, O2, (RR_run OR.2 hc HR o p).1⟩
set_option maxHeartbeats 4000000 in
theorem l_key {G : xG} {ro : xR} {sv : Nat → Value} (hG : x_Good G ro sv) {b m n pg rm cs sl L I c t0 : Nat} {ra : Nat → Nat} {ca : Nat → Nat → Nat} {xs : Nat → Int32} {h : xH} {Q : xQ} {fb : Nat → Int32} (hs0 : sv 0 = .ref t0) (hro0 : ro t0 = some (7, fb)) (hfb : ∀ c, c < 7 → fb c = x_bits c) (hn2 : 2 ≤ n) (hn4 : n ≤ 4) (hp4 : 4 ≤ pg) (hp16 : pg ≤ 16) (hr1 : 1 ≤ rm) (D : DJ ca n m ra) (hro : ro b = some (L, xs)) (hI : I + 10 ≤ L) (hL : L ≤ 5123) (hcs : cs + 602 ≤ 600000) (hsl : sl + 3100 ≤ 7302250) (hc : c ≤ 511) (E : LI2 ca m ra n pg rm c h) (hend : ∀ h1 cs1 sl1, cs1 ≤ cs + 602 → sl1 ≤ sl + 3100 → LI2 ca m ra n pg rm (c + 1) h1 → G 9 n_L_law 600000 7302250 750 [(3, .int (nI I)), (2, .ref m), (1, .ref (ca 0 0)), (0, .ref b)] [] h1 cs1 sl1 Q) : G 9 n_L_law 600000 7302250 257 [(3, .int (nI I)), (2, .ref m), (1, .ref (ca 0 0)), (0, .ref b)] [] h cs sl Q := by
  obtain ⟨z, y, OZ, OR, HR⟩ := E
  repeat refine hG _ _ _ _ _ _ _ _ _ _ _ ?_
  refine ⟨_, _, Or.inr hro, ix_in (d := 1) (by omega) (by omega), ?_⟩
  repeat refine hG _ _ _ _ _ _ _ _ _ _ _ ?_
  refine ⟨c_obj (k := 0) OZ.1 Nat.zero_lt_one rfl rfl, 1, 5, by omega, by omega, cc_key hG hp4 hr1 OZ (fun z1 r h1 o O1 f1 => ?_)⟩
  have OR1 := OR.cx D f1
  repeat refine hG _ _ _ _ _ _ _ _ _ _ _ ?_
  refine ⟨_, _, Or.inr hro, ix_in (d := 1) (by omega) (by omega), ?_⟩
  repeat refine hG _ _ _ _ _ _ _ _ _ _ _ ?_
  refine ⟨⟨_, OR1.1.1⟩, 0, 0, by omega, by omega, rc_key hG hc OR1 (fun y1 r1 h2 p O2 f2 => ?_)⟩
  have Z2 := O1.rf D OR1.1 f2
  refine hG _ _ _ _ _ _ _ _ _ _ _ ?_
  refine hG _ _ _ _ _ _ _ _ _ _ _ ?_
  exact hend h2 _ _ (by omega) (by omega) ⟨_, _, Z2, O2, (RR_key OZ.2.1 OR.2 hc HR o p).1⟩
set_option maxHeartbeats 4000000 in
theorem l_packet {G : xG} {ro : xR} {sv : Nat → Value} (hG : x_Good G ro sv) {b m n pg rm cs sl L I c t0 : Nat} {ra : Nat → Nat} {ca : Nat → Nat → Nat} {xs : Nat → Int32} {h : xH} {Q : xQ} {fb : Nat → Int32} (hs0 : sv 0 = .ref t0) (hro0 : ro t0 = some (7, fb)) (hfb : ∀ c, c < 7 → fb c = x_bits c) (hn2 : 2 ≤ n) (hn4 : n ≤ 4) (hp4 : 4 ≤ pg) (hp16 : pg ≤ 16) (hr1 : 1 ≤ rm) (D : DJ ca n m ra) (hro : ro b = some (L, xs)) (hI : I + 10 ≤ L) (hL : L ≤ 5123) (hcs : cs + 602 ≤ 600000) (hsl : sl + 3100 ≤ 7302250) (hc : c ≤ 511) (E : LI2 ca m ra n pg rm c h) (hend : ∀ h1 cs1 sl1, cs1 ≤ cs + 602 → sl1 ≤ sl + 3100 → LI2 ca m ra n pg rm (c + 1) h1 → G 9 n_L_law 600000 7302250 750 [(3, .int (nI I)), (2, .ref m), (1, .ref (ca 0 0)), (0, .ref b)] [] h1 cs1 sl1 Q) : G 9 n_L_law 600000 7302250 280 [(3, .int (nI I)), (2, .ref m), (1, .ref (ca 0 0)), (0, .ref b)] [] h cs sl Q := by
  obtain ⟨z, y, OZ, OR, HR⟩ := E
  repeat refine hG _ _ _ _ _ _ _ _ _ _ _ ?_
  refine ⟨_, _, Or.inr hro, ix_in (d := 1) (by omega) (by omega), ?_⟩
  repeat refine hG _ _ _ _ _ _ _ _ _ _ _ ?_
  refine ⟨_, _, Or.inr hro, ix_in (d := 2) (by omega) (by omega), ?_⟩
  repeat refine hG _ _ _ _ _ _ _ _ _ _ _ ?_
  refine ⟨_, _, Or.inr hro, ix_in (d := 3) (by omega) (by omega), ?_⟩
  repeat refine hG _ _ _ _ _ _ _ _ _ _ _ ?_
  refine ⟨_, _, Or.inr hro, ix_in (d := 4) (by omega) (by omega), ?_⟩
  repeat refine hG _ _ _ _ _ _ _ _ _ _ _ ?_
  refine ⟨_, _, Or.inr hro, ix_in (d := 5) (by omega) (by omega), ?_⟩
  repeat refine hG _ _ _ _ _ _ _ _ _ _ _ ?_
  refine ⟨_, _, Or.inr hro, ix_in (d := 6) (by omega) (by omega), ?_⟩
  repeat refine hG _ _ _ _ _ _ _ _ _ _ _ ?_
  refine ⟨_, _, Or.inr hro, ix_in (d := 7) (by omega) (by omega), ?_⟩
  repeat refine hG _ _ _ _ _ _ _ _ _ _ _ ?_
  refine ⟨_, _, Or.inr hro, ix_in (d := 8) (by omega) (by omega), ?_⟩
  repeat refine hG _ _ _ _ _ _ _ _ _ _ _ ?_
  refine ⟨_, _, Or.inr hro, ix_in (d := 9) (by omega) (by omega), ?_⟩
  repeat refine hG _ _ _ _ _ _ _ _ _ _ _ ?_
  refine ⟨c_obj (k := 0) OZ.1 Nat.zero_lt_one rfl rfl, 2, 37, by omega, by omega, cc_packet hG hp4 hr1 OZ (fun z1 r h1 o O1 f1 => ?_)⟩
  have OR1 := OR.cx D f1
  repeat refine hG _ _ _ _ _ _ _ _ _ _ _ ?_
  refine ⟨_, _, Or.inr hro, ix_in (d := 1) (by omega) (by omega), ?_⟩
  repeat refine hG _ _ _ _ _ _ _ _ _ _ _ ?_
  refine ⟨_, _, Or.inr hro, ix_in (d := 2) (by omega) (by omega), ?_⟩
  repeat refine hG _ _ _ _ _ _ _ _ _ _ _ ?_
  refine ⟨_, _, Or.inr hro, ix_in (d := 3) (by omega) (by omega), ?_⟩
  repeat refine hG _ _ _ _ _ _ _ _ _ _ _ ?_
  refine ⟨_, _, Or.inr hro, ix_in (d := 4) (by omega) (by omega), ?_⟩
  repeat refine hG _ _ _ _ _ _ _ _ _ _ _ ?_
  refine ⟨_, _, Or.inr hro, ix_in (d := 5) (by omega) (by omega), ?_⟩
  repeat refine hG _ _ _ _ _ _ _ _ _ _ _ ?_
  refine ⟨_, _, Or.inr hro, ix_in (d := 6) (by omega) (by omega), ?_⟩
  repeat refine hG _ _ _ _ _ _ _ _ _ _ _ ?_
  refine ⟨_, _, Or.inr hro, ix_in (d := 7) (by omega) (by omega), ?_⟩
  repeat refine hG _ _ _ _ _ _ _ _ _ _ _ ?_
  refine ⟨_, _, Or.inr hro, ix_in (d := 8) (by omega) (by omega), ?_⟩
  repeat refine hG _ _ _ _ _ _ _ _ _ _ _ ?_
  refine ⟨_, _, Or.inr hro, ix_in (d := 9) (by omega) (by omega), ?_⟩
  repeat refine hG _ _ _ _ _ _ _ _ _ _ _ ?_
  refine ⟨⟨_, OR1.1.1⟩, 0, 0, by omega, by omega, rc_packet hG hc OR1 (fun y1 r1 h2 p O2 f2 => ?_)⟩
  have Z2 := O1.rf D OR1.1 f2
  refine hG _ _ _ _ _ _ _ _ _ _ _ ?_
  refine hG _ _ _ _ _ _ _ _ _ _ _ ?_
  exact hend h2 _ _ (by omega) (by omega) ⟨_, _, Z2, O2, (RR_pkt OZ.2.1 OR.2 hc HR o p).1⟩
set_option maxHeartbeats 4000000 in
theorem l_tick {G : xG} {ro : xR} {sv : Nat → Value} (hG : x_Good G ro sv) {b m n pg rm cs sl L I c t0 : Nat} {ra : Nat → Nat} {ca : Nat → Nat → Nat} {xs : Nat → Int32} {h : xH} {Q : xQ} {fb : Nat → Int32} (hs0 : sv 0 = .ref t0) (hro0 : ro t0 = some (7, fb)) (hfb : ∀ c, c < 7 → fb c = x_bits c) (hn2 : 2 ≤ n) (hn4 : n ≤ 4) (hp4 : 4 ≤ pg) (hp16 : pg ≤ 16) (hr1 : 1 ≤ rm) (D : DJ ca n m ra) (hro : ro b = some (L, xs)) (hI : I + 10 ≤ L) (hL : L ≤ 5123) (hcs : cs + 602 ≤ 600000) (hsl : sl + 3100 ≤ 7302250) (hc : c ≤ 511) (E : LI2 ca m ra n pg rm c h) (hend : ∀ h1 cs1 sl1, cs1 ≤ cs + 602 → sl1 ≤ sl + 3100 → LI2 ca m ra n pg rm (c + 1) h1 → G 9 n_L_law 600000 7302250 750 [(3, .int (nI I)), (2, .ref m), (1, .ref (ca 0 0)), (0, .ref b)] [] h1 cs1 sl1 Q) : G 9 n_L_law 600000 7302250 471 [(3, .int (nI I)), (2, .ref m), (1, .ref (ca 0 0)), (0, .ref b)] [] h cs sl Q := by
  obtain ⟨z, y, OZ, OR, HR⟩ := E
  repeat refine hG _ _ _ _ _ _ _ _ _ _ _ ?_
  refine ⟨c_obj (k := 0) OZ.1 Nat.zero_lt_one rfl rfl, 1, 5, by omega, by omega, cc_tick hG hp4 hr1 OZ (fun z1 r h1 o O1 f1 => ?_)⟩
  have OR1 := OR.cx D f1
  repeat refine hG _ _ _ _ _ _ _ _ _ _ _ ?_
  refine ⟨⟨_, OR1.1.1⟩, 0, 0, by omega, by omega, rc_tick hG hc OR1 (fun y1 r1 h2 p O2 f2 => ?_)⟩
  have Z2 := O1.rf D OR1.1 f2
  refine hG _ _ _ _ _ _ _ _ _ _ _ ?_
  refine hG _ _ _ _ _ _ _ _ _ _ _ ?_
  exact hend h2 _ _ (by omega) (by omega) ⟨_, _, Z2, O2, (RR_tick OZ.2.1 OR.2 hc HR o p).1⟩
set_option maxHeartbeats 4000000 in
theorem l_disk {G : xG} {ro : xR} {sv : Nat → Value} (hG : x_Good G ro sv) {b m n pg rm cs sl L I c t0 : Nat} {ra : Nat → Nat} {ca : Nat → Nat → Nat} {xs : Nat → Int32} {h : xH} {Q : xQ} {fb : Nat → Int32} (hs0 : sv 0 = .ref t0) (hro0 : ro t0 = some (7, fb)) (hfb : ∀ c, c < 7 → fb c = x_bits c) (hn2 : 2 ≤ n) (hn4 : n ≤ 4) (hp4 : 4 ≤ pg) (hp16 : pg ≤ 16) (hr1 : 1 ≤ rm) (D : DJ ca n m ra) (hro : ro b = some (L, xs)) (hI : I + 10 ≤ L) (hL : L ≤ 5123) (hcs : cs + 602 ≤ 600000) (hsl : sl + 3100 ≤ 7302250) (hc : c ≤ 511) (E : LI2 ca m ra n pg rm c h) (hend : ∀ h1 cs1 sl1, cs1 ≤ cs + 602 → sl1 ≤ sl + 3100 → LI2 ca m ra n pg rm (c + 1) h1 → G 9 n_L_law 600000 7302250 750 [(3, .int (nI I)), (2, .ref m), (1, .ref (ca 0 0)), (0, .ref b)] [] h1 cs1 sl1 Q) : G 9 n_L_law 600000 7302250 484 [(3, .int (nI I)), (2, .ref m), (1, .ref (ca 0 0)), (0, .ref b)] [] h cs sl Q := by
  obtain ⟨z, y, OZ, OR, HR⟩ := E
  repeat refine hG _ _ _ _ _ _ _ _ _ _ _ ?_
  refine ⟨c_obj (k := 0) OZ.1 Nat.zero_lt_one rfl rfl, 2, 69, by omega, by omega, cc_disk hG hp4 hr1 OZ (fun z1 r h1 o O1 f1 => ?_)⟩
  have OR1 := OR.cx D f1
  repeat refine hG _ _ _ _ _ _ _ _ _ _ _ ?_
  refine ⟨⟨_, OR1.1.1⟩, 0, 0, by omega, by omega, rc_disk hG hc OR1 (fun y1 r1 h2 p O2 f2 => ?_)⟩
  have Z2 := O1.rf D OR1.1 f2
  refine hG _ _ _ _ _ _ _ _ _ _ _ ?_
  refine hG _ _ _ _ _ _ _ _ _ _ _ ?_
  exact hend h2 _ _ (by omega) (by omega) ⟨_, _, Z2, O2, (RR_disk OZ.2.1 OR.2 hc HR o p).1⟩
set_option maxHeartbeats 4000000 in
theorem l_deliver {G : xG} {ro : xR} {sv : Nat → Value} (hG : x_Good G ro sv) {b m n pg rm cs sl L I c t0 : Nat} {ra : Nat → Nat} {ca : Nat → Nat → Nat} {xs : Nat → Int32} {h : xH} {Q : xQ} {fb : Nat → Int32} (hs0 : sv 0 = .ref t0) (hro0 : ro t0 = some (7, fb)) (hfb : ∀ c, c < 7 → fb c = x_bits c) (hn2 : 2 ≤ n) (hn4 : n ≤ 4) (hp4 : 4 ≤ pg) (hp16 : pg ≤ 16) (hr1 : 1 ≤ rm) (D : DJ ca n m ra) (hro : ro b = some (L, xs)) (hI : I + 10 ≤ L) (hL : L ≤ 5123) (hcs : cs + 602 ≤ 600000) (hsl : sl + 3100 ≤ 7302250) (hc : c ≤ 511) (E : LI2 ca m ra n pg rm c h) (hend : ∀ h1 cs1 sl1, cs1 ≤ cs + 602 → sl1 ≤ sl + 3100 → LI2 ca m ra n pg rm (c + 1) h1 → G 9 n_L_law 600000 7302250 750 [(3, .int (nI I)), (2, .ref m), (1, .ref (ca 0 0)), (0, .ref b)] [] h1 cs1 sl1 Q) : G 9 n_L_law 600000 7302250 497 [(3, .int (nI I)), (2, .ref m), (1, .ref (ca 0 0)), (0, .ref b)] [] h cs sl Q := by
  obtain ⟨z, y, OZ, OR, HR⟩ := E
  repeat refine hG _ _ _ _ _ _ _ _ _ _ _ ?_
  refine ⟨c_obj (k := 0) OZ.1 Nat.zero_lt_one rfl rfl, 0, 0, by omega, by omega, cc_deliver hG hr1 OZ (fun z1 r h1 o O1 f1 => ?_)⟩
  have OR1 := OR.cx D f1
  repeat refine hG _ _ _ _ _ _ _ _ _ _ _ ?_
  refine ⟨⟨_, OR1.1.1⟩, 0, 0, by omega, by omega, rc_deliver hG hc OR1 (fun y1 r1 h2 p O2 f2 => ?_)⟩
  have Z2 := O1.rf D OR1.1 f2
  refine hG _ _ _ _ _ _ _ _ _ _ _ ?_
  refine hG _ _ _ _ _ _ _ _ _ _ _ ?_
  exact hend h2 _ _ (by omega) (by omega) ⟨_, _, Z2, O2, (RR_dlv OZ.2.1 (fun j hj => (OZ.2.2.1 j hj).1) OR.2 hc HR o p).1⟩
set_option maxHeartbeats 4000000 in
theorem l_ack {G : xG} {ro : xR} {sv : Nat → Value} (hG : x_Good G ro sv) {b m n pg rm cs sl L I c t0 : Nat} {ra : Nat → Nat} {ca : Nat → Nat → Nat} {xs : Nat → Int32} {h : xH} {Q : xQ} {fb : Nat → Int32} (hs0 : sv 0 = .ref t0) (hro0 : ro t0 = some (7, fb)) (hfb : ∀ c, c < 7 → fb c = x_bits c) (hn2 : 2 ≤ n) (hn4 : n ≤ 4) (hp4 : 4 ≤ pg) (hp16 : pg ≤ 16) (hr1 : 1 ≤ rm) (D : DJ ca n m ra) (hro : ro b = some (L, xs)) (hI : I + 10 ≤ L) (hL : L ≤ 5123) (hcs : cs + 602 ≤ 600000) (hsl : sl + 3100 ≤ 7302250) (hc : c ≤ 511) (E : LI2 ca m ra n pg rm c h) (hend : ∀ h1 cs1 sl1, cs1 ≤ cs + 602 → sl1 ≤ sl + 3100 → LI2 ca m ra n pg rm (c + 1) h1 → G 9 n_L_law 600000 7302250 750 [(3, .int (nI I)), (2, .ref m), (1, .ref (ca 0 0)), (0, .ref b)] [] h1 cs1 sl1 Q) : G 9 n_L_law 600000 7302250 510 [(3, .int (nI I)), (2, .ref m), (1, .ref (ca 0 0)), (0, .ref b)] [] h cs sl Q := by
  obtain ⟨z, y, OZ, OR, HR⟩ := E
  repeat refine hG _ _ _ _ _ _ _ _ _ _ _ ?_
  refine ⟨c_obj (k := 0) OZ.1 Nat.zero_lt_one rfl rfl, 0, 0, by omega, by omega, cc_ack hG hr1 hc OZ (fun z1 r h1 o O1 f1 => ?_)⟩
  have OR1 := OR.cx D f1
  repeat refine hG _ _ _ _ _ _ _ _ _ _ _ ?_
  refine ⟨⟨_, OR1.1.1⟩, 0, 0, by omega, by omega, rc_ack hG hc OR1 (fun y1 r1 h2 p O2 f2 => ?_)⟩
  have Z2 := O1.rf D OR1.1 f2
  refine hG _ _ _ _ _ _ _ _ _ _ _ ?_
  refine hG _ _ _ _ _ _ _ _ _ _ _ ?_
  exact hend h2 _ _ (by omega) (by omega) ⟨_, _, Z2, O2, (RR_ack OZ.2.1 hr1 OR.2 hc HR o p).1⟩
set_option maxHeartbeats 4000000 in
theorem l_suspect {G : xG} {ro : xR} {sv : Nat → Value} (hG : x_Good G ro sv) {b m n pg rm cs sl L I c t0 : Nat} {ra : Nat → Nat} {ca : Nat → Nat → Nat} {xs : Nat → Int32} {h : xH} {Q : xQ} {fb : Nat → Int32} (hs0 : sv 0 = .ref t0) (hro0 : ro t0 = some (7, fb)) (hfb : ∀ c, c < 7 → fb c = x_bits c) (hn2 : 2 ≤ n) (hn4 : n ≤ 4) (hp4 : 4 ≤ pg) (hp16 : pg ≤ 16) (hr1 : 1 ≤ rm) (D : DJ ca n m ra) (hro : ro b = some (L, xs)) (hI : I + 10 ≤ L) (hL : L ≤ 5123) (hcs : cs + 602 ≤ 600000) (hsl : sl + 3100 ≤ 7302250) (hc : c ≤ 511) (E : LI2 ca m ra n pg rm c h) (hend : ∀ h1 cs1 sl1, cs1 ≤ cs + 602 → sl1 ≤ sl + 3100 → LI2 ca m ra n pg rm (c + 1) h1 → G 9 n_L_law 600000 7302250 750 [(3, .int (nI I)), (2, .ref m), (1, .ref (ca 0 0)), (0, .ref b)] [] h1 cs1 sl1 Q) : G 9 n_L_law 600000 7302250 523 [(3, .int (nI I)), (2, .ref m), (1, .ref (ca 0 0)), (0, .ref b)] [] h cs sl Q := by
  obtain ⟨z, y, OZ, OR, HR⟩ := E
  repeat refine hG _ _ _ _ _ _ _ _ _ _ _ ?_
  refine ⟨_, _, Or.inr hro, ix_in (d := 1) (by omega) (by omega), ?_⟩
  repeat refine hG _ _ _ _ _ _ _ _ _ _ _ ?_
  refine ⟨c_obj (k := 0) OZ.1 Nat.zero_lt_one rfl rfl, 0, 0, by omega, by omega, cc_suspect hG  OZ (fun z1 r h1 o O1 f1 => ?_)⟩
  have OR1 := OR.cx D f1
  repeat refine hG _ _ _ _ _ _ _ _ _ _ _ ?_
  refine ⟨_, _, Or.inr hro, ix_in (d := 1) (by omega) (by omega), ?_⟩
  repeat refine hG _ _ _ _ _ _ _ _ _ _ _ ?_
  refine ⟨⟨_, OR1.1.1⟩, 0, 0, by omega, by omega, rc_suspect hG hc OR1 (fun y1 r1 h2 p O2 f2 => ?_)⟩
  have Z2 := O1.rf D OR1.1 f2
  refine hG _ _ _ _ _ _ _ _ _ _ _ ?_
  refine hG _ _ _ _ _ _ _ _ _ _ _ ?_
  exact hend h2 _ _ (by omega) (by omega) ⟨_, _, Z2, O2, (RR_sus OZ.2.1 OR.2 hc HR o p).1⟩
set_option maxHeartbeats 4000000 in
theorem l_protect {G : xG} {ro : xR} {sv : Nat → Value} (hG : x_Good G ro sv) {b m n pg rm cs sl L I c t0 : Nat} {ra : Nat → Nat} {ca : Nat → Nat → Nat} {xs : Nat → Int32} {h : xH} {Q : xQ} {fb : Nat → Int32} (hs0 : sv 0 = .ref t0) (hro0 : ro t0 = some (7, fb)) (hfb : ∀ c, c < 7 → fb c = x_bits c) (hn2 : 2 ≤ n) (hn4 : n ≤ 4) (hp4 : 4 ≤ pg) (hp16 : pg ≤ 16) (hr1 : 1 ≤ rm) (D : DJ ca n m ra) (hro : ro b = some (L, xs)) (hI : I + 10 ≤ L) (hL : L ≤ 5123) (hcs : cs + 602 ≤ 600000) (hsl : sl + 3100 ≤ 7302250) (hc : c ≤ 511) (E : LI2 ca m ra n pg rm c h) (hend : ∀ h1 cs1 sl1, cs1 ≤ cs + 602 → sl1 ≤ sl + 3100 → LI2 ca m ra n pg rm (c + 1) h1 → G 9 n_L_law 600000 7302250 750 [(3, .int (nI I)), (2, .ref m), (1, .ref (ca 0 0)), (0, .ref b)] [] h1 cs1 sl1 Q) : G 9 n_L_law 600000 7302250 546 [(3, .int (nI I)), (2, .ref m), (1, .ref (ca 0 0)), (0, .ref b)] [] h cs sl Q := by
  obtain ⟨z, y, OZ, OR, HR⟩ := E
  repeat refine hG _ _ _ _ _ _ _ _ _ _ _ ?_
  refine ⟨_, _, Or.inr hro, ix_in (d := 1) (by omega) (by omega), ?_⟩
  repeat refine hG _ _ _ _ _ _ _ _ _ _ _ ?_
  refine ⟨c_obj (k := 0) OZ.1 Nat.zero_lt_one rfl rfl, 0, 0, by omega, by omega, cc_protect hG  OZ (fun z1 r h1 o O1 f1 => ?_)⟩
  have OR1 := OR.cx D f1
  repeat refine hG _ _ _ _ _ _ _ _ _ _ _ ?_
  refine ⟨_, _, Or.inr hro, ix_in (d := 1) (by omega) (by omega), ?_⟩
  repeat refine hG _ _ _ _ _ _ _ _ _ _ _ ?_
  refine ⟨⟨_, OR1.1.1⟩, 0, 0, by omega, by omega, rc_protect hG hc OR1 (fun y1 r1 h2 p O2 f2 => ?_)⟩
  have Z2 := O1.rf D OR1.1 f2
  refine hG _ _ _ _ _ _ _ _ _ _ _ ?_
  refine hG _ _ _ _ _ _ _ _ _ _ _ ?_
  exact hend h2 _ _ (by omega) (by omega) ⟨_, _, Z2, O2, (RR_pro OR.2 hc HR o p).1⟩
set_option maxHeartbeats 4000000 in
theorem l_transfer {G : xG} {ro : xR} {sv : Nat → Value} (hG : x_Good G ro sv) {b m n pg rm cs sl L I c t0 : Nat} {ra : Nat → Nat} {ca : Nat → Nat → Nat} {xs : Nat → Int32} {h : xH} {Q : xQ} {fb : Nat → Int32} (hs0 : sv 0 = .ref t0) (hro0 : ro t0 = some (7, fb)) (hfb : ∀ c, c < 7 → fb c = x_bits c) (hn2 : 2 ≤ n) (hn4 : n ≤ 4) (hp4 : 4 ≤ pg) (hp16 : pg ≤ 16) (hr1 : 1 ≤ rm) (D : DJ ca n m ra) (hro : ro b = some (L, xs)) (hI : I + 10 ≤ L) (hL : L ≤ 5123) (hcs : cs + 602 ≤ 600000) (hsl : sl + 3100 ≤ 7302250) (hc : c ≤ 511) (E : LI2 ca m ra n pg rm c h) (hend : ∀ h1 cs1 sl1, cs1 ≤ cs + 602 → sl1 ≤ sl + 3100 → LI2 ca m ra n pg rm (c + 1) h1 → G 9 n_L_law 600000 7302250 750 [(3, .int (nI I)), (2, .ref m), (1, .ref (ca 0 0)), (0, .ref b)] [] h1 cs1 sl1 Q) : G 9 n_L_law 600000 7302250 569 [(3, .int (nI I)), (2, .ref m), (1, .ref (ca 0 0)), (0, .ref b)] [] h cs sl Q := by
  obtain ⟨z, y, OZ, OR, HR⟩ := E
  repeat refine hG _ _ _ _ _ _ _ _ _ _ _ ?_
  refine ⟨c_obj (k := 0) OZ.1 Nat.zero_lt_one rfl rfl, 0, 0, by omega, by omega, cc_transfer hG  OZ (fun z1 r h1 o O1 f1 => ?_)⟩
  have OR1 := OR.cx D f1
  repeat refine hG _ _ _ _ _ _ _ _ _ _ _ ?_
  refine ⟨⟨_, OR1.1.1⟩, 0, 0, by omega, by omega, rc_transfer hG hc OR1 (fun y1 r1 h2 p O2 f2 => ?_)⟩
  have Z2 := O1.rf D OR1.1 f2
  refine hG _ _ _ _ _ _ _ _ _ _ _ ?_
  refine hG _ _ _ _ _ _ _ _ _ _ _ ?_
  exact hend h2 _ _ (by omega) (by omega) ⟨_, _, Z2, O2, (RR_traF OZ.2.1 OR.2 hc HR o p).1⟩
set_option maxHeartbeats 4000000 in
theorem l_crash {G : xG} {ro : xR} {sv : Nat → Value} (hG : x_Good G ro sv) {b m n pg rm cs sl L I c t0 : Nat} {ra : Nat → Nat} {ca : Nat → Nat → Nat} {xs : Nat → Int32} {h : xH} {Q : xQ} {fb : Nat → Int32} (hs0 : sv 0 = .ref t0) (hro0 : ro t0 = some (7, fb)) (hfb : ∀ c, c < 7 → fb c = x_bits c) (hn2 : 2 ≤ n) (hn4 : n ≤ 4) (hp4 : 4 ≤ pg) (hp16 : pg ≤ 16) (hr1 : 1 ≤ rm) (D : DJ ca n m ra) (hro : ro b = some (L, xs)) (hI : I + 10 ≤ L) (hL : L ≤ 5123) (hcs : cs + 602 ≤ 600000) (hsl : sl + 3100 ≤ 7302250) (hc : c ≤ 511) (E : LI2 ca m ra n pg rm c h) (hend : ∀ h1 cs1 sl1, cs1 ≤ cs + 602 → sl1 ≤ sl + 3100 → LI2 ca m ra n pg rm (c + 1) h1 → G 9 n_L_law 600000 7302250 750 [(3, .int (nI I)), (2, .ref m), (1, .ref (ca 0 0)), (0, .ref b)] [] h1 cs1 sl1 Q) : G 9 n_L_law 600000 7302250 582 [(3, .int (nI I)), (2, .ref m), (1, .ref (ca 0 0)), (0, .ref b)] [] h cs sl Q := by
  obtain ⟨z, y, OZ, OR, HR⟩ := E
  repeat refine hG _ _ _ _ _ _ _ _ _ _ _ ?_
  refine ⟨_, _, Or.inr hro, ix_in (d := 1) (by omega) (by omega), ?_⟩
  repeat refine hG _ _ _ _ _ _ _ _ _ _ _ ?_
  refine ⟨c_obj (k := 0) OZ.1 Nat.zero_lt_one rfl rfl, 0, 0, by omega, by omega, cc_crash hG  OZ (fun z1 r h1 o O1 f1 => ?_)⟩
  have OR1 := OR.cx D f1
  repeat refine hG _ _ _ _ _ _ _ _ _ _ _ ?_
  refine ⟨_, _, Or.inr hro, ix_in (d := 1) (by omega) (by omega), ?_⟩
  repeat refine hG _ _ _ _ _ _ _ _ _ _ _ ?_
  refine ⟨⟨_, OR1.1.1⟩, 0, 0, by omega, by omega, rc_crash hG hc OR1 (fun y1 r1 h2 p O2 f2 => ?_)⟩
  have Z2 := O1.rf D OR1.1 f2
  refine hG _ _ _ _ _ _ _ _ _ _ _ ?_
  refine hG _ _ _ _ _ _ _ _ _ _ _ ?_
  exact hend h2 _ _ (by omega) (by omega) ⟨_, _, Z2, O2, (RR_crash OZ.2.1 OR.2 hc HR o p).1⟩
set_option maxHeartbeats 4000000 in
theorem l_repair {G : xG} {ro : xR} {sv : Nat → Value} (hG : x_Good G ro sv) {b m n pg rm cs sl L I c t0 : Nat} {ra : Nat → Nat} {ca : Nat → Nat → Nat} {xs : Nat → Int32} {h : xH} {Q : xQ} {fb : Nat → Int32} (hs0 : sv 0 = .ref t0) (hro0 : ro t0 = some (7, fb)) (hfb : ∀ c, c < 7 → fb c = x_bits c) (hn2 : 2 ≤ n) (hn4 : n ≤ 4) (hp4 : 4 ≤ pg) (hp16 : pg ≤ 16) (hr1 : 1 ≤ rm) (D : DJ ca n m ra) (hro : ro b = some (L, xs)) (hI : I + 10 ≤ L) (hL : L ≤ 5123) (hcs : cs + 602 ≤ 600000) (hsl : sl + 3100 ≤ 7302250) (hc : c ≤ 511) (E : LI2 ca m ra n pg rm c h) (hend : ∀ h1 cs1 sl1, cs1 ≤ cs + 602 → sl1 ≤ sl + 3100 → LI2 ca m ra n pg rm (c + 1) h1 → G 9 n_L_law 600000 7302250 750 [(3, .int (nI I)), (2, .ref m), (1, .ref (ca 0 0)), (0, .ref b)] [] h1 cs1 sl1 Q) : G 9 n_L_law 600000 7302250 605 [(3, .int (nI I)), (2, .ref m), (1, .ref (ca 0 0)), (0, .ref b)] [] h cs sl Q := by
  obtain ⟨z, y, OZ, OR, HR⟩ := E
  repeat refine hG _ _ _ _ _ _ _ _ _ _ _ ?_
  refine ⟨_, _, Or.inr hro, ix_in (d := 1) (by omega) (by omega), ?_⟩
  repeat refine hG _ _ _ _ _ _ _ _ _ _ _ ?_
  refine ⟨c_obj (k := 0) OZ.1 Nat.zero_lt_one rfl rfl, 0, 0, by omega, by omega, cc_repair hG  OZ (fun z1 r h1 o O1 f1 => ?_)⟩
  have OR1 := OR.cx D f1
  repeat refine hG _ _ _ _ _ _ _ _ _ _ _ ?_
  refine ⟨_, _, Or.inr hro, ix_in (d := 1) (by omega) (by omega), ?_⟩
  repeat refine hG _ _ _ _ _ _ _ _ _ _ _ ?_
  refine ⟨⟨_, OR1.1.1⟩, 0, 0, by omega, by omega, rc_repair hG hc OR1 (fun y1 r1 h2 p O2 f2 => ?_)⟩
  have Z2 := O1.rf D OR1.1 f2
  refine hG _ _ _ _ _ _ _ _ _ _ _ ?_
  refine hG _ _ _ _ _ _ _ _ _ _ _ ?_
  exact hend h2 _ _ (by omega) (by omega) ⟨_, _, Z2, O2, (RR_rep OR.2 hc HR o p).1⟩
set_option maxHeartbeats 4000000 in
theorem l_host {G : xG} {ro : xR} {sv : Nat → Value} (hG : x_Good G ro sv) {b m n pg rm cs sl L I c t0 : Nat} {ra : Nat → Nat} {ca : Nat → Nat → Nat} {xs : Nat → Int32} {h : xH} {Q : xQ} {fb : Nat → Int32} (hs0 : sv 0 = .ref t0) (hro0 : ro t0 = some (7, fb)) (hfb : ∀ c, c < 7 → fb c = x_bits c) (hn2 : 2 ≤ n) (hn4 : n ≤ 4) (hp4 : 4 ≤ pg) (hp16 : pg ≤ 16) (hr1 : 1 ≤ rm) (D : DJ ca n m ra) (hro : ro b = some (L, xs)) (hI : I + 10 ≤ L) (hL : L ≤ 5123) (hcs : cs + 602 ≤ 600000) (hsl : sl + 3100 ≤ 7302250) (hc : c ≤ 511) (E : LI2 ca m ra n pg rm c h) (hend : ∀ h1 cs1 sl1, cs1 ≤ cs + 602 → sl1 ≤ sl + 3100 → LI2 ca m ra n pg rm (c + 1) h1 → G 9 n_L_law 600000 7302250 750 [(3, .int (nI I)), (2, .ref m), (1, .ref (ca 0 0)), (0, .ref b)] [] h1 cs1 sl1 Q) : G 9 n_L_law 600000 7302250 628 [(3, .int (nI I)), (2, .ref m), (1, .ref (ca 0 0)), (0, .ref b)] [] h cs sl Q := by
  obtain ⟨z, y, OZ, OR, HR⟩ := E
  repeat refine hG _ _ _ _ _ _ _ _ _ _ _ ?_
  refine ⟨_, _, Or.inr hro, ix_in (d := 1) (by omega) (by omega), ?_⟩
  repeat refine hG _ _ _ _ _ _ _ _ _ _ _ ?_
  refine ⟨_, _, Or.inr hro, ix_in (d := 2) (by omega) (by omega), ?_⟩
  repeat refine hG _ _ _ _ _ _ _ _ _ _ _ ?_
  refine ⟨c_obj (k := 0) OZ.1 Nat.zero_lt_one rfl rfl, 0, 0, by omega, by omega, cc_host hG  OZ (fun z1 r h1 o O1 f1 => ?_)⟩
  have OR1 := OR.cx D f1
  repeat refine hG _ _ _ _ _ _ _ _ _ _ _ ?_
  refine ⟨_, _, Or.inr hro, ix_in (d := 1) (by omega) (by omega), ?_⟩
  repeat refine hG _ _ _ _ _ _ _ _ _ _ _ ?_
  refine ⟨_, _, Or.inr hro, ix_in (d := 2) (by omega) (by omega), ?_⟩
  repeat refine hG _ _ _ _ _ _ _ _ _ _ _ ?_
  refine ⟨⟨_, OR1.1.1⟩, 0, 0, by omega, by omega, rc_host hG hc OR1 (fun y1 r1 h2 p O2 f2 => ?_)⟩
  have Z2 := O1.rf D OR1.1 f2
  refine hG _ _ _ _ _ _ _ _ _ _ _ ?_
  refine hG _ _ _ _ _ _ _ _ _ _ _ ?_
  exact hend h2 _ _ (by omega) (by omega) ⟨_, _, Z2, O2, (RR_hosF OR.2 HR o p).1⟩
set_option maxHeartbeats 4000000 in
theorem l_memory {G : xG} {ro : xR} {sv : Nat → Value} (hG : x_Good G ro sv) {b m n pg rm cs sl L I c t0 : Nat} {ra : Nat → Nat} {ca : Nat → Nat → Nat} {xs : Nat → Int32} {h : xH} {Q : xQ} {fb : Nat → Int32} (hs0 : sv 0 = .ref t0) (hro0 : ro t0 = some (7, fb)) (hfb : ∀ c, c < 7 → fb c = x_bits c) (hn2 : 2 ≤ n) (hn4 : n ≤ 4) (hp4 : 4 ≤ pg) (hp16 : pg ≤ 16) (hr1 : 1 ≤ rm) (D : DJ ca n m ra) (hro : ro b = some (L, xs)) (hI : I + 10 ≤ L) (hL : L ≤ 5123) (hcs : cs + 602 ≤ 600000) (hsl : sl + 3100 ≤ 7302250) (hc : c ≤ 511) (E : LI2 ca m ra n pg rm c h) (hend : ∀ h1 cs1 sl1, cs1 ≤ cs + 602 → sl1 ≤ sl + 3100 → LI2 ca m ra n pg rm (c + 1) h1 → G 9 n_L_law 600000 7302250 750 [(3, .int (nI I)), (2, .ref m), (1, .ref (ca 0 0)), (0, .ref b)] [] h1 cs1 sl1 Q) : G 9 n_L_law 600000 7302250 661 [(3, .int (nI I)), (2, .ref m), (1, .ref (ca 0 0)), (0, .ref b)] [] h cs sl Q := by
  obtain ⟨z, y, OZ, OR, HR⟩ := E
  repeat refine hG _ _ _ _ _ _ _ _ _ _ _ ?_
  refine ⟨_, _, Or.inr hro, ix_in (d := 1) (by omega) (by omega), ?_⟩
  repeat refine hG _ _ _ _ _ _ _ _ _ _ _ ?_
  refine ⟨_, _, Or.inr hro, ix_in (d := 2) (by omega) (by omega), ?_⟩
  repeat refine hG _ _ _ _ _ _ _ _ _ _ _ ?_
  refine ⟨c_obj (k := 0) OZ.1 Nat.zero_lt_one rfl rfl, 0, 0, by omega, by omega, cc_memory hG hp4 OZ (fun z1 r h1 o O1 f1 => ?_)⟩
  have OR1 := OR.cx D f1
  repeat refine hG _ _ _ _ _ _ _ _ _ _ _ ?_
  refine ⟨_, _, Or.inr hro, ix_in (d := 1) (by omega) (by omega), ?_⟩
  repeat refine hG _ _ _ _ _ _ _ _ _ _ _ ?_
  refine ⟨_, _, Or.inr hro, ix_in (d := 2) (by omega) (by omega), ?_⟩
  repeat refine hG _ _ _ _ _ _ _ _ _ _ _ ?_
  refine ⟨⟨_, OR1.1.1⟩, 0, 0, by omega, by omega, rc_memory hG hc OR1 (fun y1 r1 h2 p O2 f2 => ?_)⟩
  have Z2 := O1.rf D OR1.1 f2
  refine hG _ _ _ _ _ _ _ _ _ _ _ ?_
  refine hG _ _ _ _ _ _ _ _ _ _ _ ?_
  exact hend h2 _ _ (by omega) (by omega) ⟨_, _, Z2, O2, (RR_memF hn4 hp16 HR o p).1⟩
set_option maxHeartbeats 4000000 in
theorem l_block {G : xG} {ro : xR} {sv : Nat → Value} (hG : x_Good G ro sv) {b m n pg rm cs sl L I c t0 : Nat} {ra : Nat → Nat} {ca : Nat → Nat → Nat} {xs : Nat → Int32} {h : xH} {Q : xQ} {fb : Nat → Int32} (hs0 : sv 0 = .ref t0) (hro0 : ro t0 = some (7, fb)) (hfb : ∀ c, c < 7 → fb c = x_bits c) (hn2 : 2 ≤ n) (hn4 : n ≤ 4) (hp4 : 4 ≤ pg) (hp16 : pg ≤ 16) (hr1 : 1 ≤ rm) (D : DJ ca n m ra) (hro : ro b = some (L, xs)) (hI : I + 10 ≤ L) (hL : L ≤ 5123) (hcs : cs + 602 ≤ 600000) (hsl : sl + 3100 ≤ 7302250) (hc : c ≤ 511) (E : LI2 ca m ra n pg rm c h) (hend : ∀ h1 cs1 sl1, cs1 ≤ cs + 602 → sl1 ≤ sl + 3100 → LI2 ca m ra n pg rm (c + 1) h1 → G 9 n_L_law 600000 7302250 750 [(3, .int (nI I)), (2, .ref m), (1, .ref (ca 0 0)), (0, .ref b)] [] h1 cs1 sl1 Q) : G 9 n_L_law 600000 7302250 694 [(3, .int (nI I)), (2, .ref m), (1, .ref (ca 0 0)), (0, .ref b)] [] h cs sl Q := by
  obtain ⟨z, y, OZ, OR, HR⟩ := E
  repeat refine hG _ _ _ _ _ _ _ _ _ _ _ ?_
  refine ⟨_, _, Or.inr hro, ix_in (d := 1) (by omega) (by omega), ?_⟩
  repeat refine hG _ _ _ _ _ _ _ _ _ _ _ ?_
  refine ⟨_, _, Or.inr hro, ix_in (d := 2) (by omega) (by omega), ?_⟩
  repeat refine hG _ _ _ _ _ _ _ _ _ _ _ ?_
  refine ⟨c_obj (k := 0) OZ.1 Nat.zero_lt_one rfl rfl, 0, 0, by omega, by omega, cc_block hG  OZ (fun z1 r h1 o O1 f1 => ?_)⟩
  have OR1 := OR.cx D f1
  repeat refine hG _ _ _ _ _ _ _ _ _ _ _ ?_
  refine ⟨_, _, Or.inr hro, ix_in (d := 1) (by omega) (by omega), ?_⟩
  repeat refine hG _ _ _ _ _ _ _ _ _ _ _ ?_
  refine ⟨_, _, Or.inr hro, ix_in (d := 2) (by omega) (by omega), ?_⟩
  repeat refine hG _ _ _ _ _ _ _ _ _ _ _ ?_
  refine ⟨⟨_, OR1.1.1⟩, 0, 0, by omega, by omega, rc_block hG hc OR1 (fun y1 r1 h2 p O2 f2 => ?_)⟩
  have Z2 := O1.rf D OR1.1 f2
  have hq := (RR_blkF HR o p).2
  refine hG _ _ _ _ _ _ _ _ _ _ _ ?_
  exact ⟨fun _ => hend h2 _ _ (by omega) (by omega) ⟨_, _, Z2, O2, (RR_blkF HR o p).1⟩, fun hx => absurd hq hx⟩
set_option maxHeartbeats 4000000 in
theorem l_out {G : xG} {ro : xR} {sv : Nat → Value} (hG : x_Good G ro sv) {b m n pg rm cs sl L I c t0 : Nat} {ra : Nat → Nat} {ca : Nat → Nat → Nat} {xs : Nat → Int32} {h : xH} {Q : xQ} {fb : Nat → Int32} (hs0 : sv 0 = .ref t0) (hro0 : ro t0 = some (7, fb)) (hfb : ∀ c, c < 7 → fb c = x_bits c) (hn2 : 2 ≤ n) (hn4 : n ≤ 4) (hp4 : 4 ≤ pg) (hp16 : pg ≤ 16) (hr1 : 1 ≤ rm) (D : DJ ca n m ra) (hro : ro b = some (L, xs)) (hI : I + 10 ≤ L) (hL : L ≤ 5123) (hcs : cs + 602 ≤ 600000) (hsl : sl + 3100 ≤ 7302250) (hc : c ≤ 511) (E : LI2 ca m ra n pg rm c h) (hend : ∀ h1 cs1 sl1, cs1 ≤ cs + 602 → sl1 ≤ sl + 3100 → LI2 ca m ra n pg rm (c + 1) h1 → G 9 n_L_law 600000 7302250 750 [(3, .int (nI I)), (2, .ref m), (1, .ref (ca 0 0)), (0, .ref b)] [] h1 cs1 sl1 Q) : G 9 n_L_law 600000 7302250 727 [(3, .int (nI I)), (2, .ref m), (1, .ref (ca 0 0)), (0, .ref b)] [] h cs sl Q := by
  obtain ⟨z, y, OZ, OR, HR⟩ := E
  repeat refine hG _ _ _ _ _ _ _ _ _ _ _ ?_
  refine ⟨_, _, Or.inr hro, ix_in (d := 1) (by omega) (by omega), ?_⟩
  repeat refine hG _ _ _ _ _ _ _ _ _ _ _ ?_
  refine ⟨c_obj (k := 0) OZ.1 Nat.zero_lt_one rfl rfl, 0, 0, by omega, by omega, cc_out hG OZ (fun r O1 => ?_)⟩
  repeat refine hG _ _ _ _ _ _ _ _ _ _ _ ?_
  refine ⟨_, _, Or.inr hro, ix_in (d := 1) (by omega) (by omega), ?_⟩
  repeat refine hG _ _ _ _ _ _ _ _ _ _ _ ?_
  refine ⟨⟨_, OR.1.1⟩, 0, 0, by omega, by omega, rc_out hG hc OR (fun r1 h2 O2 f2 => ?_)⟩
  have Z2 := O1.rf D OR.1 f2
  refine hG _ _ _ _ _ _ _ _ _ _ _ ?_
  refine hG _ _ _ _ _ _ _ _ _ _ _ ?_
  exact hend h2 _ _ (by omega) (by omega) ⟨_, _, Z2, O2, (RR_upw HR (by omega))⟩
theorem l_body {G : xG} {ro : xR} {sv : Nat → Value} (hG : x_Good G ro sv) {b m n pg rm cs sl L I c t0 : Nat} {ra : Nat → Nat} {ca : Nat → Nat → Nat} {xs : Nat → Int32} {h : xH} {Q : xQ} {fb : Nat → Int32} (hs0 : sv 0 = .ref t0) (hro0 : ro t0 = some (7, fb)) (hfb : ∀ c, c < 7 → fb c = x_bits c) (hn2 : 2 ≤ n) (hn4 : n ≤ 4) (hp4 : 4 ≤ pg) (hp16 : pg ≤ 16) (hr1 : 1 ≤ rm) (D : DJ ca n m ra) (hro : ro b = some (L, xs)) (hI : I + 10 ≤ L) (hL : L ≤ 5123) (hcs : cs + 602 ≤ 600000) (hsl : sl + 3100 ≤ 7302250) (hc : c ≤ 511) (E : LI2 ca m ra n pg rm c h) (hend : ∀ h1 cs1 sl1, cs1 ≤ cs + 602 → sl1 ≤ sl + 3100 → LI2 ca m ra n pg rm (c + 1) h1 → G 9 n_L_law 600000 7302250 750 [(3, .int (nI I)), (2, .ref m), (1, .ref (ca 0 0)), (0, .ref b)] [] h1 cs1 sl1 Q) : G 9 n_L_law 600000 7302250 57 [(3, .int (nI I)), (2, .ref m), (1, .ref (ca 0 0)), (0, .ref b)] [] h cs sl Q := by
  have dflt : G 9 n_L_law 600000 7302250 750 [(3, .int (nI I)), (2, .ref m), (1, .ref (ca 0 0)), (0, .ref b)] [] h cs sl Q := by
    obtain ⟨z, y, OZ, OR, HR⟩ := E
    exact hend h cs sl (by omega) (by omega) ⟨z, y, OZ.up (by omega), OR.up hc OR.1, RR_upw HR (by omega)⟩
  repeat refine hG _ _ _ _ _ _ _ _ _ _ _ ?_
  refine ⟨_, _, Or.inr hro, ix_0 (by omega) (by omega), ?_⟩
  repeat refine hG _ _ _ _ _ _ _ _ _ _ _ ?_
  obtain ⟨j, hj, ej⟩ := pk_andE (xs (nI I).toNatClampNeg) (m := 31) 5 (by decide)
  have hj : j < 32 := hj
  rw [ej]
  match j, hj with
  | 0, _ => exact ⟨148, Or.inr ⟨by decide, by decide, 85, by decide, by decide⟩, l_put hG hs0 hro0 hfb hn2 hn4 hp4 hp16 hr1 D hro hI hL hcs hsl hc E hend⟩
  | 1, _ => exact ⟨211, Or.inr ⟨by decide, by decide, 148, by decide, by decide⟩, l_boot hG hs0 hro0 hfb hn2 hn4 hp4 hp16 hr1 D hro hI hL hcs hsl hc E hend⟩
  | 2, _ => exact ⟨224, Or.inr ⟨by decide, by decide, 161, by decide, by decide⟩, l_run hG hs0 hro0 hfb hn2 hn4 hp4 hp16 hr1 D hro hI hL hcs hsl hc E hend⟩
  | 3, _ => exact ⟨257, Or.inr ⟨by decide, by decide, 194, by decide, by decide⟩, l_key hG hs0 hro0 hfb hn2 hn4 hp4 hp16 hr1 D hro hI hL hcs hsl hc E hend⟩
  | 4, _ => exact ⟨280, Or.inr ⟨by decide, by decide, 217, by decide, by decide⟩, l_packet hG hs0 hro0 hfb hn2 hn4 hp4 hp16 hr1 D hro hI hL hcs hsl hc E hend⟩
  | 5, _ => exact ⟨471, Or.inr ⟨by decide, by decide, 408, by decide, by decide⟩, l_tick hG hs0 hro0 hfb hn2 hn4 hp4 hp16 hr1 D hro hI hL hcs hsl hc E hend⟩
  | 6, _ => exact ⟨484, Or.inr ⟨by decide, by decide, 421, by decide, by decide⟩, l_disk hG hs0 hro0 hfb hn2 hn4 hp4 hp16 hr1 D hro hI hL hcs hsl hc E hend⟩
  | 7, _ => exact ⟨497, Or.inr ⟨by decide, by decide, 434, by decide, by decide⟩, l_deliver hG hs0 hro0 hfb hn2 hn4 hp4 hp16 hr1 D hro hI hL hcs hsl hc E hend⟩
  | 8, _ => exact ⟨510, Or.inr ⟨by decide, by decide, 447, by decide, by decide⟩, l_ack hG hs0 hro0 hfb hn2 hn4 hp4 hp16 hr1 D hro hI hL hcs hsl hc E hend⟩
  | 9, _ => exact ⟨523, Or.inr ⟨by decide, by decide, 460, by decide, by decide⟩, l_suspect hG hs0 hro0 hfb hn2 hn4 hp4 hp16 hr1 D hro hI hL hcs hsl hc E hend⟩
  | 10, _ => exact ⟨546, Or.inr ⟨by decide, by decide, 483, by decide, by decide⟩, l_protect hG hs0 hro0 hfb hn2 hn4 hp4 hp16 hr1 D hro hI hL hcs hsl hc E hend⟩
  | 11, _ => exact ⟨569, Or.inr ⟨by decide, by decide, 506, by decide, by decide⟩, l_transfer hG hs0 hro0 hfb hn2 hn4 hp4 hp16 hr1 D hro hI hL hcs hsl hc E hend⟩
  | 12, _ => exact ⟨582, Or.inr ⟨by decide, by decide, 519, by decide, by decide⟩, l_crash hG hs0 hro0 hfb hn2 hn4 hp4 hp16 hr1 D hro hI hL hcs hsl hc E hend⟩
  | 13, _ => exact ⟨605, Or.inr ⟨by decide, by decide, 542, by decide, by decide⟩, l_repair hG hs0 hro0 hfb hn2 hn4 hp4 hp16 hr1 D hro hI hL hcs hsl hc E hend⟩
  | 14, _ => exact ⟨628, Or.inr ⟨by decide, by decide, 565, by decide, by decide⟩, l_host hG hs0 hro0 hfb hn2 hn4 hp4 hp16 hr1 D hro hI hL hcs hsl hc E hend⟩
  | 15, _ => exact ⟨661, Or.inr ⟨by decide, by decide, 598, by decide, by decide⟩, l_memory hG hs0 hro0 hfb hn2 hn4 hp4 hp16 hr1 D hro hI hL hcs hsl hc E hend⟩
  | 16, _ => exact ⟨694, Or.inr ⟨by decide, by decide, 631, by decide, by decide⟩, l_block hG hs0 hro0 hfb hn2 hn4 hp4 hp16 hr1 D hro hI hL hcs hsl hc E hend⟩
  | 17, _ => exact ⟨727, Or.inr ⟨by decide, by decide, 664, by decide, by decide⟩, l_out hG hs0 hro0 hfb hn2 hn4 hp4 hp16 hr1 D hro hI hL hcs hsl hc E hend⟩
  | 18, _ => exact ⟨750, Or.inl ⟨by decide, by decide⟩, dflt⟩
  | 19, _ => exact ⟨750, Or.inl ⟨by decide, by decide⟩, dflt⟩
  | 20, _ => exact ⟨750, Or.inl ⟨by decide, by decide⟩, dflt⟩
  | 21, _ => exact ⟨750, Or.inl ⟨by decide, by decide⟩, dflt⟩
  | 22, _ => exact ⟨750, Or.inl ⟨by decide, by decide⟩, dflt⟩
  | 23, _ => exact ⟨750, Or.inl ⟨by decide, by decide⟩, dflt⟩
  | 24, _ => exact ⟨750, Or.inl ⟨by decide, by decide⟩, dflt⟩
  | 25, _ => exact ⟨750, Or.inl ⟨by decide, by decide⟩, dflt⟩
  | 26, _ => exact ⟨750, Or.inl ⟨by decide, by decide⟩, dflt⟩
  | 27, _ => exact ⟨750, Or.inl ⟨by decide, by decide⟩, dflt⟩
  | 28, _ => exact ⟨750, Or.inl ⟨by decide, by decide⟩, dflt⟩
  | 29, _ => exact ⟨750, Or.inl ⟨by decide, by decide⟩, dflt⟩
  | 30, _ => exact ⟨750, Or.inl ⟨by decide, by decide⟩, dflt⟩
  | 31, _ => exact ⟨750, Or.inl ⟨by decide, by decide⟩, dflt⟩
  | j + 32, hj => exact absurd hj (by omega)
set_option maxRecDepth 100000 in
theorem l_loop {G : xG} {ro : xR} {sv : Nat → Value} (hG : x_Good G ro sv) {b m n pg rm L t0 : Nat} {ra : Nat → Nat} {ca : Nat → Nat → Nat} {xs : Nat → Int32} {Q : xQ} {fb : Nat → Int32} (hs0 : sv 0 = .ref t0) (hro0 : ro t0 = some (7, fb)) (hfb : ∀ c, c < 7 → fb c = x_bits c) (hn2 : 2 ≤ n) (hn4 : n ≤ 4) (hp4 : 4 ≤ pg) (hp16 : pg ≤ 16) (hr1 : 1 ≤ rm) (D : DJ ca n m ra) (hro : ro b = some (L, xs)) (hL : L ≤ 5123) (hQ : ∀ h, Q (some (.int 1)) h) : ∀ (f k cs sl : Nat) (h : xH), k + f = 513 → cs ≤ 2000 + 602 * k → sl ≤ 830000 + 3100 * k → LI2 ca m ra n pg rm k h → G 9 n_L_law 600000 7302250 48 [(3, .int (nI (3 + 10 * k))), (2, .ref m), (1, .ref (ca 0 0)), (0, .ref b)] [] h cs sl Q := by
  intro f
  induction f with
  | zero =>
    intro k cs sl h hk hcs hsl E
    repeat refine hG _ _ _ _ _ _ _ _ _ _ _ ?_
    refine ⟨L, Or.inr ⟨xs, hro⟩, ?_⟩
    repeat refine hG _ _ _ _ _ _ _ _ _ _ _ ?_
    refine ⟨fun _ => ?_, fun hc => absurd ((lt10 (by omega) (by omega)).mpr (by omega)) hc⟩
    repeat refine hG _ _ _ _ _ _ _ _ _ _ _ ?_
    exact ⟨rfl, by omega, by omega, hQ h⟩
  | succ f ih =>
    intro k cs sl h hk hcs hsl E
    repeat refine hG _ _ _ _ _ _ _ _ _ _ _ ?_
    refine ⟨L, Or.inr ⟨xs, hro⟩, ?_⟩
    repeat refine hG _ _ _ _ _ _ _ _ _ _ _ ?_
    by_cases hl : L < 3 + 10 * k + 10
    · refine ⟨fun _ => ?_, fun hc => absurd ((lt10 (by omega) (by omega)).mpr hl) hc⟩
      repeat refine hG _ _ _ _ _ _ _ _ _ _ _ ?_
      exact ⟨rfl, by omega, by omega, hQ h⟩
    · refine ⟨fun hc => absurd ((lt10 (by omega) (by omega)).mp hc) hl, fun _ => ?_⟩
      refine l_body hG (I := 3 + 10 * k) (c := k) hs0 hro0 hfb hn2 hn4 hp4 hp16 hr1 D hro (by omega) hL (by omega) (by omega) (by omega) E (fun h1 cs1 sl1 b1 b2 E1 => ?_)
      have i1 := ih (k + 1) cs1 sl1 h1 (by omega) (by omega) (by omega) E1
      refine hG _ _ _ _ _ _ _ _ _ _ _ ?_
      refine hG _ _ _ _ _ _ _ _ _ _ _ ?_
      rw [show nI (3 + 10 * k) + 10 = nI (3 + 10 * (k + 1)) by rw [show (10 : Int32) = nI 10 from rfl, nIv_add, show 3 + 10 * k + 10 = 3 + 10 * (k + 1) by omega]]
      exact i1
set_option maxHeartbeats 4000000 in
set_option maxRecDepth 100000 in
theorem x_lawN {b L : Nat} {xs : Nat → Int32} (hL : L ≤ 5123) : x_Law b L xs := by
  rintro G ro sv t0 hG hro hs0 ⟨f0, hf0, hfb⟩
  have hL31 : L < 2 ^ 31 := by omega
  repeat refine hG _ _ _ _ _ _ _ _ _ _ _ ?_
  refine ⟨by decide, by decide, fun x hx0 => ?_⟩
  rintro h1 e1
  repeat refine hG _ _ _ _ _ _ _ _ _ _ _ ?_
  refine ⟨0, 0, by decide, by decide, l_cellN hG (k := 0) hL31 (by decide) hro ?_⟩
  repeat refine hG _ _ _ _ _ _ _ _ _ _ _ ?_
  refine ⟨0, 0, by decide, by decide, l_cellN hG (k := 1) hL31 (by decide) hro ?_⟩
  repeat refine hG _ _ _ _ _ _ _ _ _ _ _ ?_
  refine ⟨0, 0, by decide, by decide, l_cellN hG (k := 2) hL31 (by decide) hro ?_⟩
  repeat refine hG _ _ _ _ _ _ _ _ _ _ _ ?_
  refine ⟨1000, 60000, by decide, by decide, m_X11 hG hs0 ⟨f0, hf0⟩ (by rw [e1, x_up_self]; rfl) (fun hx n pg rm ca hn1 hn2 hp1 hp2 hr1 hr2 en ep er hC e0 => ?_)⟩
  repeat refine hG _ _ _ _ _ _ _ _ _ _ _ ?_
  refine ⟨by decide, by decide, fun m hm => ?_⟩
  rintro h3 e3
  repeat refine hG _ _ _ _ _ _ _ _ _ _ _ ?_
  refine ⟨0, 0, by decide, by decide, l_cellN hG (k := 0) hL31 (by decide) hro ?_⟩
  repeat refine hG _ _ _ _ _ _ _ _ _ _ _ ?_
  refine ⟨0, 0, by decide, by decide, l_cellN hG (k := 1) hL31 (by decide) hro ?_⟩
  repeat refine hG _ _ _ _ _ _ _ _ _ _ _ ?_
  refine ⟨0, 0, by decide, by decide, l_cellN hG (k := 2) hL31 (by decide) hro ?_⟩
  repeat refine hG _ _ _ _ _ _ _ _ _ _ _ ?_
  refine ⟨60, 753964, by decide, by decide, c_X12_init hG (by rw [e3, x_up_self, r_F0_eq]) (fun h4 ra hR hfr hra => ?_)⟩
  rw [en, ep, er] at hR
  have cell : ∀ k j, j < c_cnt n k → hx (ca k j) = some (c_cell ca n pg rm (uI pg rm) tI rI k j) := hC.1
  have nm : ∀ k j, j < c_cnt n k → ca k j ≠ m := fun k j hj => x_fr hm (cell k j hj)
  have D : DJ ca n m ra := fun k j hj => ⟨nm k j hj, fun i hi q => by
    have := hra i hi
    rw [← q, x_upd e3 hm (cell k j hj)] at this; cases this⟩
  have hC4 : RepC ca n pg rm (uI pg rm) tI rI h4 := ⟨fun k j hj => hfr _ _ (x_upd e3 hm (cell k j hj)) (nm k j hj), hC.2⟩
  have OR : OKR m ra n pg rm 0 (r_s0 (nI n) (nI pg) (nI rm), fun _ _ => 0) h4 := ⟨hR, CV_I hn1 hn2 hp1 hp2 hr1 hr2⟩
  have k0 := l_loop hG (t0 := t0) (b := b) (Q := fun v _ => v = some (.int 1)) hs0 hf0 hfb hn1 hn2 hp1 hp2 hr1 D hro hL (fun _ => rfl) 513 0 1062 814052 h4 rfl (by decide) (by decide) ⟨_, _, OKZ_I hp1 hC4, OR, RR_I rfl rfl⟩
  rw [e0] at k0
  refine hG _ _ _ _ _ _ _ _ _ _ _ ?_
  refine hG _ _ _ _ _ _ _ _ _ _ _ ?_
  refine hG _ _ _ _ _ _ _ _ _ _ _ ?_
  exact k0
