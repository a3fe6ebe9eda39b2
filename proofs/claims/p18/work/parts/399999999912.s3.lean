def s_en (s : (Nat → Nat → Int32)) (kk N : Nat) (f : Nat → Int32) : (Nat → Nat → Int32) := fun F i => if F = 45 then nI kk else if F = 47 then nI N else if F = 48 then 0 else if F = 51 then f i else s F i
theorem s_en_ne {s : (Nat → Nat → Int32)} {kk N F : Nat} {f : Nat → Int32} (h : F ≠ 45 ∧ F ≠ 47 ∧ F ≠ 48 ∧ F ≠ 51) : s_en s kk N f F = s F := by
  funext i
  unfold s_en
  rw [if_neg h.1, if_neg h.2.1, if_neg h.2.2.1, if_neg h.2.2.2]
theorem KH_ev {pg j kk N : Nat} {u : (Nat → Nat → Int32)} {f : Nat → Int32} {d1 vl : Int32} {bo : Option (Nat × (Nat → Int32))} (H : KH pg j u) (hp : pg ≤ 16) (hj : j < 4) (hk : kk ≤ 3) (hN : N ≤ 64) (h1 : kk = 1 → 1 ≤ N ∧ N ≤ 32) (h33 : kk = 0 → cl (u 33 j) < 16) (h35 : kk = 1 → cl (u 35 j) < 4) (hd : d1 = nI ((kk + 1) % 5)) (hv : kk = 0 → vl = f 0 &&& 255) (hb1 : kk = 1 → ∃ g, bo = some (N, g) ∧ ∀ i, i < N → g i = f i ∧ byt (g i)) (hb3 : kk = 3 → N = 64 ∧ ∃ g, bo = some (64, g) ∧ ∀ i, i < 64 → g i = f i) (hb : ¬ kk = 1 → ¬ kk = 3 → bo = none) : KH pg j (k_rcv u pg j d1 vl bo) ∧ w_F j u (k_rcv u pg j d1 vl bo) := by
  obtain ⟨s, W, hB, h38, h61⟩ := H
  have ne : ∀ F, F ≠ 45 ∧ F ≠ 47 ∧ F ≠ 48 ∧ F ≠ 51 → s_en s kk N f F = s F := fun F h => s_en_ne h
  have W1 : w_W pg j u (s_en s kk N f) u := w_W_s W (fun F hF => ne F (by omega))
  have hB1 : v_B (256 * pg) j (s_en s kk N f) := v_B_nf hB (fun F hF => ne F (by omega))
  have e45 : s_en s kk N f 45 0 = nI kk := rfl
  have e47 : s_en s kk N f 47 0 = nI N := rfl
  have e48 : s_en s kk N f 48 0 = nI 0 := rfl
  have e51 : ∀ i, s_en s kk N f 51 i = f i := fun i => rfl
  have c45 : cl (s_en s kk N f 45 0) = kk := by rw [e45, cl_nI (by omega)]
  have c47 : cl (s_en s kk N f 47 0) = N := by rw [e47, cl_nI (by omega)]
  have c48 : cl (s_en s kk N f 48 0) = 0 := by rw [e48, cl_nI (by omega)]
  have e33 := w_g1 33 W.1 rfl
  have e35 := w_g1 35 W.1 rfl
  have OK : EvOK (s_en s kk N f) j 0 := by
    refine ⟨by decide, ?_, ?_, ?_, ?_, ?_, ?_, ?_, ?_, ?_⟩
    · rw [e45]; exact nb_n (by omega) (by decide)
    · rw [e48]; exact nb_n (by omega) (by decide)
    · rw [e47]; exact nb_n hN (by decide)
    · rw [c45, c47]; exact fun q => (h1 q).2
    · rw [ne 33 (by decide)]; exact hB.2.2.2.1
    · rw [c45, ne 33 (by decide), ← e33]; exact h33
    · rw [ne 35 (by decide)]; exact hB.2.2.2.2.1
    · rw [c45, ne 35 (by decide), ← e35]; exact h35
    · rw [ne 30 (by decide)]; exact fun _ _ => nb_mono hB.2.2.2.2.2.2.1 (by omega)
  have er : ER (s_en s kk N f) (fun _ _ => 0) 0 (d1, vl, bo, 0, s_en s kk N f 46 0) := by
    unfold ER
    rw [c45, c47, c48]
    refine ⟨hd, fun q => by rw [e51]; exact hv q, fun q => ⟨h1 q, ?_⟩, fun q => ⟨fun _ => ?_, fun r => absurd (hb3 q).1 r⟩, hb, rfl, rfl⟩
    · obtain ⟨g, g1, g2⟩ := hb1 q
      exact ⟨g, g1, fun i hi => ⟨by rw [e51, Nat.zero_add]; exact (g2 i hi).1, (g2 i hi).2⟩⟩
    · obtain ⟨-, g, g1, g2⟩ := hb3 q
      exact ⟨g, g1, fun i hi => by rw [e51, Nat.zero_add]; exact g2 i hi⟩
  have W2 := w_ev W1 hB1 hp OK er (fun q _ => by rw [c45] at q; rw [c47]; exact (hb3 q).1)
  have hB2 := (ev_R hB1 (by rw [ne 38 (by decide), h38]; exact nb_0) OK).2.2.1
  exact ⟨KH_of hj W2 hB2, W2.2.2.2.2.2.2⟩
theorem w_F_rf {j : Nat} {u : (Nat → Nat → Int32)} : w_F j u u := fun _ _ => Or.inl rfl
theorem KH_rcv {pg j : Nat} {u : (Nat → Nat → Int32)} {d : ED} (H : KH pg j u) (hp : pg ≤ 16) (hj : j < 4) (ek : EK d) : KH pg j (k_rcv u pg j d.1 d.2.1 d.2.2.1) ∧ w_F j u (k_rcv u pg j d.1 d.2.1 d.2.2.1) := by
  obtain ⟨kd, vl, bo, ct, lf⟩ := d
  obtain ⟨k1, k2, k3, k4⟩ := ek
  show KH pg j (k_rcv u pg j kd vl bo) ∧ w_F j u (k_rcv u pg j kd vl bo)
  have R := H.R
  by_cases e1 : kd = 1
  · by_cases f1 : cl (u 33 j) = 16
    · unfold k_rcv; rw [if_pos e1, if_pos f1]; exact ⟨H, w_F_rf⟩
    · have hbo : bo = none := k4 (by show ¬ kd = 2; rw [e1]; decide) (by show ¬ kd = 4; rw [e1]; decide)
      have h16 := R.2.1.2
      exact KH_ev (kk := 0) (N := 0) (f := fun _ => vl) H hp hj (by omega) (by omega) (fun q => absurd q (by decide)) (fun _ => by omega) (fun q => absurd q (by decide)) (by rw [e1]; rfl) (fun _ => (k1 e1).symm) (fun q => absurd q (by decide)) (fun q => absurd q (by decide)) (fun _ _ => hbo)
  by_cases e2 : kd = 2
  · obtain ⟨N, g, g1, g2, g3, g4⟩ := k2 e2
    have g1 : bo = some (N, g) := g1
    by_cases f1 : cl (u 35 j) = 4
    · unfold k_rcv; rw [if_neg e1, if_pos e2, g1]; show KH pg j (if _ then _ else _) ∧ w_F j u (if _ then _ else _); rw [if_pos f1]; exact ⟨H, w_F_rf⟩
    · have h4 := R.2.2.2.2
      exact KH_ev (kk := 1) (N := N) (f := g) H hp hj (by omega) (by omega) (fun _ => ⟨g2, g3⟩) (fun q => absurd q (by decide)) (fun _ => by omega) (by rw [e2]; rfl) (fun q => absurd q (by decide)) (fun _ => ⟨g, g1, fun i hi => ⟨rfl, g4 i hi⟩⟩) (fun q => absurd q (by decide)) (fun q => absurd rfl q)
  by_cases e3 : kd = 3
  · have hbo : bo = none := k4 e2 (by show ¬ kd = 4; rw [e3]; decide)
    exact KH_ev (kk := 2) (N := 0) (f := fun _ => 0) H hp hj (by omega) (by omega) (fun q => absurd q (by decide)) (fun q => absurd q (by decide)) (fun q => absurd q (by decide)) (by rw [e3]; rfl) (fun q => absurd q (by decide)) (fun q => absurd q (by decide)) (fun q => absurd q (by decide)) (fun _ _ => hbo)
  by_cases e4 : kd = 4
  · rcases k3 e4 with q | ⟨g, q⟩
    · have q : bo = none := q
      have e : k_rcv u pg j kd vl bo = u2 u 27 j 2 := by unfold k_rcv; rw [if_neg e1, if_neg e2, if_neg e3, if_pos e4, q]
      rw [e]
      obtain ⟨s, W, hB, h38, h61⟩ := H
      have W2 := w_W_1 (v := 2) (w := 2) 27 W rfl rfl
      exact ⟨KH_of hj W2 (v_B_g hB (by decide) (fun q => absurd q (by decide)) (fun q => absurd q (by decide)) (fun q => absurd q (by decide)) (fun q => absurd q (by decide)) (fun q => absurd q (by decide)) (fun q => absurd q (by decide))), W2.2.2.2.2.2.2⟩
    · have q : bo = some (64, g) := q
      exact KH_ev (kk := 3) (N := 64) (f := g) H hp hj (by omega) (by omega) (fun q => absurd q (by decide)) (fun q => absurd q (by decide)) (fun q => absurd q (by decide)) (by rw [e4]; rfl) (fun q => absurd q (by decide)) (fun q => absurd q (by decide)) (fun _ => ⟨rfl, g, q, fun _ _ => rfl⟩) (fun _ q => absurd rfl q)
  · unfold k_rcv; rw [if_neg e1, if_neg e2, if_neg e3, if_neg e4]; exact ⟨H, w_F_rf⟩
