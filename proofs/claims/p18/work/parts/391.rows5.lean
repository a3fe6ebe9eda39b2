def m_system (σ : Nat → Nat → Int32) (τ : Nat → Nat → Int64) (j : Nat) (w a : Int32) : Nat → Nat → Int32 :=
  if w = 115 then m_trap σ j 11 0
  else if w = 1048691 then m_trap σ j 3 (σ 17 j)
  else if w = 807403635 then u2 (u2 σ 17 j (σ 18 (7 * j + 4))) 18 (7 * j + 0) (m_mask 0 (m_sr (u2 σ 17 j (σ 18 (7 * j + 4)) 18 (7 * j + 0) &&& 128) 4 ||| 128))
  else if w = 273678451 then u2 (u2 σ 20 j 1) 17 j (u2 σ 20 j 1 17 j + 4)
  else m_register σ τ j w a
theorem rr_system {G : xG} {ro : xR} {sv : Nat → Value} (hG : x_Good G ro sv) {d m j : Nat} {ra : Nat → Nat} {σ : Nat → Nat → Int32} {τ : Nat → Nat → Int64} {h : xH} {Q : xQ} {w a : Int32} (hR : RepR m ra σ τ h) (hj : j < 4) (hQ : ∀ h', RepR m ra (m_system σ τ j w a) τ h' → RF m ra h h' → Q none h') : G (d + 3) n_X12_system 0 0 0 [(0, .ref m), (1, .int (nI j)), (2, .int w), (3, .int a)] [] h 0 0 Q := by
  have hin : vp_in (nI j) 4 := vp_in_nI hj (by decide)
  have hcl : (nI j).toNatClampNeg = j := nI_clamp (by omega)
  repeat refine hG _ _ _ _ _ _ _ _ _ _ _ ?_
  refine ⟨fun q1 => ?_, fun q1 => ?_⟩
  · repeat refine hG _ _ _ _ _ _ _ _ _ _ _ ?_
    refine ⟨fun q2 => ?_, fun q2 => ?_⟩
    · repeat refine hG _ _ _ _ _ _ _ _ _ _ _ ?_
      refine ⟨fun q3 => ?_, fun q3 => ?_⟩
      · repeat refine hG _ _ _ _ _ _ _ _ _ _ _ ?_
        refine ⟨fun q4 => ?_, fun q4 => ?_⟩
        · rw [m_system, if_neg q1, if_neg q2, if_neg q3, if_neg q4] at hQ
          repeat refine hG _ _ _ _ _ _ _ _ _ _ _ ?_
          refine ⟨⟨_, hR.1⟩, 0, 0, by decide, by decide, rr_register hG hR hj (fun h1 hR1 f1 => ?_)⟩
          repeat refine hG _ _ _ _ _ _ _ _ _ _ _ ?_
          exact ⟨by decide, by decide, hQ h1 hR1 f1⟩
        · rw [m_system, if_neg q1, if_neg q2, if_neg q3, if_pos q4] at hQ
          repeat refine hG _ _ _ _ _ _ _ _ _ _ _ ?_
          refine ⟨_, _, hR.1, r_at (by decide), ?_⟩
          repeat refine hG _ _ _ _ _ _ _ _ _ _ _ ?_
          refine ⟨_, _, _, .boolean, hR.2.1 20 rfl, rfl, Or.inr rfl, hin, ?_⟩
          rintro h1 e1
          have e1 : h1 = x_up h (ra 20) (.inl (r_ty 20, r_len 20, .inl (upd (σ 20) (nI j).toNatClampNeg 1))) := e1
          rw [hcl] at e1
          obtain ⟨hR1, f1⟩ := r_seti (K := 20) hR rfl rfl e1
          repeat refine hG _ _ _ _ _ _ _ _ _ _ _ ?_
          refine ⟨_, _, hR1.1, r_at (by decide), ?_⟩
          repeat refine hG _ _ _ _ _ _ _ _ _ _ _ ?_
          refine ⟨_, _, Or.inl ⟨_, hR1.2.1 17 rfl, rfl⟩, hin, ?_⟩
          rw [hcl]
          repeat refine hG _ _ _ _ _ _ _ _ _ _ _ ?_
          refine ⟨_, _, _, hR1.2.1 17 rfl, rfl, hin, ?_⟩
          rintro h2 e2
          rw [hcl] at e2
          obtain ⟨hR2, f2⟩ := r_seti (K := 17) hR1 rfl rfl e2
          repeat refine hG _ _ _ _ _ _ _ _ _ _ _ ?_
          exact ⟨by decide, by decide, hQ h2 hR2 (f1.tr f2)⟩
      · rw [m_system, if_neg q1, if_neg q2, if_pos q3] at hQ
        repeat refine hG _ _ _ _ _ _ _ _ _ _ _ ?_
        refine ⟨_, _, hR.1, r_at (by decide), ?_⟩
        repeat refine hG _ _ _ _ _ _ _ _ _ _ _ ?_
        refine ⟨⟨_, hR.1⟩, 0, 0, by decide, by decide, rr_control hG (k := 4) hR hj (by decide) ?_⟩
        repeat refine hG _ _ _ _ _ _ _ _ _ _ _ ?_
        refine ⟨_, _, _, hR.2.1 17 rfl, rfl, hin, ?_⟩
        rintro h1 e1
        rw [hcl] at e1
        obtain ⟨hR1, f1⟩ := r_seti (K := 17) hR rfl rfl e1
        repeat refine hG _ _ _ _ _ _ _ _ _ _ _ ?_
        refine ⟨⟨_, hR1.1⟩, 0, 0, by decide, by decide, rr_control hG (k := 0) hR1 hj (by decide) ?_⟩
        repeat refine hG _ _ _ _ _ _ _ _ _ _ _ ?_
        refine ⟨⟨_, hR1.1⟩, 0, 0, by decide, by decide, rr_controlTo hG (k := 0) hR1 hj (by decide) (fun h2 hR2 f2 => ?_)⟩
        repeat refine hG _ _ _ _ _ _ _ _ _ _ _ ?_
        exact ⟨by decide, by decide, hQ h2 hR2 (f1.tr f2)⟩
    · rw [m_system, if_neg q1, if_pos q2] at hQ
      repeat refine hG _ _ _ _ _ _ _ _ _ _ _ ?_
      refine ⟨_, _, hR.1, r_at (by decide), ?_⟩
      repeat refine hG _ _ _ _ _ _ _ _ _ _ _ ?_
      refine ⟨_, _, Or.inl ⟨_, hR.2.1 17 rfl, rfl⟩, hin, ?_⟩
      rw [hcl]
      repeat refine hG _ _ _ _ _ _ _ _ _ _ _ ?_
      refine ⟨⟨_, hR.1⟩, 0, 0, by decide, by decide, rr_trap hG hR hj (fun h1 hR1 f1 => ?_)⟩
      repeat refine hG _ _ _ _ _ _ _ _ _ _ _ ?_
      exact ⟨by decide, by decide, hQ h1 hR1 f1⟩
  · rw [m_system, if_pos q1] at hQ
    repeat refine hG _ _ _ _ _ _ _ _ _ _ _ ?_
    refine ⟨⟨_, hR.1⟩, 0, 0, by decide, by decide, rr_trap hG hR hj (fun h1 hR1 f1 => ?_)⟩
    repeat refine hG _ _ _ _ _ _ _ _ _ _ _ ?_
    exact ⟨by decide, by decide, hQ h1 hR1 f1⟩
def m_put1 (σ : Nat → Nat → Int32) (j k : Nat) (t a b : Int32) : Nat → Nat → Int32 := u2 (u2 (u2 (u2 σ 37 j (σ 37 j + 1)) 39 k t) 40 k a) 41 k b
def m_puts (σ : Nat → Nat → Int32) (j k : Nat) (t a b : Int32) : Nat → Nat → Int32 :=
  u2 (u2 (u2 (m_put1 σ j k t a b) 42 k (m_put1 σ j k t a b 37 j)) 38 j (u2 (m_put1 σ j k t a b) 42 k (m_put1 σ j k t a b 37 j) 38 j + 1)) 74 0 1
theorem rr_puts {G : xG} {ro : xR} {sv : Nat → Value} (hG : x_Good G ro sv) {d m j q : Nat} {ra : Nat → Nat} {σ : Nat → Nat → Int32} {τ : Nat → Nat → Int64} {h : xH} {Q : xQ} {t a b : Int32} (hR : RepR m ra σ τ h) (hj : j < 4) (hq : σ 38 j = nI q) (hl : q < 128) (hQ : ∀ h', RepR m ra (m_puts σ j (128 * j + q) t a b) τ h' → RF m ra h h' → Q none h') : G d n_X12_puts 0 0 0 [(0, .ref m), (1, .int (nI j)), (2, .int t), (3, .int a), (4, .int b)] [] h 0 0 Q := by
  have hin : vp_in (nI j) 4 := vp_in_nI hj (by decide)
  have hcl : (nI j).toNatClampNeg = j := nI_clamp (by omega)
  obtain ⟨i1, i2⟩ := ix_row (s := 128) (j := j) (i := q) (n := 512) (by omega) (by decide)
  repeat refine hG _ _ _ _ _ _ _ _ _ _ _ ?_
  refine ⟨_, _, hR.1, r_at (by decide), ?_⟩
  repeat refine hG _ _ _ _ _ _ _ _ _ _ _ ?_
  refine ⟨_, _, Or.inl ⟨_, hR.2.1 38 rfl, rfl⟩, hin, ?_⟩
  rw [hcl, hq]
  repeat refine hG _ _ _ _ _ _ _ _ _ _ _ ?_
  refine ⟨_, _, hR.1, r_at (by decide), ?_⟩
  repeat refine hG _ _ _ _ _ _ _ _ _ _ _ ?_
  refine ⟨_, _, Or.inl ⟨_, hR.2.1 37 rfl, rfl⟩, hin, ?_⟩
  rw [hcl]
  repeat refine hG _ _ _ _ _ _ _ _ _ _ _ ?_
  refine ⟨_, _, _, hR.2.1 37 rfl, rfl, hin, ?_⟩
  rintro h1 e1
  rw [hcl] at e1
  obtain ⟨hR1, f1⟩ := r_seti (K := 37) hR rfl rfl e1
  repeat refine hG _ _ _ _ _ _ _ _ _ _ _ ?_
  refine ⟨_, _, hR1.1, r_at (by decide), ?_⟩
  repeat refine hG _ _ _ _ _ _ _ _ _ _ _ ?_
  refine ⟨_, _, _, hR1.2.1 39 rfl, rfl, i1, ?_⟩
  rintro h2 e2
  have e2 : h2 = x_up h1 (ra 39) (.inl (r_ty 39, r_len 39, .inl (upd (u2 σ 37 j (σ 37 j + 1) 39) (nI 128 * nI j + nI q).toNatClampNeg t))) := e2
  rw [i2] at e2
  obtain ⟨hR2, f2⟩ := r_seti (K := 39) hR1 rfl rfl e2
  repeat refine hG _ _ _ _ _ _ _ _ _ _ _ ?_
  refine ⟨_, _, hR2.1, r_at (by decide), ?_⟩
  repeat refine hG _ _ _ _ _ _ _ _ _ _ _ ?_
  refine ⟨_, _, _, hR2.2.1 40 rfl, rfl, i1, ?_⟩
  rintro h3 e3
  have e3 : h3 = x_up h2 (ra 40) (.inl (r_ty 40, r_len 40, .inl (upd (u2 (u2 σ 37 j (σ 37 j + 1)) 39 (128 * j + q) t 40) (nI 128 * nI j + nI q).toNatClampNeg a))) := e3
  rw [i2] at e3
  obtain ⟨hR3, f3⟩ := r_seti (K := 40) hR2 rfl rfl e3
  repeat refine hG _ _ _ _ _ _ _ _ _ _ _ ?_
  refine ⟨_, _, hR3.1, r_at (by decide), ?_⟩
  repeat refine hG _ _ _ _ _ _ _ _ _ _ _ ?_
  refine ⟨_, _, _, hR3.2.1 41 rfl, rfl, i1, ?_⟩
  rintro h4 e4
  have e4 : h4 = x_up h3 (ra 41) (.inl (r_ty 41, r_len 41, .inl (upd (u2 (u2 (u2 σ 37 j (σ 37 j + 1)) 39 (128 * j + q) t) 40 (128 * j + q) a 41) (nI 128 * nI j + nI q).toNatClampNeg b))) := e4
  rw [i2] at e4
  obtain ⟨hR4, f4⟩ := r_seti (K := 41) hR3 rfl rfl e4
  have hR4 : RepR m ra (m_put1 σ j (128 * j + q) t a b) τ h4 := hR4
  repeat refine hG _ _ _ _ _ _ _ _ _ _ _ ?_
  refine ⟨_, _, hR4.1, r_at (by decide), ?_⟩
  repeat refine hG _ _ _ _ _ _ _ _ _ _ _ ?_
  refine ⟨_, _, hR4.1, r_at (by decide), ?_⟩
  repeat refine hG _ _ _ _ _ _ _ _ _ _ _ ?_
  refine ⟨_, _, Or.inl ⟨_, hR4.2.1 37 rfl, rfl⟩, hin, ?_⟩
  rw [hcl]
  repeat refine hG _ _ _ _ _ _ _ _ _ _ _ ?_
  refine ⟨_, _, _, hR4.2.1 42 rfl, rfl, i1, ?_⟩
  rintro h5 e5
  have e5 : h5 = x_up h4 (ra 42) (.inl (r_ty 42, r_len 42, .inl (upd (m_put1 σ j (128 * j + q) t a b 42) (nI 128 * nI j + nI q).toNatClampNeg (m_put1 σ j (128 * j + q) t a b 37 j)))) := e5
  rw [i2] at e5
  obtain ⟨hR5, f5⟩ := r_seti (K := 42) hR4 rfl rfl e5
  repeat refine hG _ _ _ _ _ _ _ _ _ _ _ ?_
  refine ⟨_, _, hR5.1, r_at (by decide), ?_⟩
  repeat refine hG _ _ _ _ _ _ _ _ _ _ _ ?_
  refine ⟨_, _, Or.inl ⟨_, hR5.2.1 38 rfl, rfl⟩, hin, ?_⟩
  rw [hcl]
  repeat refine hG _ _ _ _ _ _ _ _ _ _ _ ?_
  refine ⟨_, _, _, hR5.2.1 38 rfl, rfl, hin, ?_⟩
  rintro h6 e6
  rw [hcl] at e6
  obtain ⟨hR6, f6⟩ := r_seti (K := 38) hR5 rfl rfl e6
  repeat refine hG _ _ _ _ _ _ _ _ _ _ _ ?_
  refine ⟨_, hR6.1, Nat.le_of_ble_eq_true rfl, rfl, rfl, ?_⟩
  rintro h7 e7
  obtain ⟨hR7, f7⟩ := r_sets (K := 74) hR6 rfl e7
  repeat refine hG _ _ _ _ _ _ _ _ _ _ _ ?_
  exact ⟨by decide, by decide, hQ h7 hR7 (f1.tr (f2.tr (f3.tr (f4.tr (f5.tr (f6.tr f7))))))⟩
def m_keys (σ : Nat → Nat → Int32) (j : Nat) : Nat → Nat → Nat → Int32
  | 0 => σ
  | i + 1 => u2 (m_keys σ j i) 32 (16 * j + i) (m_keys σ j i 32 (16 * j + i + 1))
theorem m_keys_ne {σ : Nat → Nat → Int32} {j : Nat} {K : Nat} (hK : K ≠ 32) : ∀ i, m_keys σ j i K = σ K
  | 0 => rfl
  | i + 1 => by rw [m_keys, u2_ne hK, m_keys_ne hK i]
def m_took (σ : Nat → Nat → Int32) (j q : Nat) : Nat → Nat → Int32 := m_keys (u2 σ 33 j (nI q)) j q
theorem rr_takeKey0 {G : xG} {ro : xR} {sv : Nat → Value} (hG : x_Good G ro sv) {d m j : Nat} {ra : Nat → Nat} {σ : Nat → Nat → Int32} {τ : Nat → Nat → Int64} {h : xH} {Q : xQ} (hR : RepR m ra σ τ h) (hj : j < 4) (hq : σ 33 j = 0) (hQ : Q (some (.int (-1))) h) : G d n_X12_takeKey 0 0 0 [(0, .ref m), (1, .int (nI j))] [] h 0 0 Q := by
  have hin : vp_in (nI j) 4 := vp_in_nI hj (by decide)
  have hcl : (nI j).toNatClampNeg = j := nI_clamp (by omega)
  repeat refine hG _ _ _ _ _ _ _ _ _ _ _ ?_
  refine ⟨_, _, hR.1, r_at (by decide), ?_⟩
  repeat refine hG _ _ _ _ _ _ _ _ _ _ _ ?_
  refine ⟨_, _, Or.inl ⟨_, hR.2.1 33 rfl, rfl⟩, hin, ?_⟩
  rw [hcl, hq]
  repeat refine hG _ _ _ _ _ _ _ _ _ _ _ ?_
  refine ⟨fun z => absurd rfl z, fun _ => ?_⟩
  repeat refine hG _ _ _ _ _ _ _ _ _ _ _ ?_
  exact ⟨rfl, by decide, by decide, hQ⟩
theorem rr_takeKey {G : xG} {ro : xR} {sv : Nat → Value} (hG : x_Good G ro sv) {d m j q : Nat} {ra : Nat → Nat} {σ : Nat → Nat → Int32} {τ : Nat → Nat → Int64} {h : xH} {Q : xQ} (hR : RepR m ra σ τ h) (hj : j < 4) (hq : σ 33 j = nI (q + 1)) (hl : q < 16) (hQ : ∀ h', RepR m ra (m_took σ j q) τ h' → RF m ra h h' → Q (some (.int (σ 32 (16 * j)))) h') : G d n_X12_takeKey 0 0 0 [(0, .ref m), (1, .int (nI j))] [] h 0 0 Q := by
  have hin : vp_in (nI j) 4 := vp_in_nI hj (by decide)
  have hcl : (nI j).toNatClampNeg = j := nI_clamp (by omega)
  have loop : ∀ (r i : Nat) (hc : xH), i + r = q → RepR m ra (m_keys (u2 σ 33 j (nI q)) j i) τ hc → RF m ra h hc → G d n_X12_takeKey 0 0 33 [(3, .int (nI i)), (2, .int (σ 32 (16 * j))), (0, .ref m), (1, .int (nI j))] [] hc 0 0 Q := by
    intro r
    induction r with
    | zero =>
      intro i hc hi hRc fc
      have hi : i = q := by omega
      subst hi
      repeat refine hG _ _ _ _ _ _ _ _ _ _ _ ?_
      refine ⟨_, _, hRc.1, r_at (by decide), ?_⟩
      repeat refine hG _ _ _ _ _ _ _ _ _ _ _ ?_
      refine ⟨_, _, Or.inl ⟨_, hRc.2.1 33 rfl, rfl⟩, hin, ?_⟩
      rw [hcl, m_keys_ne (by decide), u2_ss]
      repeat refine hG _ _ _ _ _ _ _ _ _ _ _ ?_
      refine ⟨fun _ => ?_, fun z => absurd (Int32.le_refl _) z⟩
      repeat refine hG _ _ _ _ _ _ _ _ _ _ _ ?_
      exact ⟨rfl, by decide, by decide, hQ hc hRc fc⟩
    | succ r ih =>
      intro i hc hi hRc fc
      obtain ⟨i1, i2⟩ := ix_row (s := 16) (j := j) (i := i) (n := 64) (by omega) (by decide)
      obtain ⟨i3, i4⟩ := ix_row (s := 16) (j := j) (i := i + 1) (n := 64) (by omega) (by decide)
      rw [nI_succ i, ← Int32.add_assoc] at i3 i4
      repeat refine hG _ _ _ _ _ _ _ _ _ _ _ ?_
      refine ⟨_, _, hRc.1, r_at (by decide), ?_⟩
      repeat refine hG _ _ _ _ _ _ _ _ _ _ _ ?_
      refine ⟨_, _, Or.inl ⟨_, hRc.2.1 33 rfl, rfl⟩, hin, ?_⟩
      rw [hcl, m_keys_ne (by decide), u2_ss]
      repeat refine hG _ _ _ _ _ _ _ _ _ _ _ ?_
      refine ⟨fun z => absurd z (nI_ge (by omega) (by omega)), fun _ => ?_⟩
      repeat refine hG _ _ _ _ _ _ _ _ _ _ _ ?_
      refine ⟨_, _, hRc.1, r_at (by decide), ?_⟩
      repeat refine hG _ _ _ _ _ _ _ _ _ _ _ ?_
      refine ⟨_, _, hRc.1, r_at (by decide), ?_⟩
      repeat refine hG _ _ _ _ _ _ _ _ _ _ _ ?_
      refine ⟨_, _, Or.inl ⟨_, hRc.2.1 32 rfl, rfl⟩, i3, ?_⟩
      rw [show ((16 : Int32) * nI j + nI i + 1).toNatClampNeg = 16 * j + i + 1 from i4]
      repeat refine hG _ _ _ _ _ _ _ _ _ _ _ ?_
      refine ⟨_, _, _, hRc.2.1 32 rfl, rfl, i1, ?_⟩
      rintro h1 e1
      have e1 : h1 = x_up hc (ra 32) (.inl (r_ty 32, r_len 32, .inl (upd (m_keys (u2 σ 33 j (nI q)) j i 32) (nI 16 * nI j + nI i).toNatClampNeg (m_keys (u2 σ 33 j (nI q)) j i 32 (16 * j + i + 1))))) := e1
      rw [i2] at e1
      obtain ⟨hR1, f1⟩ := r_seti (K := 32) hRc rfl rfl e1
      have k := ih (i + 1) h1 (by omega) hR1 (fc.tr f1)
      rw [nI_succ] at k
      refine hG _ _ _ _ _ _ _ _ _ _ _ ?_
      refine hG _ _ _ _ _ _ _ _ _ _ _ ?_
      exact k
  repeat refine hG _ _ _ _ _ _ _ _ _ _ _ ?_
  refine ⟨_, _, hR.1, r_at (by decide), ?_⟩
  repeat refine hG _ _ _ _ _ _ _ _ _ _ _ ?_
  refine ⟨_, _, Or.inl ⟨_, hR.2.1 33 rfl, rfl⟩, hin, ?_⟩
  rw [hcl, hq]
  repeat refine hG _ _ _ _ _ _ _ _ _ _ _ ?_
  refine ⟨fun _ => ?_, fun z => absurd z (nI_ne0 (by omega) (by omega))⟩
  obtain ⟨i1, i2⟩ := ix_row (s := 16) (j := j) (i := 0) (n := 64) (by omega) (by decide)
  rw [show nI 16 * nI j + nI 0 = nI 16 * nI j from by rw [pk_mul, nI_add]; rfl] at i1 i2
  repeat refine hG _ _ _ _ _ _ _ _ _ _ _ ?_
  refine ⟨_, _, hR.1, r_at (by decide), ?_⟩
  repeat refine hG _ _ _ _ _ _ _ _ _ _ _ ?_
  refine ⟨_, _, Or.inl ⟨_, hR.2.1 32 rfl, rfl⟩, i1, ?_⟩
  rw [show ((16 : Int32) * nI j).toNatClampNeg = 16 * j from i2]
  repeat refine hG _ _ _ _ _ _ _ _ _ _ _ ?_
  refine ⟨_, _, hR.1, r_at (by decide), ?_⟩
  repeat refine hG _ _ _ _ _ _ _ _ _ _ _ ?_
  refine ⟨_, _, Or.inl ⟨_, hR.2.1 33 rfl, rfl⟩, hin, ?_⟩
  rw [hcl, hq]
  repeat refine hG _ _ _ _ _ _ _ _ _ _ _ ?_
  refine ⟨_, _, _, hR.2.1 33 rfl, rfl, hin, ?_⟩
  rintro h1 e1
  rw [hcl, nI_pred] at e1
  obtain ⟨hR1, f1⟩ := r_seti (K := 33) hR rfl rfl e1
  refine hG _ _ _ _ _ _ _ _ _ _ _ ?_
  refine hG _ _ _ _ _ _ _ _ _ _ _ ?_
  exact loop q 0 h1 (by omega) hR1 f1
