def u2 (σ : Nat → Nat → Int32) (k i : Nat) (v : Int32) : Nat → Nat → Int32 := va_up σ k (upd (σ k) i v)
theorem u2_ne {σ : Nat → Nat → Int32} {k j i : Nat} {v : Int32} (h : j ≠ k) : u2 σ k i v j = σ j := va_up_ne _ _ h
theorem u2_s {σ : Nat → Nat → Int32} {k i : Nat} {v : Int32} : u2 σ k i v k = upd (σ k) i v := va_up_self _ _ _
theorem u2_ss {σ : Nat → Nat → Int32} {k i : Nat} {v : Int32} : u2 σ k i v k i = v := by rw [u2_s]; exact pk_us
theorem u2_sn {σ : Nat → Nat → Int32} {k i j : Nat} {v : Int32} (h : j ≠ i) : u2 σ k i v k j = σ k j := by rw [u2_s]; exact pk_un h
def RF (m : Nat) (ra : Nat → Nat) (h h' : xH) : Prop := ∀ b, b ≠ m → (∀ k, r_isA k = true → b ≠ ra k) → h' b = h b
theorem RF.rf {m : Nat} {ra : Nat → Nat} {h : xH} : RF m ra h h := fun _ _ _ => rfl
theorem RF.tr {m : Nat} {ra : Nat → Nat} {h h1 h2 : xH} (a : RF m ra h h1) (b : RF m ra h1 h2) : RF m ra h h2 := fun q q1 q2 => (b q q1 q2).trans (a q q1 q2)
theorem r_seti {m K i : Nat} {ra : Nat → Nat} {σ : Nat → Nat → Int32} {τ : Nat → Nat → Int64} {h h' : xH} {v : Int32} (hR : RepR m ra σ τ h) (hK : r_isA K = true) (ht : Nat.beq (r_ty K) 3 = false) (e : h' = x_up h (ra K) (.inl (r_ty K, r_len K, .inl (upd (σ K) i v)))) : RepR m ra (u2 σ K i v) τ h' ∧ RF m ra h h' := by
  obtain ⟨a1, a2, a3, a4⟩ := hR
  have hF : r_F (u2 σ K i v) ra = r_F σ ra := by
    funext j
    cases hj : r_isA j with
    | true => simp only [r_F, hj, cond_true]
    | false =>
      have hne : j ≠ K := fun q => by subst q; rw [hK] at hj; cases hj
      simp only [r_F, hj, cond_false, u2_ne hne]
  refine ⟨⟨?_, fun k hk => ?_, a3, a4⟩, fun b hb1 hb2 => by rw [e, x_up_ne (hb2 K hK)]⟩
  · rw [hF, e, x_up_ne (Ne.symm (a3 K hK))]; exact a1
  · by_cases hkK : k = K
    · subst hkK
      rw [e, x_up_self]
      simp only [r_cell, ht, cond_false, u2_s]
    · rw [e, x_up_ne (fun q => hkK (a4 k K hk hK q)), a2 k hk]
      simp only [r_cell, u2_ne hkK]
theorem r_setl {m K i : Nat} {ra : Nat → Nat} {σ : Nat → Nat → Int32} {τ : Nat → Nat → Int64} {h h' : xH} {v : Int64} (hR : RepR m ra σ τ h) (hK : r_isA K = true) (ht : Nat.beq (r_ty K) 3 = true) (e : h' = x_up h (ra K) (.inl (r_ty K, r_len K, .inr (.inl (vp_updL (τ K) i v))))) : RepR m ra σ (va_up τ K (vp_updL (τ K) i v)) h' ∧ RF m ra h h' := by
  obtain ⟨a1, a2, a3, a4⟩ := hR
  refine ⟨⟨?_, fun k hk => ?_, a3, a4⟩, fun b hb1 hb2 => by rw [e, x_up_ne (hb2 K hK)]⟩
  · rw [e, x_up_ne (Ne.symm (a3 K hK))]; exact a1
  · by_cases hkK : k = K
    · subst hkK
      rw [e, x_up_self]
      simp only [r_cell, ht, cond_true, va_up_self]
    · rw [e, x_up_ne (fun q => hkK (a4 k K hk hK q)), a2 k hk]
      simp only [r_cell, va_up_ne _ _ hkK]
theorem r_sets {m K : Nat} {ra : Nat → Nat} {σ : Nat → Nat → Int32} {τ : Nat → Nat → Int64} {h h' : xH} {v : Int32} (hR : RepR m ra σ τ h) (hK : r_isA K = false) (e : h' = x_up h m (.inr (12, (r_ob (r_F σ ra)).set K (.int v)))) : RepR m ra (u2 σ K 0 v) τ h' ∧ RF m ra h h' := by
  obtain ⟨a1, a2, a3, a4⟩ := hR
  have hF : va_up (r_F σ ra) K (.int v) = r_F (u2 σ K 0 v) ra := by
    funext j
    by_cases hj : j = K
    · subst hj
      rw [va_up_self]
      simp only [r_F, hK, cond_false, u2_ss]
    · rw [va_up_ne _ _ hj]
      simp only [r_F, u2_ne hj]
  refine ⟨⟨by rw [e, x_up_self, r_ob_set, hF], fun k hk => ?_, a3, a4⟩, fun b hb1 hb2 => by rw [e, x_up_ne hb1]⟩
  have hne : k ≠ K := fun q => by subst q; rw [hk] at hK; cases hK
  rw [e, x_up_ne (a3 k hk), a2 k hk]
  simp only [r_cell, u2_ne hne]
theorem ix_row {s j i n : Nat} (h : s * j + i < n) (hn : n < 2 ^ 31) : vp_in (nI s * nI j + nI i) n ∧ (nI s * nI j + nI i).toNatClampNeg = s * j + i := by
  rw [pk_mul, nI_add]
  exact ⟨vp_in_nI h hn, nI_clamp (by omega)⟩
theorem rr_control {G : xG} {ro : xR} {sv : Nat → Value} (hG : x_Good G ro sv) {d m j k : Nat} {ra : Nat → Nat} {σ : Nat → Nat → Int32} {τ : Nat → Nat → Int64} {h : xH} {Q : xQ} (hR : RepR m ra σ τ h) (hj : j < 4) (hk : k < 7) (hQ : Q (some (.int (σ 18 (7 * j + k)))) h) : G d n_X12_control 0 0 0 [(0, .ref m), (1, .int (nI j)), (2, .int (nI k))] [] h 0 0 Q := by
  obtain ⟨i1, i2⟩ := ix_row (s := 7) (j := j) (i := k) (n := 28) (by omega) (by decide)
  repeat refine hG _ _ _ _ _ _ _ _ _ _ _ ?_
  refine ⟨_, _, hR.1, r_at (by decide), ?_⟩
  repeat refine hG _ _ _ _ _ _ _ _ _ _ _ ?_
  refine ⟨_, _, Or.inl ⟨_, hR.2.1 18 rfl, rfl⟩, i1, ?_⟩
  repeat refine hG _ _ _ _ _ _ _ _ _ _ _ ?_
  refine ⟨rfl, by decide, by decide, ?_⟩
  show Q (some (.int (σ 18 (nI 7 * nI j + nI k).toNatClampNeg))) h
  rw [i2]
  exact hQ
def m_mask (k : Nat) (v : Int32) : Int32 := if k = 0 then v &&& 136 else if k = 1 then v &&& 2176 else if k = 2 ∨ k = 4 then v &&& -4 else v
theorem rr_controlTo {G : xG} {ro : xR} {sv : Nat → Value} (hG : x_Good G ro sv) {d m j k : Nat} {ra : Nat → Nat} {σ : Nat → Nat → Int32} {τ : Nat → Nat → Int64} {h : xH} {Q : xQ} {v : Int32} (hR : RepR m ra σ τ h) (hj : j < 4) (hk : k < 7) (hQ : ∀ h', RepR m ra (u2 σ 18 (7 * j + k) (m_mask k v)) τ h' → RF m ra h h' → Q none h') : G d n_X12_controlTo 0 0 0 [(0, .ref m), (1, .int (nI j)), (2, .int (nI k)), (3, .int v)] [] h 0 0 Q := by
  obtain ⟨i1, i2⟩ := ix_row (s := 7) (j := j) (i := k) (n := 28) (by omega) (by decide)
  have key : ∀ w, w = m_mask k v → G d n_X12_controlTo 0 0 53 [(0, .ref m), (1, .int (nI j)), (2, .int (nI k)), (3, .int v)] [.int w, .int (nI 7 * nI j + nI k), .ref (ra 18)] h 0 0 Q := by
    intro w hw
    repeat refine hG _ _ _ _ _ _ _ _ _ _ _ ?_
    refine ⟨_, _, _, hR.2.1 18 rfl, rfl, i1, ?_⟩
    rintro h1 e1
    rw [i2] at e1
    obtain ⟨q1, q2⟩ := r_seti (K := 18) hR rfl rfl e1
    repeat refine hG _ _ _ _ _ _ _ _ _ _ _ ?_
    subst hw
    exact ⟨by decide, by decide, hQ h1 q1 q2⟩
  repeat refine hG _ _ _ _ _ _ _ _ _ _ _ ?_
  refine ⟨_, _, hR.1, r_at (by decide), ?_⟩
  repeat refine hG _ _ _ _ _ _ _ _ _ _ _ ?_
  refine ⟨fun h0 => ?_, fun h0 => ?_⟩
  · have h0 : k ≠ 0 := fun q => h0 (by rw [q]; rfl)
    repeat refine hG _ _ _ _ _ _ _ _ _ _ _ ?_
    refine ⟨fun h1 => ?_, fun h1 => ?_⟩
    · have h1 : k ≠ 1 := fun q => h1 (by rw [q]; rfl)
      repeat refine hG _ _ _ _ _ _ _ _ _ _ _ ?_
      refine ⟨fun h2 => ?_, fun h2 => ?_⟩
      · have h2 : k = 2 := (nI_eq (by omega) (by decide)).mp h2
        refine hG _ _ _ _ _ _ _ _ _ _ _ ?_
        refine hG _ _ _ _ _ _ _ _ _ _ _ ?_
        refine hG _ _ _ _ _ _ _ _ _ _ _ ?_
        refine hG _ _ _ _ _ _ _ _ _ _ _ ?_
        exact key _ (by rw [m_mask, if_neg h0, if_neg h1, if_pos (Or.inl h2)])
      · have h2 : k ≠ 2 := fun q => h2 (by rw [q]; rfl)
        repeat refine hG _ _ _ _ _ _ _ _ _ _ _ ?_
        refine ⟨fun h4 => ?_, fun h4 => ?_⟩
        · have h4 : k ≠ 4 := fun q => h4 (by rw [q]; rfl)
          refine hG _ _ _ _ _ _ _ _ _ _ _ ?_
          exact key _ (by rw [m_mask, if_neg h0, if_neg h1, if_neg (fun q => q.elim h2 h4)])
        · have h4 : k = 4 := (nI_eq (by omega) (by decide)).mp h4
          refine hG _ _ _ _ _ _ _ _ _ _ _ ?_
          refine hG _ _ _ _ _ _ _ _ _ _ _ ?_
          refine hG _ _ _ _ _ _ _ _ _ _ _ ?_
          refine hG _ _ _ _ _ _ _ _ _ _ _ ?_
          exact key _ (by rw [m_mask, if_neg h0, if_neg h1, if_pos (Or.inr h4)])
    · have h1 : k = 1 := (nI_eq (by omega) (by decide)).mp h1
      refine hG _ _ _ _ _ _ _ _ _ _ _ ?_
      refine hG _ _ _ _ _ _ _ _ _ _ _ ?_
      refine hG _ _ _ _ _ _ _ _ _ _ _ ?_
      refine hG _ _ _ _ _ _ _ _ _ _ _ ?_
      exact key _ (by rw [m_mask, if_neg h0, if_pos h1])
  · have h0 : k = 0 := (nI_eq (by omega) (by decide)).mp h0
    refine hG _ _ _ _ _ _ _ _ _ _ _ ?_
    refine hG _ _ _ _ _ _ _ _ _ _ _ ?_
    refine hG _ _ _ _ _ _ _ _ _ _ _ ?_
    refine hG _ _ _ _ _ _ _ _ _ _ _ ?_
    exact key _ (by rw [m_mask, if_pos h0])
theorem rr_get {G : xG} {ro : xR} {sv : Nat → Value} (hG : x_Good G ro sv) {d m j k : Nat} {ra : Nat → Nat} {σ : Nat → Nat → Int32} {τ : Nat → Nat → Int64} {h : xH} {Q : xQ} (hR : RepR m ra σ τ h) (hj : j < 4) (hk : k < 32) (hQ : Q (some (.int (σ 16 (32 * j + k)))) h) : G d n_X12_get 0 0 0 [(0, .ref m), (1, .int (nI j)), (2, .int (nI k))] [] h 0 0 Q := by
  obtain ⟨i1, i2⟩ := ix_row (s := 32) (j := j) (i := k) (n := 128) (by omega) (by decide)
  repeat refine hG _ _ _ _ _ _ _ _ _ _ _ ?_
  refine ⟨_, _, hR.1, r_at (by decide), ?_⟩
  repeat refine hG _ _ _ _ _ _ _ _ _ _ _ ?_
  refine ⟨_, _, Or.inl ⟨_, hR.2.1 16 rfl, rfl⟩, i1, ?_⟩
  repeat refine hG _ _ _ _ _ _ _ _ _ _ _ ?_
  refine ⟨rfl, by decide, by decide, ?_⟩
  show Q (some (.int (σ 16 (nI 32 * nI j + nI k).toNatClampNeg))) h
  rw [i2]
  exact hQ
def m_set (σ : Nat → Nat → Int32) (j k : Nat) (v : Int32) : Nat → Nat → Int32 := if k = 0 then σ else u2 σ 16 (32 * j + k) v
theorem rr_set {G : xG} {ro : xR} {sv : Nat → Value} (hG : x_Good G ro sv) {d m j k : Nat} {ra : Nat → Nat} {σ : Nat → Nat → Int32} {τ : Nat → Nat → Int64} {h : xH} {Q : xQ} {v : Int32} (hR : RepR m ra σ τ h) (hj : j < 4) (hk : k < 32) (hQ : ∀ h', RepR m ra (m_set σ j k v) τ h' → RF m ra h h' → Q none h') : G d n_X12_set 0 0 0 [(0, .ref m), (1, .int (nI j)), (2, .int (nI k)), (3, .int v)] [] h 0 0 Q := by
  obtain ⟨i1, i2⟩ := ix_row (s := 32) (j := j) (i := k) (n := 128) (by omega) (by decide)
  repeat refine hG _ _ _ _ _ _ _ _ _ _ _ ?_
  refine ⟨fun hc => ?_, fun hc => ?_⟩
  · have h0 : k = 0 := by
      rcases Nat.eq_zero_or_pos k with q | q
      · exact q
      · exact absurd hc (nI_nle q (by omega))
    rw [m_set, if_pos h0] at hQ
    repeat refine hG _ _ _ _ _ _ _ _ _ _ _ ?_
    exact ⟨by decide, by decide, hQ h hR RF.rf⟩
  · have h0 : k ≠ 0 := fun q => hc (by rw [q]; decide)
    rw [m_set, if_neg h0] at hQ
    repeat refine hG _ _ _ _ _ _ _ _ _ _ _ ?_
    refine ⟨_, _, hR.1, r_at (by decide), ?_⟩
    repeat refine hG _ _ _ _ _ _ _ _ _ _ _ ?_
    refine ⟨_, _, _, hR.2.1 16 rfl, rfl, i1, ?_⟩
    rintro h1 e1
    have e1 : h1 = x_up h (ra 16) (.inl (r_ty 16, r_len 16, .inl (upd (σ 16) (nI 32 * nI j + nI k).toNatClampNeg v))) := e1
    rw [i2] at e1
    obtain ⟨q1, q2⟩ := r_seti (K := 16) hR rfl rfl e1
    repeat refine hG _ _ _ _ _ _ _ _ _ _ _ ?_
    exact ⟨by decide, by decide, hQ h1 q1 q2⟩
def m_trap (σ : Nat → Nat → Int32) (j : Nat) (c v : Int32) : Nat → Nat → Int32 :=
  let σ1 := u2 σ 18 (7 * j + 4) (m_mask 4 (σ 17 j))
  let σ2 := u2 σ1 18 (7 * j + 5) (m_mask 5 c)
  let σ3 := u2 σ2 18 (7 * j + 6) (m_mask 6 v)
  let σ4 := u2 σ3 18 (7 * j + 0) (m_mask 0 ((σ3 18 (7 * j + 0) &&& 8) <<< ((4 : Int32) &&& 31)))
  u2 σ4 17 j (σ4 18 (7 * j + 2))
theorem rr_trap {G : xG} {ro : xR} {sv : Nat → Value} (hG : x_Good G ro sv) {d m j : Nat} {ra : Nat → Nat} {σ : Nat → Nat → Int32} {τ : Nat → Nat → Int64} {h : xH} {Q : xQ} {c v : Int32} (hR : RepR m ra σ τ h) (hj : j < 4) (hQ : ∀ h', RepR m ra (m_trap σ j c v) τ h' → RF m ra h h' → Q none h') : G (d + 1) n_X12_trap 0 0 0 [(0, .ref m), (1, .int (nI j)), (2, .int c), (3, .int v)] [] h 0 0 Q := by
  have hin : vp_in (nI j) 4 := vp_in_nI hj (by decide)
  have hcl : (nI j).toNatClampNeg = j := nI_clamp (by omega)
  repeat refine hG _ _ _ _ _ _ _ _ _ _ _ ?_
  refine ⟨_, _, hR.1, r_at (by decide), ?_⟩
  repeat refine hG _ _ _ _ _ _ _ _ _ _ _ ?_
  refine ⟨_, _, Or.inl ⟨_, hR.2.1 17 rfl, rfl⟩, hin, ?_⟩
  rw [hcl]
  repeat refine hG _ _ _ _ _ _ _ _ _ _ _ ?_
  refine ⟨⟨_, hR.1⟩, 0, 0, by decide, by decide, rr_controlTo hG (k := 4) hR hj (by decide) (fun h1 hR1 f1 => ?_)⟩
  repeat refine hG _ _ _ _ _ _ _ _ _ _ _ ?_
  refine ⟨⟨_, hR1.1⟩, 0, 0, by decide, by decide, rr_controlTo hG (k := 5) hR1 hj (by decide) (fun h2 hR2 f2 => ?_)⟩
  repeat refine hG _ _ _ _ _ _ _ _ _ _ _ ?_
  refine ⟨⟨_, hR2.1⟩, 0, 0, by decide, by decide, rr_controlTo hG (k := 6) hR2 hj (by decide) (fun h3 hR3 f3 => ?_)⟩
  repeat refine hG _ _ _ _ _ _ _ _ _ _ _ ?_
  refine ⟨⟨_, hR3.1⟩, 0, 0, by decide, by decide, rr_control hG (k := 0) hR3 hj (by decide) ?_⟩
  repeat refine hG _ _ _ _ _ _ _ _ _ _ _ ?_
  refine ⟨⟨_, hR3.1⟩, 0, 0, by decide, by decide, rr_controlTo hG (k := 0) hR3 hj (by decide) (fun h4 hR4 f4 => ?_)⟩
  repeat refine hG _ _ _ _ _ _ _ _ _ _ _ ?_
  refine ⟨_, _, hR4.1, r_at (by decide), ?_⟩
  repeat refine hG _ _ _ _ _ _ _ _ _ _ _ ?_
  refine ⟨⟨_, hR4.1⟩, 0, 0, by decide, by decide, rr_control hG (k := 2) hR4 hj (by decide) ?_⟩
  repeat refine hG _ _ _ _ _ _ _ _ _ _ _ ?_
  refine ⟨_, _, _, hR4.2.1 17 rfl, rfl, hin, ?_⟩
  rintro h5 e5
  rw [hcl] at e5
  obtain ⟨q1, q2⟩ := r_seti (K := 17) hR4 rfl rfl e5
  repeat refine hG _ _ _ _ _ _ _ _ _ _ _ ?_
  exact ⟨by decide, by decide, hQ h5 q1 (f1.tr (f2.tr (f3.tr (f4.tr q2))))⟩
def m_goesOn (σ : Nat → Nat → Int32) (j k : Nat) (v : Int32) : Nat → Nat → Int32 := u2 (m_set σ j k v) 17 j (m_set σ j k v 17 j + 4)
theorem rr_goesOn {G : xG} {ro : xR} {sv : Nat → Value} (hG : x_Good G ro sv) {d m j k : Nat} {ra : Nat → Nat} {σ : Nat → Nat → Int32} {τ : Nat → Nat → Int64} {h : xH} {Q : xQ} {v : Int32} (hR : RepR m ra σ τ h) (hj : j < 4) (hk : k < 32) (hQ : ∀ h', RepR m ra (m_goesOn σ j k v) τ h' → RF m ra h h' → Q none h') : G (d + 1) n_X12_goesOn 0 0 0 [(0, .ref m), (1, .int (nI j)), (2, .int (nI k)), (3, .int v)] [] h 0 0 Q := by
  have hin : vp_in (nI j) 4 := vp_in_nI hj (by decide)
  have hcl : (nI j).toNatClampNeg = j := nI_clamp (by omega)
  repeat refine hG _ _ _ _ _ _ _ _ _ _ _ ?_
  refine ⟨⟨_, hR.1⟩, 0, 0, by decide, by decide, rr_set hG hR hj hk (fun h1 hR1 f1 => ?_)⟩
  repeat refine hG _ _ _ _ _ _ _ _ _ _ _ ?_
  refine ⟨_, _, hR1.1, r_at (by decide), ?_⟩
  repeat refine hG _ _ _ _ _ _ _ _ _ _ _ ?_
  refine ⟨_, _, Or.inl ⟨_, hR1.2.1 17 rfl, rfl⟩, hin, ?_⟩
  rw [hcl]
  repeat refine hG _ _ _ _ _ _ _ _ _ _ _ ?_
  refine ⟨_, _, _, hR1.2.1 17 rfl, rfl, hin, ?_⟩
  rintro h2 e2
  rw [hcl] at e2
  obtain ⟨q1, q2⟩ := r_seti (K := 17) hR1 rfl rfl e2
  repeat refine hG _ _ _ _ _ _ _ _ _ _ _ ?_
  exact ⟨by decide, by decide, hQ h2 q1 (f1.tr q2)⟩
def m_jumps (σ : Nat → Nat → Int32) (j k : Nat) (t : Int32) : Nat → Nat → Int32 := if t &&& 3 = 0 then u2 (m_set σ j k (σ 17 j + 4)) 17 j t else m_trap σ j 0 t
theorem rr_jumps {G : xG} {ro : xR} {sv : Nat → Value} (hG : x_Good G ro sv) {d m j k : Nat} {ra : Nat → Nat} {σ : Nat → Nat → Int32} {τ : Nat → Nat → Int64} {h : xH} {Q : xQ} {v : Int32} (hR : RepR m ra σ τ h) (hj : j < 4) (hk : k < 32) (hQ : ∀ h', RepR m ra (m_jumps σ j k v) τ h' → RF m ra h h' → Q none h') : G (d + 2) n_X12_jumps 0 0 0 [(0, .ref m), (1, .int (nI j)), (2, .int (nI k)), (3, .int v)] [] h 0 0 Q := by
  have hin : vp_in (nI j) 4 := vp_in_nI hj (by decide)
  have hcl : (nI j).toNatClampNeg = j := nI_clamp (by omega)
  repeat refine hG _ _ _ _ _ _ _ _ _ _ _ ?_
  refine ⟨fun hc => ?_, fun hc => ?_⟩
  · rw [m_jumps, if_pos hc] at hQ
    repeat refine hG _ _ _ _ _ _ _ _ _ _ _ ?_
    refine ⟨_, _, hR.1, r_at (by decide), ?_⟩
    repeat refine hG _ _ _ _ _ _ _ _ _ _ _ ?_
    refine ⟨_, _, Or.inl ⟨_, hR.2.1 17 rfl, rfl⟩, hin, ?_⟩
    rw [hcl]
    repeat refine hG _ _ _ _ _ _ _ _ _ _ _ ?_
    refine ⟨⟨_, hR.1⟩, 0, 0, by decide, by decide, rr_set hG hR hj hk (fun h1 hR1 f1 => ?_)⟩
    repeat refine hG _ _ _ _ _ _ _ _ _ _ _ ?_
    refine ⟨_, _, hR1.1, r_at (by decide), ?_⟩
    repeat refine hG _ _ _ _ _ _ _ _ _ _ _ ?_
    refine ⟨_, _, _, hR1.2.1 17 rfl, rfl, hin, ?_⟩
    rintro h2 e2
    rw [hcl] at e2
    obtain ⟨q1, q2⟩ := r_seti (K := 17) hR1 rfl rfl e2
    repeat refine hG _ _ _ _ _ _ _ _ _ _ _ ?_
    exact ⟨by decide, by decide, hQ h2 q1 (f1.tr q2)⟩
  · rw [m_jumps, if_neg hc] at hQ
    repeat refine hG _ _ _ _ _ _ _ _ _ _ _ ?_
    refine ⟨⟨_, hR.1⟩, 0, 0, by decide, by decide, rr_trap hG hR hj (fun h1 hR1 f1 => ?_)⟩
    repeat refine hG _ _ _ _ _ _ _ _ _ _ _ ?_
    exact ⟨by decide, by decide, hQ h1 hR1 f1⟩
theorem rr_read {G : xG} {ro : xR} {sv : Nat → Value} (hG : x_Good G ro sv) {d m j a : Nat} {ra : Nat → Nat} {σ : Nat → Nat → Int32} {τ : Nat → Nat → Int64} {h : xH} {Q : xQ} (hR : RepR m ra σ τ h) (hj : j < 4) (ha : a < 4096) (hQ : Q (some (.int (σ 15 (4096 * j + a) &&& 255))) h) : G d n_X12_read 0 0 0 [(0, .ref m), (1, .int (nI j)), (2, .int (nI a))] [] h 0 0 Q := by
  obtain ⟨i1, i2⟩ := ix_row (s := 4096) (j := j) (i := a) (n := 16384) (by omega) (by decide)
  repeat refine hG _ _ _ _ _ _ _ _ _ _ _ ?_
  refine ⟨_, _, hR.1, r_at (by decide), ?_⟩
  repeat refine hG _ _ _ _ _ _ _ _ _ _ _ ?_
  refine ⟨_, _, _, hR.2.1 15 rfl, Or.inl rfl, i1, ?_⟩
  repeat refine hG _ _ _ _ _ _ _ _ _ _ _ ?_
  refine ⟨rfl, by decide, by decide, ?_⟩
  show Q (some (.int (σ 15 (nI 4096 * nI j + nI a).toNatClampNeg &&& 255))) h
  rw [i2]
  exact hQ
def m_word (σ : Nat → Nat → Int32) (j a : Nat) : Int32 := (σ 15 (4096 * j + a) &&& 255) ||| ((σ 15 (4096 * j + (a + 1)) &&& 255) <<< ((8 : Int32) &&& 31)) ||| ((σ 15 (4096 * j + (a + 2)) &&& 255) <<< ((16 : Int32) &&& 31)) ||| ((σ 15 (4096 * j + (a + 3)) &&& 255) <<< ((24 : Int32) &&& 31))
theorem rr_word {G : xG} {ro : xR} {sv : Nat → Value} (hG : x_Good G ro sv) {d m j a : Nat} {ra : Nat → Nat} {σ : Nat → Nat → Int32} {τ : Nat → Nat → Int64} {h : xH} {Q : xQ} (hR : RepR m ra σ τ h) (hj : j < 4) (ha : a + 4 ≤ 4096) (hQ : Q (some (.int (m_word σ j a))) h) : G (d + 1) n_X12_word 0 0 0 [(0, .ref m), (1, .int (nI j)), (2, .int (nI a))] [] h 0 0 Q := by
  repeat refine hG _ _ _ _ _ _ _ _ _ _ _ ?_
  refine ⟨⟨_, hR.1⟩, 0, 0, by decide, by decide, rr_read hG hR hj (by omega) ?_⟩
  repeat refine hG _ _ _ _ _ _ _ _ _ _ _ ?_
  rw [show nI a + 1 = nI (a + 1) from nI_1 a]
  refine ⟨⟨_, hR.1⟩, 0, 0, by decide, by decide, rr_read hG hR hj (by omega) ?_⟩
  repeat refine hG _ _ _ _ _ _ _ _ _ _ _ ?_
  rw [show nI a + 2 = nI (a + 2) from nI_add a 2]
  refine ⟨⟨_, hR.1⟩, 0, 0, by decide, by decide, rr_read hG hR hj (by omega) ?_⟩
  repeat refine hG _ _ _ _ _ _ _ _ _ _ _ ?_
  rw [show nI a + 3 = nI (a + 3) from nI_add a 3]
  refine ⟨⟨_, hR.1⟩, 0, 0, by decide, by decide, rr_read hG hR hj (by omega) ?_⟩
  repeat refine hG _ _ _ _ _ _ _ _ _ _ _ ?_
  exact ⟨rfl, by decide, by decide, hQ⟩
theorem rr_isIn {G : xG} {ro : xR} {sv : Nat → Value} (hG : x_Good G ro sv) {d m : Nat} {ra : Nat → Nat} {σ : Nat → Nat → Int32} {τ : Nat → Nat → Int64} {h : xH} {Q : xQ} {a n : Int32} (hR : RepR m ra σ τ h) (hQ : Q (some (.int (if 0 ≤ a ∧ a ≤ σ 4 0 - n then 1 else 0))) h) : G d n_X12_isIn 0 0 0 [(0, .ref m), (1, .int a), (2, .int n)] [] h 0 0 Q := by
  repeat refine hG _ _ _ _ _ _ _ _ _ _ _ ?_
  refine ⟨fun hc => ?_, fun hc => ?_⟩
  · rw [if_neg (fun q => Int32.not_lt.mpr q.1 hc)] at hQ
    repeat refine hG _ _ _ _ _ _ _ _ _ _ _ ?_
    exact ⟨rfl, by decide, by decide, hQ⟩
  · repeat refine hG _ _ _ _ _ _ _ _ _ _ _ ?_
    refine ⟨_, _, hR.1, r_at (by decide), ?_⟩
    repeat refine hG _ _ _ _ _ _ _ _ _ _ _ ?_
    refine ⟨fun hc2 => ?_, fun hc2 => ?_⟩
    · rw [if_neg (fun q => Int32.not_lt.mpr q.2 hc2)] at hQ
      repeat refine hG _ _ _ _ _ _ _ _ _ _ _ ?_
      exact ⟨rfl, by decide, by decide, hQ⟩
    · rw [if_pos ⟨Int32.not_lt.mp hc, Int32.not_lt.mp hc2⟩] at hQ
      repeat refine hG _ _ _ _ _ _ _ _ _ _ _ ?_
      exact ⟨rfl, by decide, by decide, hQ⟩
theorem rr_isBelow {G : xG} {ro : xR} {sv : Nat → Value} (hG : x_Good G ro sv) {d : Nat} {h : xH} {Q : xQ} {a b : Int32} (hQ : Q (some (.int (if a + -2147483648 < b + -2147483648 then 1 else 0))) h) : G d n_X12_isBelow 0 0 0 [(0, .int a), (1, .int b)] [] h 0 0 Q := by
  repeat refine hG _ _ _ _ _ _ _ _ _ _ _ ?_
  refine ⟨fun hc => ?_, fun hc => ?_⟩
  · rw [if_neg (Int32.not_lt.mpr hc)] at hQ
    repeat refine hG _ _ _ _ _ _ _ _ _ _ _ ?_
    exact ⟨rfl, by decide, by decide, hQ⟩
  · rw [if_pos (Int32.not_le.mp hc)] at hQ
    repeat refine hG _ _ _ _ _ _ _ _ _ _ _ ?_
    exact ⟨rfl, by decide, by decide, hQ⟩
def m_write (σ : Nat → Nat → Int32) (j a : Nat) (v : Int32) : Nat → Nat → Int32 := if nI j = σ 61 0 then u2 (u2 σ 15 (4096 * j + a) v.toInt8.toInt32) 63 (a / 256) 1 else u2 σ 15 (4096 * j + a) v.toInt8.toInt32
theorem rr_write {G : xG} {ro : xR} {sv : Nat → Value} (hG : x_Good G ro sv) {d m j a : Nat} {ra : Nat → Nat} {σ : Nat → Nat → Int32} {τ : Nat → Nat → Int64} {h : xH} {Q : xQ} {v : Int32} (hR : RepR m ra σ τ h) (hj : j < 4) (ha : a < 4096) (hQ : ∀ h', RepR m ra (m_write σ j a v) τ h' → RF m ra h h' → Q none h') : G d n_X12_write 0 0 0 [(0, .ref m), (1, .int (nI j)), (2, .int (nI a)), (3, .int v)] [] h 0 0 Q := by
  obtain ⟨i1, i2⟩ := ix_row (s := 4096) (j := j) (i := a) (n := 16384) (by omega) (by decide)
  repeat refine hG _ _ _ _ _ _ _ _ _ _ _ ?_
  refine ⟨_, _, hR.1, r_at (by decide), ?_⟩
  repeat refine hG _ _ _ _ _ _ _ _ _ _ _ ?_
  refine ⟨_, _, _, .byte, hR.2.1 15 rfl, rfl, Or.inl rfl, i1, ?_⟩
  rintro h1 e1
  have e1 : h1 = x_up h (ra 15) (.inl (r_ty 15, r_len 15, .inl (upd (σ 15) (nI 4096 * nI j + nI a).toNatClampNeg (vp_nar .byte v.toInt8.toInt32)))) := e1
  rw [i2, pk_vb] at e1
  obtain ⟨hR1, f1⟩ := r_seti (K := 15) hR rfl rfl e1
  repeat refine hG _ _ _ _ _ _ _ _ _ _ _ ?_
  refine ⟨_, _, hR1.1, r_at (by decide), ?_⟩
  repeat refine hG _ _ _ _ _ _ _ _ _ _ _ ?_
  refine ⟨fun hc => ?_, fun hc => ?_⟩
  · have hc : ¬ nI j = σ 61 0 := hc
    rw [m_write, if_neg hc] at hQ
    repeat refine hG _ _ _ _ _ _ _ _ _ _ _ ?_
    exact ⟨by decide, by decide, hQ h1 hR1 f1⟩
  · have hc : nI j = σ 61 0 := hc
    rw [m_write, if_pos hc] at hQ
    have hd : nI a / 256 = nI (a / 256) := pk_div (d := 256) (by omega) (by decide) (by decide)
    repeat refine hG _ _ _ _ _ _ _ _ _ _ _ ?_
    refine ⟨_, _, hR1.1, r_at (by decide), ?_⟩
    repeat refine hG _ _ _ _ _ _ _ _ _ _ _ ?_
    refine ⟨by decide, ?_⟩
    repeat refine hG _ _ _ _ _ _ _ _ _ _ _ ?_
    refine ⟨_, _, _, .boolean, hR1.2.1 63 rfl, rfl, Or.inr rfl, (show vp_in (nI a / 256) 16 from by rw [hd]; exact vp_in_nI (by omega) (by decide)), ?_⟩
    rintro h2 e2
    have e2 : h2 = x_up h1 (ra 63) (.inl (r_ty 63, r_len 63, .inl (upd (u2 σ 15 (4096 * j + a) v.toInt8.toInt32 63) (nI a / 256).toNatClampNeg 1))) := e2
    rw [hd, nI_clamp (show a / 256 < 2 ^ 31 by omega)] at e2
    obtain ⟨hR2, f2⟩ := r_seti (K := 63) hR1 rfl rfl e2
    repeat refine hG _ _ _ _ _ _ _ _ _ _ _ ?_
    exact ⟨by decide, by decide, hQ h2 hR2 (f1.tr f2)⟩
