def zI (pg rm : Nat) : CZ := (uI pg rm, tI, rI, fun _ => (0, 0, none, 0, 0))
theorem uI_by {pg rm : Nat} : BY (uI pg rm) := by
  intro F x hF
  rcases bya_r hF with e | e | e | e | e | e | e | e <;> subst e <;> rfl
theorem KH_I {pg rm j : Nat} (hj : j < 4) (hp4 : 4 ≤ pg) (hp : pg ≤ 16) : KH pg j (uI pg rm) := by
  refine ⟨fun f i => if f = 61 then -1 else if f = 4 then nI (256 * pg) else 0, ⟨?_, ?_, ?_, ?_, ?_, uI_by, fun f i => Or.inl rfl⟩, ?_, rfl, rfl⟩
  · intro f i hf hi h15
    rcases wf_l hf with e | e | e | e | e | e | e | e | e | e | e | e | e | e | e | e | e | e <;> subst e <;> rfl
  · exact ⟨nb_0, fun i hi => absurd hi (by show ¬ i < 0; omega)⟩
  · exact ⟨nb_0, fun i hi => absurd hi (by show ¬ i < 0; omega)⟩
  · have k : (0 : Int32) &&& -4 = 0 := by decide
    exact ⟨k, k, k⟩
  · exact fun q => absurd q (nI_m1 hj)
  · refine ⟨rfl, by omega, by omega, nb_0, nb_0, fun i hi => nb_0, nb_0, nb_0, fun f i hf => ?_⟩
    rcases hf with e | e | e <;> subst e <;> rfl
theorem SC_I {n pg rm : Nat} (hn : n ≤ 4) (hp4 : 4 ≤ pg) (hp : pg ≤ 16) : SC n pg rm 0 (uI pg rm) := by
  refine ⟨⟨uI_by, nb_0, nb_0, nb_0, fun j hj => ⟨nb_0, nb_0, fun i hi => nb_0⟩⟩, fun j hj => KH_I (by omega) hp4 hp, fun j hj => Or.inl rfl, rfl, nb_0, nb_0, nb_0, nb_0, fun j hj => ⟨by show -((0 : Nat) : Int) ≤ (0 : Int32).toInt; decide, by show (0 : Int32).toInt ≤ 32; decide⟩⟩
theorem QQ_I {ca : Nat → Nat → Nat} {n pg rm : Nat} {h : xH} : QQ ca n rm h (fun _ => (0, 0, none, 0, 0)) rI (uI pg rm) := ⟨fun j hj => ⟨nb_0, nb_0, QC.z⟩, QC.z, QC.z⟩
theorem OKZ_I {ca : Nat → Nat → Nat} {n pg rm : Nat} {h : xH} (hp4 : 4 ≤ pg) (R : RepC ca n pg rm (uI pg rm) tI rI h) : OKZ ca n pg rm 0 (zI pg rm) h := ⟨R, SC_I R.2.2.1 hp4 R.2.2.2.1, QQ_I⟩
theorem r_part_4 : ∀ b, b < 4 → r_part b = -1 := by decide
theorem CV_I {n pg rm : Nat} (hn2 : 2 ≤ n) (hn : n ≤ 4) (hp4 : 4 ≤ pg) (hp : pg ≤ 16) (hr1 : 1 ≤ rm) (hr : rm ≤ 32) : CV n pg rm 0 (r_s0 (nI n) (nI pg) (nI rm)) (fun _ _ => 0) := by
  have e4 : r_s0 (nI n) (nI pg) (nI rm) 4 0 = nI (256 * pg) := by
    show 256 * nI pg = _
    rw [show (256 : Int32) = nI 256 from rfl, pk_mul]
  refine ⟨fun _ => 0, ⟨⟨rfl, rfl, rfl, rfl, e4, hn2, hn, hp4, hp, hr1, hr⟩, nb_0, nb_0, nb_0, rfl, fun b hb => Or.inl (r_part_4 b hb), fun _ => ⟨rfl, fun h hh => ⟨Or.inl rfl, rfl, rfl⟩⟩⟩, fun h hh => ⟨⟨?_, rfl, Nat.le_of_eq rfl, nb_0, Nat.zero_le _, nb_0, nb_0, fun i hi => absurd hi (by show ¬ i < 0; omega)⟩, fun q => absurd rfl q, fun q _ => absurd (show (0 : Int32) = 1 from q) (by decide), fun q => ?_, nb_0, ⟨nb_0, nb_0, Nat.le_refl _, fun i h1 h2 => absurd h2 (by show ¬ i < 0; omega)⟩, fun _ => rfl⟩, ⟨nb_0, nb_0, fun o h1 h2 => absurd h2 (by show ¬ o < 0; omega)⟩, Or.inl ⟨rfl, rfl⟩⟩
  · refine ⟨e4, by omega, by omega, nb_0, nb_0, fun i hi => nb_0, nb_0, nb_0, fun f i hf => ?_⟩
    rcases hf with e | e | e <;> subst e <;> rfl
  · rcases q with q | q
    · exact absurd (show (0 : Int32) = 2 from q) (by decide)
    · exact absurd (show (0 : Int32) = 3 from q) (by decide)
theorem R0_I {n pg rm : Nat} {y : RZ} (e : y.1 = r_s0 (nI n) (nI pg) (nI rm)) : R0 n (zI pg rm) y := by
  unfold R0
  rw [e]
  exact ⟨rfl, fun t ht => ⟨fun q => absurd (show (0 : Int32) = 6 from q) (by decide), fun q => absurd (show (0 : Int32) = 6 from q) (by decide)⟩⟩
def LI (ca : Nat → Nat → Nat) (m : Nat) (ra : Nat → Nat) (n pg rm : Nat) (R : CZ → RZ → Prop) (c : Nat) (h : xH) : Prop := ∃ z y, OKZ ca n pg rm c z h ∧ OKR m ra n pg rm c y h ∧ R z y
theorem ix_in {I L d : Nat} (h : I + d < L) (hL : L < 2 ^ 31) : vp_in (nI I + nI d) L := by rw [nIv_add]; exact vp_in_nI h hL
theorem ix_0 {I L : Nat} (h : I < L) (hL : L < 2 ^ 31) : vp_in (nI I) L := vp_in_nI h hL
theorem lt10 {I L : Nat} (hI : I < 10000) (hL : L < 10000) : (Int32.ofNat L - 10 < nI I) ↔ L < I + 10 := by
  rw [Int32.lt_iff_toInt_lt, Int32.toInt_sub]
  have e1 : (Int32.ofNat L).toInt = L := Int32.toInt_ofNat_of_lt (by omega)
  have e2 : (nI I).toInt = I := Int32.toInt_ofNat_of_lt (by omega)
  have e3 : (10 : Int32).toInt = 10 := rfl
  rw [e1, e2, e3]
  have : ((L : Int) - 10).bmod (2 ^ 32) = (L : Int) - 10 := Int.bmod_eq_of_le (by omega) (by omega)
  rw [this]
  omega
