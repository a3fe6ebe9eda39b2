theorem cp_app {σ : (Nat → Nat → Int32)} {A a B b N F x : Nat} : k_cp σ A a B b N F x = if F = B ∧ b ≤ x ∧ x < b + N then σ A (a + (x - b)) else σ F x := rfl
theorem call_ne {u : (Nat → Nat → Int32)} {l r F : Nat} (h : (F < 16 ∨ 37 < F) ∧ (F < 100 ∨ 104 < F)) : k_call u l r F = u F := by
  unfold k_call k_ca2 k_ca1 k_cd k_cd0 k_cpP k_cw k_cw1
  rw [u2_ne (by omega), u2_ne (by omega), u2_ne (by omega), k_cp_ne (by omega), k_cp_ne (by omega), u2_ne (by omega), u2_ne (by omega), u2_ne (by omega), u2_ne (by omega), u2_ne (by omega), u2_ne (by omega), u2_ne (by omega), k_cp_ne (by omega), u2_ne (by omega), u2_ne (by omega), u2_ne (by omega), u2_ne (by omega), u2_ne (by omega), u2_ne (by omega), u2_ne (by omega), k_cp_ne (by omega), k_cp_ne (by omega), k_cp_ne (by omega)]
theorem call_17 {u : (Nat → Nat → Int32)} {l r h : Nat} (hlr : l ≠ r) : k_call u l r 17 h = if h = r then u 17 l else u 17 h := by
  unfold k_call k_ca2 k_ca1 k_cd k_cd0 k_cpP k_cw k_cw1
  by_cases q : h = r
  · subst q
    rw [if_pos rfl]
    simp (disch := first | decide | omega) only [u2_ne, u2_ss, u2_sn, k_cp_ne]
  · rw [if_neg q]
    simp (disch := first | decide | omega) only [u2_ne, u2_ss, u2_sn, k_cp_ne]
theorem call_20 {u : (Nat → Nat → Int32)} {l r h : Nat} (hlr : l ≠ r) : k_call u l r 20 h = if h = r then u 20 l else u 20 h := by
  unfold k_call k_ca2 k_ca1 k_cd k_cd0 k_cpP k_cw k_cw1
  by_cases q : h = r
  · subst q
    rw [if_pos rfl]
    simp (disch := first | decide | omega) only [u2_ne, u2_ss, u2_sn, k_cp_ne]
  · rw [if_neg q]
    simp (disch := first | decide | omega) only [u2_ne, u2_ss, u2_sn, k_cp_ne]
theorem call_21 {u : (Nat → Nat → Int32)} {l r h : Nat} (hlr : l ≠ r) : k_call u l r 21 h = if h = r then u 21 l else u 21 h := by
  unfold k_call k_ca2 k_ca1 k_cd k_cd0 k_cpP k_cw k_cw1
  by_cases q : h = r
  · subst q
    rw [if_pos rfl]
    simp (disch := first | decide | omega) only [u2_ne, u2_ss, u2_sn, k_cp_ne]
  · rw [if_neg q]
    simp (disch := first | decide | omega) only [u2_ne, u2_ss, u2_sn, k_cp_ne]
theorem call_22 {u : (Nat → Nat → Int32)} {l r h : Nat} (hlr : l ≠ r) : k_call u l r 22 h = if h = r then u 22 l else u 22 h := by
  unfold k_call k_ca2 k_ca1 k_cd k_cd0 k_cpP k_cw k_cw1
  by_cases q : h = r
  · subst q
    rw [if_pos rfl]
    simp (disch := first | decide | omega) only [u2_ne, u2_ss, u2_sn, k_cp_ne]
  · rw [if_neg q]
    simp (disch := first | decide | omega) only [u2_ne, u2_ss, u2_sn, k_cp_ne]
theorem call_23 {u : (Nat → Nat → Int32)} {l r h : Nat} (hlr : l ≠ r) : k_call u l r 23 h = if h = r then u 23 l else u 23 h := by
  unfold k_call k_ca2 k_ca1 k_cd k_cd0 k_cpP k_cw k_cw1
  by_cases q : h = r
  · subst q
    rw [if_pos rfl]
    simp (disch := first | decide | omega) only [u2_ne, u2_ss, u2_sn, k_cp_ne]
  · rw [if_neg q]
    simp (disch := first | decide | omega) only [u2_ne, u2_ss, u2_sn, k_cp_ne]
theorem call_24 {u : (Nat → Nat → Int32)} {l r h : Nat} (hlr : l ≠ r) : k_call u l r 24 h = if h = r then u 24 l else u 24 h := by
  unfold k_call k_ca2 k_ca1 k_cd k_cd0 k_cpP k_cw k_cw1
  by_cases q : h = r
  · subst q
    rw [if_pos rfl]
    simp (disch := first | decide | omega) only [u2_ne, u2_ss, u2_sn, k_cp_ne]
  · rw [if_neg q]
    simp (disch := first | decide | omega) only [u2_ne, u2_ss, u2_sn, k_cp_ne]
theorem call_25 {u : (Nat → Nat → Int32)} {l r h : Nat} (hlr : l ≠ r) : k_call u l r 25 h = if h = r then u 25 l else u 25 h := by
  unfold k_call k_ca2 k_ca1 k_cd k_cd0 k_cpP k_cw k_cw1
  by_cases q : h = r
  · subst q
    rw [if_pos rfl]
    simp (disch := first | decide | omega) only [u2_ne, u2_ss, u2_sn, k_cp_ne]
  · rw [if_neg q]
    simp (disch := first | decide | omega) only [u2_ne, u2_ss, u2_sn, k_cp_ne]
theorem call_26 {u : (Nat → Nat → Int32)} {l r h : Nat} (hlr : l ≠ r) : k_call u l r 26 h = if h = r then u 26 l else u 26 h := by
  unfold k_call k_ca2 k_ca1 k_cd k_cd0 k_cpP k_cw k_cw1
  by_cases q : h = r
  · subst q
    rw [if_pos rfl]
    simp (disch := first | decide | omega) only [u2_ne, u2_ss, u2_sn, k_cp_ne]
  · rw [if_neg q]
    simp (disch := first | decide | omega) only [u2_ne, u2_ss, u2_sn, k_cp_ne]
theorem call_27 {u : (Nat → Nat → Int32)} {l r h : Nat} (hlr : l ≠ r) : k_call u l r 27 h = if h = r then u 27 l else u 27 h := by
  unfold k_call k_ca2 k_ca1 k_cd k_cd0 k_cpP k_cw k_cw1
  by_cases q : h = r
  · subst q
    rw [if_pos rfl]
    simp (disch := first | decide | omega) only [u2_ne, u2_ss, u2_sn, k_cp_ne]
  · rw [if_neg q]
    simp (disch := first | decide | omega) only [u2_ne, u2_ss, u2_sn, k_cp_ne]
theorem call_28 {u : (Nat → Nat → Int32)} {l r h : Nat} (hlr : l ≠ r) : k_call u l r 28 h = if h = r then u 28 l else u 28 h := by
  unfold k_call k_ca2 k_ca1 k_cd k_cd0 k_cpP k_cw k_cw1
  by_cases q : h = r
  · subst q
    rw [if_pos rfl]
    simp (disch := first | decide | omega) only [u2_ne, u2_ss, u2_sn, k_cp_ne]
  · rw [if_neg q]
    simp (disch := first | decide | omega) only [u2_ne, u2_ss, u2_sn, k_cp_ne]
theorem call_29 {u : (Nat → Nat → Int32)} {l r h : Nat} (hlr : l ≠ r) : k_call u l r 29 h = if h = r then u 29 l else u 29 h := by
  unfold k_call k_ca2 k_ca1 k_cd k_cd0 k_cpP k_cw k_cw1
  by_cases q : h = r
  · subst q
    rw [if_pos rfl]
    simp (disch := first | decide | omega) only [u2_ne, u2_ss, u2_sn, k_cp_ne]
  · rw [if_neg q]
    simp (disch := first | decide | omega) only [u2_ne, u2_ss, u2_sn, k_cp_ne]
theorem call_30 {u : (Nat → Nat → Int32)} {l r h : Nat} (hlr : l ≠ r) : k_call u l r 30 h = if h = r then u 30 l else u 30 h := by
  unfold k_call k_ca2 k_ca1 k_cd k_cd0 k_cpP k_cw k_cw1
  by_cases q : h = r
  · subst q
    rw [if_pos rfl]
    simp (disch := first | decide | omega) only [u2_ne, u2_ss, u2_sn, k_cp_ne]
  · rw [if_neg q]
    simp (disch := first | decide | omega) only [u2_ne, u2_ss, u2_sn, k_cp_ne]
theorem call_33 {u : (Nat → Nat → Int32)} {l r h : Nat} (hlr : l ≠ r) : k_call u l r 33 h = if h = r then u 33 l else u 33 h := by
  unfold k_call k_ca2 k_ca1 k_cd k_cd0 k_cpP k_cw k_cw1
  by_cases q : h = r
  · subst q
    rw [if_pos rfl]
    simp (disch := first | decide | omega) only [u2_ne, u2_ss, u2_sn, k_cp_ne]
  · rw [if_neg q]
    simp (disch := first | decide | omega) only [u2_ne, u2_ss, u2_sn, k_cp_ne]
theorem call_35 {u : (Nat → Nat → Int32)} {l r h : Nat} (hlr : l ≠ r) : k_call u l r 35 h = if h = r then u 35 l else u 35 h := by
  unfold k_call k_ca2 k_ca1 k_cd k_cd0 k_cpP k_cw k_cw1
  by_cases q : h = r
  · subst q
    rw [if_pos rfl]
    simp (disch := first | decide | omega) only [u2_ne, u2_ss, u2_sn, k_cp_ne]
  · rw [if_neg q]
    simp (disch := first | decide | omega) only [u2_ne, u2_ss, u2_sn, k_cp_ne]
theorem call_37 {u : (Nat → Nat → Int32)} {l r h : Nat} (hlr : l ≠ r) : k_call u l r 37 h = if h = r then u 37 l else u 37 h := by
  unfold k_call k_ca2 k_ca1 k_cd k_cd0 k_cpP k_cw k_cw1
  by_cases q : h = r
  · subst q
    rw [if_pos rfl]
    simp (disch := first | decide | omega) only [u2_ne, u2_ss, u2_sn, k_cp_ne]
  · rw [if_neg q]
    simp (disch := first | decide | omega) only [u2_ne, u2_ss, u2_sn, k_cp_ne]
theorem call_101 {u : (Nat → Nat → Int32)} {l r h : Nat} (hlr : l ≠ r) : k_call u l r 101 h = if h = r then u 101 l else u 101 h := by
  unfold k_call k_ca2 k_ca1 k_cd k_cd0 k_cpP k_cw k_cw1
  by_cases q : h = r
  · subst q
    rw [if_pos rfl]
    simp (disch := first | decide | omega) only [u2_ne, u2_ss, u2_sn, k_cp_ne]
  · rw [if_neg q]
    simp (disch := first | decide | omega) only [u2_ne, u2_ss, u2_sn, k_cp_ne]
theorem call_104 {u : (Nat → Nat → Int32)} {l r h : Nat} (hlr : l ≠ r) : k_call u l r 104 h = if h = r then u 104 l else u 104 h := by
  unfold k_call k_ca2 k_ca1 k_cd k_cd0 k_cpP k_cw k_cw1
  by_cases q : h = r
  · subst q
    rw [if_pos rfl]
    simp (disch := first | decide | omega) only [u2_ne, u2_ss, u2_sn, k_cp_ne]
  · rw [if_neg q]
    simp (disch := first | decide | omega) only [u2_ne, u2_ss, u2_sn, k_cp_ne]
theorem call_16 {u : (Nat → Nat → Int32)} {l r x : Nat} (hlr : l ≠ r) : k_call u l r 16 x = if 32 * r ≤ x ∧ x < 32 * r + 32 then u 16 (32 * l + (x - 32 * r)) else u 16 x := by
  unfold k_call k_ca2 k_ca1 k_cd k_cd0 k_cpP k_cw k_cw1
  simp (disch := first | decide | omega) only [u2_ne, u2_ss, u2_sn, k_cp_ne]
  rw [cp_app]
  simp (disch := first | decide | omega) only [u2_ne, u2_ss, u2_sn, k_cp_ne, Nat.add_zero, true_and]
theorem call_18 {u : (Nat → Nat → Int32)} {l r x : Nat} (hlr : l ≠ r) : k_call u l r 18 x = if 7 * r ≤ x ∧ x < 7 * r + 7 then u 18 (7 * l + (x - 7 * r)) else u 18 x := by
  unfold k_call k_ca2 k_ca1 k_cd k_cd0 k_cpP k_cw k_cw1
  simp (disch := first | decide | omega) only [u2_ne, u2_ss, u2_sn, k_cp_ne]
  rw [cp_app]
  simp (disch := first | decide | omega) only [u2_ne, u2_ss, u2_sn, k_cp_ne, Nat.add_zero, true_and]
theorem call_31 {u : (Nat → Nat → Int32)} {l r x : Nat} (hlr : l ≠ r) : k_call u l r 31 x = if 64 * r ≤ x ∧ x < 64 * r + 64 then u 31 (64 * l + (x - 64 * r)) else u 31 x := by
  unfold k_call k_ca2 k_ca1 k_cd k_cd0 k_cpP k_cw k_cw1
  simp (disch := first | decide | omega) only [u2_ne, u2_ss, u2_sn, k_cp_ne]
  rw [cp_app]
  simp (disch := first | decide | omega) only [u2_ne, u2_ss, u2_sn, k_cp_ne, Nat.add_zero, true_and]
theorem call_100 {u : (Nat → Nat → Int32)} {l r x : Nat} (hlr : l ≠ r) : k_call u l r 100 x = if 16 * r ≤ x ∧ x < 16 * r + 16 then u 100 (16 * l + (x - 16 * r)) else u 100 x := by
  unfold k_call k_ca2 k_ca1 k_cd k_cd0 k_cpP k_cw k_cw1
  simp (disch := first | decide | omega) only [u2_ne, u2_ss, u2_sn, k_cp_ne]
  rw [cp_app]
  simp (disch := first | decide | omega) only [u2_ne, u2_ss, u2_sn, k_cp_ne, Nat.add_zero, true_and]
theorem call_102 {u : (Nat → Nat → Int32)} {l r x : Nat} (hlr : l ≠ r) : k_call u l r 102 x = if 4 * r ≤ x ∧ x < 4 * r + 4 then u 102 (4 * l + (x - 4 * r)) else u 102 x := by
  unfold k_call k_ca2 k_ca1 k_cd k_cd0 k_cpP k_cw k_cw1
  simp (disch := first | decide | omega) only [u2_ne, u2_ss, u2_sn, k_cp_ne]
  rw [cp_app]
  simp (disch := first | decide | omega) only [u2_ne, u2_ss, u2_sn, k_cp_ne, Nat.add_zero, true_and]
theorem call_103 {u : (Nat → Nat → Int32)} {l r x : Nat} (hlr : l ≠ r) : k_call u l r 103 x = if 128 * r ≤ x ∧ x < 128 * r + 128 then u 103 (128 * l + (x - 128 * r)) else u 103 x := by
  unfold k_call k_ca2 k_ca1 k_cd k_cd0 k_cpP k_cw k_cw1
  simp (disch := first | decide | omega) only [u2_ne, u2_ss, u2_sn, k_cp_ne]
  rw [cp_app]
  simp (disch := first | decide | omega) only [u2_ne, u2_ss, u2_sn, k_cp_ne, Nat.add_zero, true_and]
