theorem c_obc {n : Nat} {F F' : Nat → Value} (h : ∀ p, p < n → F p = F' p) : c_ob n F = c_ob n F' := by
  unfold c_ob
  apply List.map_congr_left
  intro p hp
  exact h p (List.mem_range.mp hp)
theorem c_pos {n k j : Nat} (h : j < c_cnt n k) : Nat.ble 1 (c_cnt 1 k) = true := by
  cases hq : Nat.ble 1 (c_cnt 1 k) with
  | true => rfl
  | false => rw [c_cnt1 k (c_k36 h) hq n] at h; omega
theorem c_seti {ca : Nat → Nat → Nat} {n pg rm k p j : Nat} {σ : (Nat → Nat → Int32)} {τ : (Nat → Nat → Int64)} {ρ : Nat → Nat → Option Nat} {h h' : xH} {v : Int32} (hC : RepC ca n pg rm σ τ ρ h) (hj : j < c_cnt n k) (h0 : c_isO k = true) (hp : p < c_nf k) (h1 : Nat.beq (c_fk k p) 1 = false) (h2 : Nat.beq (c_fk k p) 2 = false) (e : h' = x_up h (ca k j) (.inr (c_cls k, (c_ob (c_nf k) (c_val ca σ τ k j)).set p (.int v)))) : RepC ca n pg rm (u2 σ (c_F k p) j v) τ ρ h' ∧ CF ca n h h' := by
  obtain ⟨a1, a2, a3⟩ := hC
  refine ⟨⟨fun k' j' hj' => ?_, a2, a3⟩, fun b hb => by rw [e, x_up_ne (hb k j hj)]⟩
  have hk := c_k36 hj
  have hk' := c_k36 hj'
  have ow := c_owF hk hp h0 h1 h2
  by_cases hkj : k' = k ∧ j' = j
  · obtain ⟨rfl, rfl⟩ := hkj
    rw [e, x_up_self, c_ob_set]
    simp only [c_cell, h0, cond_true]
    congr 3
    apply c_obc
    intro p' hp'
    by_cases hpp : p' = p
    · subst hpp
      rw [va_up_self]
      simp only [c_val, h1, h2, cond_false, u2_ss]
    · rw [va_up_ne _ _ hpp]
      unfold c_val
      cases g1 : Nat.beq (c_fk k' p') 1 with
      | true => rfl
      | false =>
        cases g2 : Nat.beq (c_fk k' p') 2 with
        | true => rfl
        | false =>
          have ow' := c_owF hk hp' h0 g1 g2
          rw [u2_ne (fun q => hpp (by rw [← ow'.2, q]; exact ow.2))]
  · have hne : ca k' j' ≠ ca k j := fun q => hkj (a2 k' j' k j hj' hj q)
    rw [e, x_up_ne hne, a1 k' j' hj']
    unfold c_cell
    cases g0 : c_isO k' with
    | true =>
      simp only [cond_true]
      congr 3
      apply c_obc
      intro p' hp'
      unfold c_val
      cases g1 : Nat.beq (c_fk k' p') 1 with
      | true => rfl
      | false =>
        cases g2 : Nat.beq (c_fk k' p') 2 with
        | true => rfl
        | false =>
          have ow' := c_owF hk' hp' g0 g1 g2
          by_cases hF : c_F k' p' = c_F k p
          · have hkk : k' = k := by rw [← ow'.1, hF]; exact ow.1
            rw [hF, u2_sn (fun q => hkj ⟨hkk, q⟩)]
          · rw [u2_ne hF]
    | false =>
      cases g1 : c_isR k' with
      | true => rfl
      | false =>
        have hA : c_A k' ≠ c_F k p := Ne.symm (c_owX hk' g0 g1 (c_pos hj') hk hp h0 h1 h2)
        simp only [cond_false, u2_ne hA]
theorem c_lst {n pg rm k : Nat} (hk : k < 36) (h0 : c_isO k = false) (h1 : c_isR k = false) (hpg : pg ≤ 16) : c_len n pg rm k ≤ c_st k := by
  rcases (by omega : k = 0 ∨ k = 1 ∨ k = 2 ∨ k = 3 ∨ k = 4 ∨ k = 5 ∨ k = 6 ∨ k = 7 ∨ k = 8 ∨ k = 9 ∨ k = 10 ∨ k = 11 ∨ k = 12 ∨ k = 13 ∨ k = 14 ∨ k = 15 ∨ k = 16 ∨ k = 17 ∨ k = 18 ∨ k = 19 ∨ k = 20 ∨ k = 21 ∨ k = 22 ∨ k = 23 ∨ k = 24 ∨ k = 25 ∨ k = 26 ∨ k = 27 ∨ k = 28 ∨ k = 29 ∨ k = 30 ∨ k = 31 ∨ k = 32 ∨ k = 33 ∨ k = 34 ∨ k = 35) with e | e | e | e | e | e | e | e | e | e | e | e | e | e | e | e | e | e | e | e | e | e | e | e | e | e | e | e | e | e | e | e | e | e | e | e <;> subst e <;> first | exact absurd h0 (by decide) | exact absurd h1 (by decide) | (show (256 * pg : Nat) ≤ 4096; omega) | (show pg ≤ 16; exact hpg) | exact Nat.le_of_ble_eq_true rfl
theorem trI_upd {m N : Nat} {g : Nat → Int32} {v : Int32} (hN : N < m) : upd (trI m g) N v = trI m (upd g N v) := by
  funext i
  by_cases hi : i = N
  · subst hi
    rw [pk_us, trI, if_pos hN, pk_us]
  · rw [pk_un hi]
    unfold trI
    rw [pk_un hi]
theorem c_setA {ca : Nat → Nat → Nat} {n pg rm k j N : Nat} {σ : (Nat → Nat → Int32)} {τ : (Nat → Nat → Int64)} {ρ : Nat → Nat → Option Nat} {h h' : xH} {v : Int32} (hC : RepC ca n pg rm σ τ ρ h) (hj : j < c_cnt n k) (h0 : c_isO k = false) (h1 : c_isR k = false) (hN : N < c_len n pg rm k) (e : h' = x_up h (ca k j) (.inl (c_ty k, c_len n pg rm k, .inl (upd (trI (c_len n pg rm k) (fun i => σ (c_A k) (c_st k * j + i))) N v)))) : RepC ca n pg rm (u2 σ (c_A k) (c_st k * j + N) v) τ ρ h' ∧ CF ca n h h' := by
  obtain ⟨a1, a2, a3⟩ := hC
  refine ⟨⟨fun k' j' hj' => ?_, a2, a3⟩, fun b hb => by rw [e, x_up_ne (hb k j hj)]⟩
  have hk := c_k36 hj
  have hk' := c_k36 hj'
  have hls := c_lst (n := n) (rm := rm) hk h0 h1 a3.2.1
  by_cases hkj : k' = k ∧ j' = j
  · obtain ⟨rfl, rfl⟩ := hkj
    have key : trI (c_len n pg rm k') (upd (fun i => σ (c_A k') (c_st k' * j' + i)) N v) = trI (c_len n pg rm k') (fun i => u2 σ (c_A k') (c_st k' * j' + N) v (c_A k') (c_st k' * j' + i)) := by
      apply congrArg
      funext i
      by_cases hi : i = N
      · subst hi
        rw [pk_us, u2_ss]
      · rw [pk_un hi, u2_sn (by omega)]
    rw [e, x_up_self, trI_upd hN, key]
    simp only [c_cell, h0, h1, cond_false]
  · have hne : ca k' j' ≠ ca k j := fun q => hkj (a2 k' j' k j hj' hj q)
    rw [e, x_up_ne hne, a1 k' j' hj']
    unfold c_cell
    cases g0 : c_isO k' with
    | true =>
      simp only [cond_true]
      congr 3
      apply c_obc
      intro p' hp'
      unfold c_val
      cases g1 : Nat.beq (c_fk k' p') 1 with
      | true => rfl
      | false =>
        cases g2 : Nat.beq (c_fk k' p') 2 with
        | true => rfl
        | false => rw [u2_ne (c_owX hk h0 h1 (c_pos hj) hk' hp' g0 g1 g2)]
    | false =>
      cases g1 : c_isR k' with
      | true => rfl
      | false =>
        by_cases hA : c_A k' = c_A k
        · have hkk : k' = k := by rw [← c_owA hk' g0 g1 (c_pos hj'), hA]; exact c_owA hk h0 h1 (c_pos hj)
          have hjj : j' ≠ j := fun q => hkj ⟨hkk, q⟩
          have key : trI (c_len n pg rm k') (fun i => σ (c_A k') (c_st k' * j' + i)) = trI (c_len n pg rm k') (fun i => u2 σ (c_A k) (c_st k * j + N) v (c_A k') (c_st k' * j' + i)) := by
            rw [hkk]
            funext i
            unfold trI
            by_cases hi : i < c_len n pg rm k
            · rw [if_pos hi, if_pos hi]
              show σ (c_A k) (c_st k * j' + i) = u2 σ (c_A k) (c_st k * j + N) v (c_A k) (c_st k * j' + i)
              rw [u2_sn (m_row_ne hjj (by omega) (by omega))]
            · rw [if_neg hi, if_neg hi]
          simp only [cond_false, key]
        · simp only [cond_false, u2_ne hA]
theorem c_setL {ca : Nat → Nat → Nat} {n pg rm j : Nat} {σ : (Nat → Nat → Int32)} {τ : (Nat → Nat → Int64)} {ρ : Nat → Nat → Option Nat} {h h' : xH} {v : Int64} (hC : RepC ca n pg rm σ τ ρ h) (hj : j < c_cnt n 3) (e : h' = x_up h (ca 3 j) (.inr (3, (c_ob (c_nf 3) (c_val ca σ τ 3 j)).set 5 (.long v)))) : RepC ca n pg rm σ (t2 τ 19 j v) ρ h' ∧ CF ca n h h' := by
  obtain ⟨a1, a2, a3⟩ := hC
  refine ⟨⟨fun k' j' hj' => ?_, a2, a3⟩, fun b hb => by rw [e, x_up_ne (hb 3 j hj)]⟩
  have hk' := c_k36 hj'
  by_cases hkj : k' = 3 ∧ j' = j
  · obtain ⟨rfl, rfl⟩ := hkj
    rw [e, x_up_self, c_ob_set]
    show some (Sum.inr (3, _)) = some (Sum.inr (3, _))
    congr 3
    apply c_obc
    intro p' hp'
    by_cases hpp : p' = 5
    · subst hpp
      rw [va_up_self]
      show Value.long v = Value.long (t2 τ 19 j' v 19 j')
      rw [t2_s, pk_uLs]
    · rw [va_up_ne _ _ hpp]
      unfold c_val
      cases g1 : Nat.beq (c_fk 3 p') 1 with
      | true => rfl
      | false =>
        cases g2 : Nat.beq (c_fk 3 p') 2 with
        | true => exact absurd (c_lt hk' hp' g2).2 hpp
        | false => rfl
  · have hne : ca k' j' ≠ ca 3 j := fun q => hkj (a2 k' j' 3 j hj' hj q)
    rw [e, x_up_ne hne, a1 k' j' hj']
    unfold c_cell
    cases g0 : c_isO k' with
    | true =>
      simp only [cond_true]
      congr 3
      apply c_obc
      intro p' hp'
      unfold c_val
      cases g1 : Nat.beq (c_fk k' p') 1 with
      | true => rfl
      | false =>
        cases g2 : Nat.beq (c_fk k' p') 2 with
        | true =>
          obtain ⟨rfl, rfl⟩ := c_lt hk' hp' g2
          have hjj : j' ≠ j := fun q => hkj ⟨rfl, q⟩
          show Value.long (τ 19 j') = Value.long (t2 τ 19 j v 19 j')
          rw [t2_s, pk_uLn hjj]
        | false => rfl
    | false => rfl
def c_ri (k j : Nat) : Nat := if k = 19 then j else if k = 31 then 4 else 5
def r2 (ρ : Nat → Nat → Option Nat) (k i : Nat) (o : Option Nat) : Nat → Nat → Option Nat := va_up ρ k (va_up (ρ k) i o)
theorem r2_ne {ρ : Nat → Nat → Option Nat} {k i j : Nat} {o : Option Nat} (h : j ≠ k) : r2 ρ k i o j = ρ j := va_up_ne _ _ h
theorem r2_ss {ρ : Nat → Nat → Option Nat} {k i : Nat} {o : Option Nat} : r2 ρ k i o k i = o := by rw [r2, va_up_self, va_up_self]
theorem r2_sn {ρ : Nat → Nat → Option Nat} {k i j : Nat} {o : Option Nat} (h : j ≠ i) : r2 ρ k i o k j = ρ k j := by rw [r2, va_up_self, va_up_ne _ _ h]
theorem trO_upd {m N : Nat} {g : Nat → Option Nat} {v : Option Nat} (hN : N < m) : va_up (trO m g) N v = trO m (va_up g N v) := by
  funext i
  by_cases hi : i = N
  · subst hi
    rw [va_up_self, trO, if_pos hN, va_up_self]
  · rw [va_up_ne _ _ hi]
    unfold trO
    rw [va_up_ne _ _ hi]
theorem c_new {ca : Nat → Nat → Nat} {n pg rm a : Nat} {σ : (Nat → Nat → Int32)} {τ : (Nat → Nat → Int64)} {ρ : Nat → Nat → Option Nat} {h h' : xH} {c : xE} (hC : RepC ca n pg rm σ τ ρ h) (ha : h a = none) (e : h' = x_up h a c) : RepC ca n pg rm σ τ ρ h' ∧ (∀ k j, j < c_cnt n k → a ≠ ca k j) := by
  have hne : ∀ k j, j < c_cnt n k → a ≠ ca k j := fun k j hj q => by
    have := hC.1 k j hj
    rw [← q, ha] at this
    cases this
  exact ⟨⟨fun k j hj => by rw [e, x_up_ne (Ne.symm (hne k j hj))]; exact hC.1 k j hj, hC.2⟩, hne⟩
theorem c_obj {ca : Nat → Nat → Nat} {n pg rm k j C : Nat} {σ : (Nat → Nat → Int32)} {τ : (Nat → Nat → Int64)} {ρ : Nat → Nat → Option Nat} {h : xH} (hC : RepC ca n pg rm σ τ ρ h) (hj : j < c_cnt n k) (h0 : c_isO k = true) (hc : c_cls k = C) : ∃ fs, h (ca k j) = some (.inr (C, fs)) := by
  have := hC.1 k j hj
  simp only [c_cell, h0, cond_true, hc] at this
  exact ⟨_, this⟩
theorem cg_r {G : xG} {d M mc ms nx cs sl k j n pg rm : Nat} {ca : Nat → Nat → Nat} {σ : (Nat → Nat → Int32)} {τ : (Nat → Nat → Int64)} {ρ : Nat → Nat → Option Nat} {h : xH} {lv : xL} {r : List Value} {Q : xQ} (hC : RepC ca n pg rm σ τ ρ h) (hj : j < c_cnt n k) {p C : Nat} (h0 : c_isO k = true) (hc : c_cls k = C) (hp : Nat.ble (p + 1) (c_nf k) = true) (h1 : Nat.beq (c_fk k p) 1 = true) (q : G d M mc ms nx lv (.ref (ca (c_rk k p) j) :: r) h cs sl Q) : ∃ (fs : List Value) (v : Value), h (ca k j) = some (.inr (C, fs)) ∧ fs[p]? = some v ∧ G d M mc ms nx lv (v :: r) h cs sl Q := by
  have := hC.1 k j hj
  simp only [c_cell, h0, cond_true, hc] at this
  refine ⟨_, _, this, c_at (Nat.le_of_ble_eq_true hp), ?_⟩
  rw [c_val, h1]
  exact q
theorem cg_i {G : xG} {d M mc ms nx cs sl k j n pg rm : Nat} {ca : Nat → Nat → Nat} {σ : (Nat → Nat → Int32)} {τ : (Nat → Nat → Int64)} {ρ : Nat → Nat → Option Nat} {h : xH} {lv : xL} {r : List Value} {Q : xQ} (hC : RepC ca n pg rm σ τ ρ h) (hj : j < c_cnt n k) {p C : Nat} (h0 : c_isO k = true) (hc : c_cls k = C) (hp : Nat.ble (p + 1) (c_nf k) = true) (h1 : Nat.beq (c_fk k p) 1 = false) (h2 : Nat.beq (c_fk k p) 2 = false) (q : G d M mc ms nx lv (.int (σ (c_F k p) j) :: r) h cs sl Q) : ∃ (fs : List Value) (v : Value), h (ca k j) = some (.inr (C, fs)) ∧ fs[p]? = some v ∧ G d M mc ms nx lv (v :: r) h cs sl Q := by
  have := hC.1 k j hj
  simp only [c_cell, h0, cond_true, hc] at this
  refine ⟨_, _, this, c_at (Nat.le_of_ble_eq_true hp), ?_⟩
  rw [c_val, h1, h2]
  exact q
theorem cg_l {G : xG} {d M mc ms nx cs sl k j n pg rm : Nat} {ca : Nat → Nat → Nat} {σ : (Nat → Nat → Int32)} {τ : (Nat → Nat → Int64)} {ρ : Nat → Nat → Option Nat} {h : xH} {lv : xL} {r : List Value} {Q : xQ} (hC : RepC ca n pg rm σ τ ρ h) (hj : j < c_cnt n k) {p C : Nat} (h0 : c_isO k = true) (hc : c_cls k = C) (hp : Nat.ble (p + 1) (c_nf k) = true) (h1 : Nat.beq (c_fk k p) 1 = false) (h2 : Nat.beq (c_fk k p) 2 = true) (q : G d M mc ms nx lv (.long (τ (c_F k p) j) :: r) h cs sl Q) : ∃ (fs : List Value) (v : Value), h (ca k j) = some (.inr (C, fs)) ∧ fs[p]? = some v ∧ G d M mc ms nx lv (v :: r) h cs sl Q := by
  have := hC.1 k j hj
  simp only [c_cell, h0, cond_true, hc] at this
  refine ⟨_, _, this, c_at (Nat.le_of_ble_eq_true hp), ?_⟩
  rw [c_val, h1, h2]
  exact q
theorem cp_i {G : xG} {d M mc ms nx cs sl k j n pg rm : Nat} {ca : Nat → Nat → Nat} {σ : (Nat → Nat → Int32)} {τ : (Nat → Nat → Int64)} {ρ : Nat → Nat → Option Nat} {h : xH} {lv : xL} {r : List Value} {Q : xQ} (hC : RepC ca n pg rm σ τ ρ h) (hj : j < c_cnt n k) {p C : Nat} {v : Int32} (h0 : c_isO k = true) (hc : c_cls k = C) (hp : Nat.ble (p + 1) (c_nf k) = true) (h1 : Nat.beq (c_fk k p) 1 = false) (h2 : Nat.beq (c_fk k p) 2 = false) (ht : x_fty C p = .int) (q : ∀ h', RepC ca n pg rm (u2 σ (c_F k p) j v) τ ρ h' → CF ca n h h' → G d M mc ms nx lv r h' cs sl Q) : ∃ fs : List Value, h (ca k j) = some (.inr (C, fs)) ∧ p < fs.length ∧ narrow (x_fty C p) (.int v) = .int v ∧ fits (x_fty C p) (.int v) = true ∧ ∀ h' : xH, h' = x_up h (ca k j) (.inr (C, fs.set p (.int v))) → G d M mc ms nx lv r h' cs sl Q := by
  have hh := hC.1 k j hj
  simp only [c_cell, h0, cond_true] at hh
  refine ⟨c_ob (c_nf k) (c_val ca σ τ k j), hc ▸ hh, by rw [c_obl]; exact Nat.le_of_ble_eq_true hp, by rw [ht]; rfl, by rw [ht]; rfl, fun h' e => ?_⟩
  obtain ⟨a, b⟩ := c_seti (h' := h') hC hj h0 (Nat.le_of_ble_eq_true hp) h1 h2 (by rw [hc]; exact e)
  exact q h' a b
theorem cp_0 {G : xG} {d M mc ms nx cs sl k j n pg rm : Nat} {ca : Nat → Nat → Nat} {σ : (Nat → Nat → Int32)} {τ : (Nat → Nat → Int64)} {ρ : Nat → Nat → Option Nat} {h : xH} {lv : xL} {r : List Value} {Q : xQ} (hC : RepC ca n pg rm σ τ ρ h) (hj : j < c_cnt n k) {p C : Nat}  (h0 : c_isO k = true) (hc : c_cls k = C) (hp : Nat.ble (p + 1) (c_nf k) = true) (h1 : Nat.beq (c_fk k p) 1 = false) (h2 : Nat.beq (c_fk k p) 2 = false) (ht : x_fty C p = .boolean) (q : ∀ h', RepC ca n pg rm (u2 σ (c_F k p) j 0) τ ρ h' → CF ca n h h' → G d M mc ms nx lv r h' cs sl Q) : ∃ fs : List Value, h (ca k j) = some (.inr (C, fs)) ∧ p < fs.length ∧ narrow (x_fty C p) (.int 0) = .int 0 ∧ fits (x_fty C p) (.int 0) = true ∧ ∀ h' : xH, h' = x_up h (ca k j) (.inr (C, fs.set p (.int 0))) → G d M mc ms nx lv r h' cs sl Q := by
  have hh := hC.1 k j hj
  simp only [c_cell, h0, cond_true] at hh
  refine ⟨c_ob (c_nf k) (c_val ca σ τ k j), hc ▸ hh, by rw [c_obl]; exact Nat.le_of_ble_eq_true hp, by rw [ht]; rfl, by rw [ht]; rfl, fun h' e => ?_⟩
  obtain ⟨a, b⟩ := c_seti (h' := h') hC hj h0 (Nat.le_of_ble_eq_true hp) h1 h2 (by rw [hc]; exact e)
  exact q h' a b
theorem cp_1 {G : xG} {d M mc ms nx cs sl k j n pg rm : Nat} {ca : Nat → Nat → Nat} {σ : (Nat → Nat → Int32)} {τ : (Nat → Nat → Int64)} {ρ : Nat → Nat → Option Nat} {h : xH} {lv : xL} {r : List Value} {Q : xQ} (hC : RepC ca n pg rm σ τ ρ h) (hj : j < c_cnt n k) {p C : Nat}  (h0 : c_isO k = true) (hc : c_cls k = C) (hp : Nat.ble (p + 1) (c_nf k) = true) (h1 : Nat.beq (c_fk k p) 1 = false) (h2 : Nat.beq (c_fk k p) 2 = false) (ht : x_fty C p = .boolean) (q : ∀ h', RepC ca n pg rm (u2 σ (c_F k p) j 1) τ ρ h' → CF ca n h h' → G d M mc ms nx lv r h' cs sl Q) : ∃ fs : List Value, h (ca k j) = some (.inr (C, fs)) ∧ p < fs.length ∧ narrow (x_fty C p) (.int 1) = .int 1 ∧ fits (x_fty C p) (.int 1) = true ∧ ∀ h' : xH, h' = x_up h (ca k j) (.inr (C, fs.set p (.int 1))) → G d M mc ms nx lv r h' cs sl Q := by
  have hh := hC.1 k j hj
  simp only [c_cell, h0, cond_true] at hh
  refine ⟨c_ob (c_nf k) (c_val ca σ τ k j), hc ▸ hh, by rw [c_obl]; exact Nat.le_of_ble_eq_true hp, by rw [ht]; rfl, by rw [ht]; rfl, fun h' e => ?_⟩
  obtain ⟨a, b⟩ := c_seti (h' := h') hC hj h0 (Nat.le_of_ble_eq_true hp) h1 h2 (by rw [hc]; exact e)
  exact q h' a b
theorem cp_l {G : xG} {d M mc ms nx cs sl j n pg rm : Nat} {ca : Nat → Nat → Nat} {σ : (Nat → Nat → Int32)} {τ : (Nat → Nat → Int64)} {ρ : Nat → Nat → Option Nat} {h : xH} {lv : xL} {r : List Value} {Q : xQ} (hC : RepC ca n pg rm σ τ ρ h) (hj : j < c_cnt n 3) {v : Int64} (q : ∀ h', RepC ca n pg rm σ (t2 τ 19 j v) ρ h' → CF ca n h h' → G d M mc ms nx lv r h' cs sl Q) : ∃ fs : List Value, h (ca 3 j) = some (.inr (3, fs)) ∧ 5 < fs.length ∧ narrow (x_fty 3 5) (.long v) = .long v ∧ fits (x_fty 3 5) (.long v) = true ∧ ∀ h' : xH, h' = x_up h (ca 3 j) (.inr (3, fs.set 5 (.long v))) → G d M mc ms nx lv r h' cs sl Q := by
  have hh := hC.1 3 j hj
  refine ⟨c_ob (c_nf 3) (c_val ca σ τ 3 j), hh, by rw [c_obl]; decide, rfl, rfl, fun h' e => ?_⟩
  obtain ⟨a, b⟩ := c_setL (h' := h') hC hj e
  exact q h' a b
theorem c_st31 {k : Nat} (hk : k < 36) : c_st k < 2 ^ 31 := Nat.lt_of_le_of_lt ((by decide : ∀ k, k < 36 → c_st k ≤ 4096) k hk) (by decide)
theorem ca_i {ro : xR} {G : xG} {d M mc ms nx cs sl k j n pg rm : Nat} {ca : Nat → Nat → Nat} {σ : (Nat → Nat → Int32)} {τ : (Nat → Nat → Int64)} {ρ : Nat → Nat → Option Nat} {h : xH} {lv : xL} {r : List Value} {Q : xQ} (hC : RepC ca n pg rm σ τ ρ h) (hj : j < c_cnt n k) {e : Int32} {N : Nat} (h0 : c_isO k = false) (h1 : c_isR k = false) (ht : c_ty k = 0) (he : e = nI N) (hN : N < c_len n pg rm k) (q : G d M mc ms nx lv (.int (σ (c_A k) (c_st k * j + N)) :: r) h cs sl Q) : ∃ (m : Nat) (f : Nat → Int32), ((∃ t : Nat, h (ca k j) = some (.inl (t, m, .inl f)) ∧ x_tys[t]? = some .int) ∨ ro (ca k j) = some (m, f)) ∧ vp_in e m ∧ G d M mc ms nx lv (.int (f e.toNatClampNeg) :: r) h cs sl Q := by
  subst he
  have hh := hC.1 k j hj
  have hl : c_len n pg rm k < 2 ^ 31 := Nat.lt_of_le_of_lt (c_lst (c_k36 hj) h0 h1 hC.2.2.2.1) (c_st31 (c_k36 hj))
  simp only [c_cell, h0, h1, ht, cond_false] at hh
  refine ⟨_, _, Or.inl ⟨_, hh, rfl⟩, vp_in_nI hN hl, ?_⟩
  rw [nI_clamp (by omega), trI, if_pos hN]
  exact q
theorem ca_b {G : xG} {d M mc ms nx cs sl k j n pg rm : Nat} {ca : Nat → Nat → Nat} {σ : (Nat → Nat → Int32)} {τ : (Nat → Nat → Int64)} {ρ : Nat → Nat → Option Nat} {h : xH} {lv : xL} {r : List Value} {Q : xQ} (hC : RepC ca n pg rm σ τ ρ h) (hj : j < c_cnt n k) {e : Int32} {N : Nat} (h0 : c_isO k = false) (h1 : c_isR k = false) (ht : c_ty k = 1) (he : e = nI N) (hN : N < c_len n pg rm k) (q : G d M mc ms nx lv (.int (σ (c_A k) (c_st k * j + N)) :: r) h cs sl Q) : ∃ (t m : Nat) (f : Nat → Int32), h (ca k j) = some (.inl (t, m, .inl f)) ∧ (x_tys[t]? = some .byte ∨ x_tys[t]? = some .boolean) ∧ vp_in e m ∧ G d M mc ms nx lv (.int (f e.toNatClampNeg) :: r) h cs sl Q := by
  subst he
  have hh := hC.1 k j hj
  have hl : c_len n pg rm k < 2 ^ 31 := Nat.lt_of_le_of_lt (c_lst (c_k36 hj) h0 h1 hC.2.2.2.1) (c_st31 (c_k36 hj))
  simp only [c_cell, h0, h1, ht, cond_false] at hh
  refine ⟨_, _, _, hh, Or.inl rfl, vp_in_nI hN hl, ?_⟩
  rw [nI_clamp (by omega), trI, if_pos hN]
  exact q
theorem ca_o {G : xG} {d M mc ms nx cs sl k j n pg rm : Nat} {ca : Nat → Nat → Nat} {σ : (Nat → Nat → Int32)} {τ : (Nat → Nat → Int64)} {ρ : Nat → Nat → Option Nat} {h : xH} {lv : xL} {r : List Value} {Q : xQ} (hC : RepC ca n pg rm σ τ ρ h) (hj : j < c_cnt n k) {e : Int32} {N : Nat} (h0 : c_isO k = false) (h1 : c_isR k = false) (ht : c_ty k = 2) (he : e = nI N) (hN : N < c_len n pg rm k) (q : G d M mc ms nx lv (.int (σ (c_A k) (c_st k * j + N)) :: r) h cs sl Q) : ∃ (t m : Nat) (f : Nat → Int32), h (ca k j) = some (.inl (t, m, .inl f)) ∧ (x_tys[t]? = some .byte ∨ x_tys[t]? = some .boolean) ∧ vp_in e m ∧ G d M mc ms nx lv (.int (f e.toNatClampNeg) :: r) h cs sl Q := by
  subst he
  have hh := hC.1 k j hj
  have hl : c_len n pg rm k < 2 ^ 31 := Nat.lt_of_le_of_lt (c_lst (c_k36 hj) h0 h1 hC.2.2.2.1) (c_st31 (c_k36 hj))
  simp only [c_cell, h0, h1, ht, cond_false] at hh
  refine ⟨_, _, _, hh, Or.inr rfl, vp_in_nI hN hl, ?_⟩
  rw [nI_clamp (by omega), trI, if_pos hN]
  exact q
theorem cs_i {G : xG} {d M mc ms nx cs sl k j n pg rm : Nat} {ca : Nat → Nat → Nat} {σ : (Nat → Nat → Int32)} {τ : (Nat → Nat → Int64)} {ρ : Nat → Nat → Option Nat} {h : xH} {lv : xL} {r : List Value} {Q : xQ} (hC : RepC ca n pg rm σ τ ρ h) (hj : j < c_cnt n k) {e x : Int32} {N : Nat} (h0 : c_isO k = false) (h1 : c_isR k = false) (ht : c_ty k = 0) (he : e = nI N) (hN : N < c_len n pg rm k) (q : ∀ h', RepC ca n pg rm (u2 σ (c_A k) (c_st k * j + N) x) τ ρ h' → CF ca n h h' → G d M mc ms nx lv r h' cs sl Q) : ∃ (t m : Nat) (f : Nat → Int32), h (ca k j) = some (.inl (t, m, .inl f)) ∧ x_tys[t]? = some .int ∧ vp_in e m ∧ ∀ h' : xH, h' = x_up h (ca k j) (.inl (t, m, .inl (upd f e.toNatClampNeg x))) → G d M mc ms nx lv r h' cs sl Q := by
  subst he
  have hh := hC.1 k j hj
  have hl : c_len n pg rm k < 2 ^ 31 := Nat.lt_of_le_of_lt (c_lst (c_k36 hj) h0 h1 hC.2.2.2.1) (c_st31 (c_k36 hj))
  simp only [c_cell, h0, h1, ht, cond_false] at hh
  refine ⟨_, _, _, hh, rfl, vp_in_nI hN hl, fun h' e => ?_⟩
  rw [nI_clamp (by omega)] at e
  obtain ⟨a, b⟩ := c_setA (h' := h') hC hj h0 h1 hN (by rw [ht]; exact e)
  exact q h' a b
theorem cs_b {G : xG} {d M mc ms nx cs sl k j n pg rm : Nat} {ca : Nat → Nat → Nat} {σ : (Nat → Nat → Int32)} {τ : (Nat → Nat → Int64)} {ρ : Nat → Nat → Option Nat} {h : xH} {lv : xL} {r : List Value} {Q : xQ} (hC : RepC ca n pg rm σ τ ρ h) (hj : j < c_cnt n k) {e x : Int32} {N : Nat} (h0 : c_isO k = false) (h1 : c_isR k = false) (ht : c_ty k = 1) (he : e = nI N) (hN : N < c_len n pg rm k) (q : ∀ h', RepC ca n pg rm (u2 σ (c_A k) (c_st k * j + N) x.toInt8.toInt32) τ ρ h' → CF ca n h h' → G d M mc ms nx lv r h' cs sl Q) : ∃ (t m : Nat) (f : Nat → Int32) (ty : FieldType), h (ca k j) = some (.inl (t, m, .inl f)) ∧ x_tys[t]? = some ty ∧ (ty = .byte ∨ ty = .boolean) ∧ vp_in e m ∧ ∀ h' : xH, h' = x_up h (ca k j) (.inl (t, m, .inl (upd f e.toNatClampNeg (vp_nar ty x)))) → G d M mc ms nx lv r h' cs sl Q := by
  subst he
  have hh := hC.1 k j hj
  have hl : c_len n pg rm k < 2 ^ 31 := Nat.lt_of_le_of_lt (c_lst (c_k36 hj) h0 h1 hC.2.2.2.1) (c_st31 (c_k36 hj))
  simp only [c_cell, h0, h1, ht, cond_false] at hh
  refine ⟨_, _, _, .byte, hh, rfl, Or.inl rfl, vp_in_nI hN hl, fun h' e => ?_⟩
  rw [nI_clamp (by omega), vp_nar_byte] at e
  obtain ⟨a, b⟩ := c_setA (h' := h') hC hj h0 h1 hN (by rw [ht]; exact e)
  exact q h' a b
theorem cs_o {G : xG} {d M mc ms nx cs sl k j n pg rm : Nat} {ca : Nat → Nat → Nat} {σ : (Nat → Nat → Int32)} {τ : (Nat → Nat → Int64)} {ρ : Nat → Nat → Option Nat} {h : xH} {lv : xL} {r : List Value} {Q : xQ} (hC : RepC ca n pg rm σ τ ρ h) (hj : j < c_cnt n k) {e x : Int32} {N : Nat} (h0 : c_isO k = false) (h1 : c_isR k = false) (ht : c_ty k = 2) (he : e = nI N) (hN : N < c_len n pg rm k) (q : ∀ h', RepC ca n pg rm (u2 σ (c_A k) (c_st k * j + N) (vp_nar .boolean x)) τ ρ h' → CF ca n h h' → G d M mc ms nx lv r h' cs sl Q) : ∃ (t m : Nat) (f : Nat → Int32) (ty : FieldType), h (ca k j) = some (.inl (t, m, .inl f)) ∧ x_tys[t]? = some ty ∧ (ty = .byte ∨ ty = .boolean) ∧ vp_in e m ∧ ∀ h' : xH, h' = x_up h (ca k j) (.inl (t, m, .inl (upd f e.toNatClampNeg (vp_nar ty x)))) → G d M mc ms nx lv r h' cs sl Q := by
  subst he
  have hh := hC.1 k j hj
  have hl : c_len n pg rm k < 2 ^ 31 := Nat.lt_of_le_of_lt (c_lst (c_k36 hj) h0 h1 hC.2.2.2.1) (c_st31 (c_k36 hj))
  simp only [c_cell, h0, h1, ht, cond_false] at hh
  refine ⟨_, _, _, .boolean, hh, rfl, Or.inr rfl, vp_in_nI hN hl, fun h' e => ?_⟩
  rw [nI_clamp (by omega)] at e
  obtain ⟨a, b⟩ := c_setA (h' := h') hC hj h0 h1 hN (by rw [ht]; exact e)
  exact q h' a b
theorem ca_r {G : xG} {d M mc ms nx cs sl k j n pg rm : Nat} {ca : Nat → Nat → Nat} {σ : (Nat → Nat → Int32)} {τ : (Nat → Nat → Int64)} {ρ : Nat → Nat → Option Nat} {h : xH} {lv : xL} {r : List Value} {Q : xQ} (hC : RepC ca n pg rm σ τ ρ h) (hj : j < c_cnt n k) {e : Int32} {N : Nat} {C : String} {o : Option Nat} (h1 : c_isR k = true) (h0 : c_isO k = false) (ht : x_tys[c_ty k]? = some (.object C)) (he : e = nI N) (hN : N < c_len n pg rm k) (hl : c_len n pg rm k < 2 ^ 31) (ho : c_rf ca ρ k j N = o) (q : G d M mc ms nx lv (va_rf o :: r) h cs sl Q) : ∃ (t m : Nat) (C : String) (f : Nat → Option Nat) (o : Option Nat), h (ca k j) = some (.inl (t, m, .inr (.inr (.inr (.inr f))))) ∧ x_tys[t]? = some (.object C) ∧ vp_in e m ∧ f e.toNatClampNeg = o ∧ G d M mc ms nx lv (va_rf o :: r) h cs sl Q := by
  subst he
  have hh := hC.1 k j hj
  simp only [c_cell, h0, h1, cond_false, cond_true] at hh
  refine ⟨_, _, C, _, o, hh, ht, vp_in_nI hN hl, ?_, q⟩
  rw [nI_clamp (by omega), trO, if_pos hN]
  exact ho
theorem cl_n {ro : xR} {G : xG} {d M mc ms nx cs sl k j n pg rm : Nat} {ca : Nat → Nat → Nat} {σ : (Nat → Nat → Int32)} {τ : (Nat → Nat → Int64)} {ρ : Nat → Nat → Option Nat} {h : xH} {lv : xL} {r : List Value} {Q : xQ} (hC : RepC ca n pg rm σ τ ρ h) (hj : j < c_cnt n k) {L : Nat} (h0 : c_isO k = false) (hl : c_len n pg rm k = L) (ht : c_ty k < x_tys.length) (q : G d M mc ms nx lv (.int (Int32.ofNat L) :: r) h cs sl Q) : ∃ m : Nat, ((∃ (t : Nat) (y : vp_A), h (ca k j) = some (.inl (t, y)) ∧ t < x_tys.length ∧ y.1 = m) ∨ ∃ f : Nat → Int32, ro (ca k j) = some (m, f)) ∧ G d M mc ms nx lv (.int (Int32.ofNat m) :: r) h cs sl Q := by
  have hh := hC.1 k j hj
  subst hl
  cases h1 : c_isR k with
  | true =>
    simp only [c_cell, h0, h1, cond_false, cond_true] at hh
    exact ⟨_, Or.inl ⟨_, _, hh, ht, rfl⟩, q⟩
  | false =>
    simp only [c_cell, h0, h1, cond_false] at hh
    exact ⟨_, Or.inl ⟨_, _, hh, ht, rfl⟩, q⟩
