def x_bits : Nat → Int32 := fun j => match j with
  | 0 => 136
  | 1 => 2176
  | 2 => (-4)
  | 3 => (-1)
  | 4 => (-4)
  | 5 => (-1)
  | _ => (-1)
def x_Law (b L : Nat) (xs : Nat → Int32) : Prop := ∀ (G : xG) (ro : xR) (sv : Nat → Value) (t0 : Nat), x_Good G ro sv → ro b = some (L, xs) → sv 0 = .ref t0 → (∃ f : Nat → Int32, ro t0 = some (7, f) ∧ ∀ j, j < 7 → f j = x_bits j) → G 9 219 600000 7302250 0 [(0, .ref b)] [] (fun _ => none) 0 0 (fun v _ => v = some (.int 1))
theorem x_TL {w : Cond} (h : w ∈ x_T) : w ∈ lw_tbl := (List.mem_filter.mp h).1
theorem x_clex {s : State} {args : Array Value} (hts : ∀ w ∈ lw_tbl, w.before args s = true) (k : Nat) : ∃ (cC : ClassId) (iS : Nat → Nat), ∀ q : vw_C, vwCl[k]? = some q → u_Kn s q.1 q.2.1 q.2.2 cC iS := by
  cases hq : vwCl[k]? with
  | none => exact ⟨0, fun _ => 0, fun q h => by cases h⟩
  | some q =>
    obtain ⟨C, T, N⟩ := q
    obtain ⟨h1, -, -, -, -, h2, -⟩ := x_clall hq
    obtain ⟨cC, iS, h⟩ := u_known (C := C) (T := T) (N := N) (n := N) hts (fun w hw => x_TL (h1 w hw)) (hts _ (x_TL h2))
    exact ⟨cC, iS, fun q h' => by cases h'; exact h⟩
theorem x_arr1 {s : State} {args : Array Value} {ty : FieldType} (h : (Cond.arrayClass ty).before args s = true) (hty : ∀ C, ty ≠ .object C) : ∃ c : ClassId, ArrOfT s c ty ∧ va_RA s c ty := by
  obtain ⟨cA, kA, comp, hfind, hk, hkind⟩ := Cond.arrayClass_spec h
  refine ⟨cA, fun n z => ⟨(fun k h => by cases h), kA, hk, comp, hkind⟩, ?_⟩
  cases ty with
  | object C => exact absurd rfl (hty C)
  | _ => exact hfind
theorem x_arr2 {s : State} {C : String} (h : va_AO C s) : ∃ c : ClassId, ArrOfT s c (.object C) ∧ va_RA s c (.object C) := by
  obtain ⟨comp, c, k, h1, h2, h3, h4, h5⟩ := Cond.arrayOver_spec h
  exact ⟨c, fun n z => ⟨(fun k h => by cases h), k, h3, comp, h4⟩, k, comp, h3, h4, h1, h5⟩
theorem x_arr {s : State} {args : Array Value} (hts : ∀ w ∈ lw_tbl, w.before args s = true) (t : Nat) : ∃ c : ClassId, ∀ ty, x_tys[t]? = some ty → ArrOfT s c ty ∧ va_RA s c ty := by
  match t with
  | 0 =>
    obtain ⟨c, h⟩ := x_arr1 (hts (.arrayClass .int) (x_is_in (p := 171) (by decide +kernel))) (fun C h => by cases h)
    exact ⟨c, fun ty hty => by cases hty; exact h⟩
  | 1 =>
    obtain ⟨c, h⟩ := x_arr1 (hts (.arrayClass .byte) (x_is_in (p := 130) (by decide +kernel))) (fun C h => by cases h)
    exact ⟨c, fun ty hty => by cases hty; exact h⟩
  | 2 =>
    obtain ⟨c, h⟩ := x_arr1 (hts (.arrayClass .boolean) (x_is_in (p := 131) (by decide +kernel))) (fun C h => by cases h)
    exact ⟨c, fun ty hty => by cases hty; exact h⟩
  | 3 =>
    obtain ⟨c, h⟩ := x_arr1 (hts (.arrayClass .long) (x_is_in (p := 1283) (by decide +kernel))) (fun C h => by cases h)
    exact ⟨c, fun ty hty => by cases hty; exact h⟩
  | 4 =>
    obtain ⟨c, h⟩ := x_arr2 (va_AO.of (hts (.arrayOver (.object "ReplayHosts$Host")) (x_is_in (p := 104) (by decide +kernel))))
    exact ⟨c, fun ty hty => by cases hty; exact h⟩
  | 5 =>
    obtain ⟨c, h⟩ := x_arr2 (va_AO.of (hts (.arrayOver (.object "ReplayHosts$Entry")) (x_is_in (p := 313) (by decide +kernel))))
    exact ⟨c, fun ty hty => by cases hty; exact h⟩
  | 6 =>
    obtain ⟨c, h⟩ := x_arr2 (va_AO.of (hts (.arrayOver (.object "ReplayHosts$Output")) (x_is_in (p := 327) (by decide +kernel))))
    exact ⟨c, fun ty hty => by cases hty; exact h⟩
  | 7 =>
    obtain ⟨c, h⟩ := x_arr2 (va_AO.of (hts (.arrayOver (.object "ReplayHosts$Operation")) (x_is_in (p := 383) (by decide +kernel))))
    exact ⟨c, fun ty hty => by cases hty; exact h⟩
  | t + 8 => exact ⟨0, fun ty hty => by simp [x_tys] at hty⟩
theorem x_ao {s : State} {args : Array Value} (hts : ∀ w ∈ lw_tbl, w.before args s = true) (C : String) (h : FieldType.object C ∈ x_tys) : va_AO C s := by
  simp only [x_tys, List.mem_cons, List.mem_nil_iff, or_false, FieldType.object.injEq, reduceCtorEq, false_or] at h
  rcases h with rfl | rfl | rfl | rfl
  · exact va_AO.of (hts (.arrayOver (.object "ReplayHosts$Host")) (x_is_in (p := 104) (by decide +kernel)))
  · exact va_AO.of (hts (.arrayOver (.object "ReplayHosts$Entry")) (x_is_in (p := 313) (by decide +kernel)))
  · exact va_AO.of (hts (.arrayOver (.object "ReplayHosts$Output")) (x_is_in (p := 327) (by decide +kernel)))
  · exact va_AO.of (hts (.arrayOver (.object "ReplayHosts$Operation")) (x_is_in (p := 383) (by decide +kernel)))
theorem x_ns {s : State} {args : Array Value} (hts : ∀ w ∈ lw_tbl, w.before args s = true) : ∀ q ∈ x_nst, va_Nw (.methodLinkNest q.1 q.2.1 q.2.2.1 q.2.2.2) s := by
  intro q hq
  rw [x_nst, List.mem_singleton] at hq
  subst hq
  exact va_Nw.of rfl (hts (.methodLinkNest "ReplayHosts$Host" 83 ⟨"ReplayHosts", "within", "(III)I"⟩ "ReplayHosts") (x_is_in (p := 549) (by decide +kernel)))
theorem x_stat {s : State} {b : Nat} (hts : ∀ w ∈ lw_tbl, w.before #[Value.ref b] s = true) (hgv : (Jvm.Cond.and given_1 narrow_1).before #[Value.ref b] s = true) : ∃ t : Nat, va_T .int t 7 (fun j => .int (x_bits j)) (x_A s.heap.size) s s.heap ∧ va_Z "ReplayHosts$Guest" "CONTROL_BITS" "[I" (.ref t) (x_A s.heap.size) s s.heap := by
  have hs := flat_of_before _ hgv
  have hA : ∀ a : Nat, a < s.heap.size → ¬ x_A s.heap.size a := fun a h1 h2 => Nat.not_le.mpr h1 h2
  obtain ⟨t, h1, h2⟩ := va_Tof (tm := (.static "ReplayHosts$Guest" "CONTROL_BITS" "[I")) (ty := .int) (N := 7) (f := fun j => .int (x_bits j)) (A := x_A s.heap.size) (by decide) (hs (.arrayOf (.static "ReplayHosts$Guest" "CONTROL_BITS" "[I") .int) (by decide +kernel)) (va_eqt (hs (.eq (.length (.static "ReplayHosts$Guest" "CONTROL_BITS" "[I")) (.int 7)) (by decide +kernel))) (fun j hj => by
    match j, hj with
    | 0, _ => exact va_eqt (hs (.eq (.elem (.static "ReplayHosts$Guest" "CONTROL_BITS" "[I") (.int 0)) (.int (136))) (by decide +kernel))
    | 1, _ => exact va_eqt (hs (.eq (.elem (.static "ReplayHosts$Guest" "CONTROL_BITS" "[I") (.int 1)) (.int (2176))) (by decide +kernel))
    | 2, _ => exact va_eqt (hs (.eq (.elem (.static "ReplayHosts$Guest" "CONTROL_BITS" "[I") (.int 2)) (.int (-4))) (by decide +kernel))
    | 3, _ => exact va_eqt (hs (.eq (.elem (.static "ReplayHosts$Guest" "CONTROL_BITS" "[I") (.int 3)) (.int (-1))) (by decide +kernel))
    | 4, _ => exact va_eqt (hs (.eq (.elem (.static "ReplayHosts$Guest" "CONTROL_BITS" "[I") (.int 4)) (.int (-4))) (by decide +kernel))
    | 5, _ => exact va_eqt (hs (.eq (.elem (.static "ReplayHosts$Guest" "CONTROL_BITS" "[I") (.int 5)) (.int (-1))) (by decide +kernel))
    | 6, _ => exact va_eqt (hs (.eq (.elem (.static "ReplayHosts$Guest" "CONTROL_BITS" "[I") (.int 6)) (.int (-1))) (by decide +kernel))
    | j + 7, hj => exact absurd hj (by omega)) hA
  exact ⟨t, h2, va_Zof (hts (.laysStatic "ReplayHosts$Guest" "CONTROL_BITS" "[I") (x_is_in (p := 274) (by decide +kernel))) (hts (.initialized "ReplayHosts$Guest") (x_is_in (p := 72) (by decide +kernel))) h1 hA⟩
set_option maxHeartbeats 4000000 in
set_option maxRecDepth 100000 in
theorem x_start (hval : ∀ (M pc : Nat) (e : xI), pc < (x_mt M).2.2.2.2.2.2.2.1.2.2.2.2 → (x_mt M).2.2.2.2.2.2.2.2 pc = some e → x_ok (x_mt M) pc e = true) (hvY : ∀ M : Nat, x_cal M = true → x_okY (x_mt M) = true)
    {p : Program} {e : Env} {s : State} {m : MethodId} {below : List Frame} {meth : Method} {c : Code} (l : Launch) {b L : Nat} {xs : Nat → Int32} (hL : L ≤ 5123) (C0 : lw_At p s m meth c b L xs) (hrun : x_Law b L xs) : W p l e room_1 s m #[Value.ref b] below meth c s.heap [] 0 0 (lw_Z below #[Value.ref b] s) (entryFrame m ([Value.ref b] : List Value).toArray 4) := by
  obtain ⟨hx, hb, hr, hml, hown, hts, hX, hbl, hlocks, hgv⟩ := id C0
  obtain ⟨t0, hT, hZ⟩ := x_stat hts hgv
  let dC : Nat → ClassId := fun k => Classical.choose (x_clex hts k)
  let dI : Nat → Nat → Nat := fun k => Classical.choose (Classical.choose_spec (x_clex hts k))
  have hcl : ∀ (k : Nat) (q : vw_C), vwCl[k]? = some q → u_Kn s q.1 q.2.1 q.2.2 (dC k) (dI k) := fun k => Classical.choose_spec (Classical.choose_spec (x_clex hts k))
  let cA : Nat → ClassId := fun t => Classical.choose (x_arr hts t)
  have har : ∀ (t : Nat) (ty : FieldType), x_tys[t]? = some ty → ArrOfT s (cA t) ty ∧ va_RA s (cA t) ty := fun t => Classical.choose_spec (x_arr hts t)
  let ro : xR := fun a => if a = b then some (L, xs) else if a = t0 then some (7, x_bits) else none
  let sv : Nat → Value := fun _ => .ref t0
  have hbA : ¬ x_A s.heap.size b := Nat.not_le.mpr hbl
  have hXT : va_T .int b L (fun j => .int (xs j)) (x_A s.heap.size) s s.heap := by
    obtain ⟨scr, g1, g2, g3, g4, g5⟩ := hX
    exact ⟨scr, g1, g2, g3, by omega, by rw [g4] <;> rfl, g5, hbA⟩
  have hST : x_St dC dI cA s.heap.size ro sv s := by
    refine ⟨⟨hcl, fun k q hq => ?_⟩, Nat.le_refl _, fun a n f hf => ?_, fun j q hq => ?_, x_ao hts, x_ns hts⟩
    · have hk : k < x_tys.length := by
        have := (List.getElem?_eq_some_iff.mp hq).1
        simpa [x_tl] using this
      have h1 := x_tl_at (cA := cA) (List.getElem?_eq_getElem hk)
      rw [hq] at h1
      cases h1
      exact har k _ (List.getElem?_eq_getElem hk)
    · by_cases h1 : a = b
      · subst h1
        have : some (L, xs) = some (n, f) := by rw [← hf]; exact (if_pos rfl).symm
        cases this
        exact hXT
      · by_cases h2 : a = t0
        · subst h2
          have : some (7, x_bits) = some (n, f) := by
            rw [← hf]
            show _ = if _ then _ else if _ then _ else _
            rw [if_neg h1, if_pos rfl]
          cases this
          exact hT
        · have : (none : Option (Nat × (Nat → Int32))) = some (n, f) := by
            rw [← hf]
            show _ = if _ then _ else if _ then _ else _
            rw [if_neg h1, if_neg h2]
          cases this
    · match j, hq with
      | 0, hq => cases hq; exact hZ
      | j + 1, hq => simp [x_stt] at hq
  have hG := x_sim (l := l) (dC := dC) (dI := dI) (cA := cA) (base := s.heap.size) (ro := ro) (sv := sv) hval hvY
  have hro2 : ∃ f : Nat → Int32, ro t0 = some (7, f) ∧ ∀ j, j < 7 → f j = x_bits j := by
    by_cases h1 : t0 = b
    · obtain ⟨cell, g1, g2, g3, g4, g5, g6, g7⟩ := hT
      obtain ⟨scr, k1, k2, k3, k4, k5⟩ := hX
      rw [h1, k1] at g1
      cases g1
      rw [k4] at g5
      have hL7 : L = 7 := (nI_eq (by omega) (by decide)).mp g5
      refine ⟨xs, (if_pos h1).trans (by rw [hL7]), fun j hj => ?_⟩
      have q1 := g6 j hj
      have q2 := k5 j (by omega)
      rw [q1] at q2
      exact (Value.int.inj (Option.some.inj q2)).symm
    · exact ⟨x_bits, by show (if _ then _ else if _ then _ else _) = _; rw [if_neg h1, if_pos rfl], fun _ _ => rfl⟩
  have hg := hrun (x_GW l dC dI cA s.heap.size ro sv) ro sv t0 hG (if_pos rfl) rfl hro2
  have hl := lv_entry ([.ref b]) (n := 4) (Nat.le_of_ble_eq_true rfl)
  rw [lg_entry_eq]
  generalize (lg_sl ([.ref b]) ++ List.replicate (4 - (lg_sl ([.ref b])).length) Slot.unset).toArray = ls at hl ⊢
  refine hg p e room_1 s m #[Value.ref b] below meth c s.heap [] ls _ ⟨⟨hx, hb, hml, hr, hown, hlocks, fun hi => absurd hi (by decide +kernel), fun w hw => hts w (x_TL hw)⟩, hST, ⟨by decide, by decide, by decide, by decide⟩, ?_⟩ ⟨[], fun _ => .inr (0, []), fun k q h => by simp [va_pl] at h, ⟨fun i j p q h => by simp [va_pl] at h, fun k q h => by simp [va_pl] at h⟩, fun a e h => by cases h⟩ va_S.rf hl ⟨Nat.zero_le _, Nat.zero_le _⟩
  intro pc i v h' H' locs' ls' cs' sl' hW' hS' hQ hc1 hc2 hrt hdg
  subst hQ
  rcases hrt with ⟨rfl, x, ty, hv, h1, h2⟩ | ⟨rfl, x, hv, h1⟩ | ⟨rfl, y, rt, hv, h1, h2, h3⟩ | ⟨rfl, hv, h1⟩
  · refine W.widen hc1 hc2 (va_forget hS'.2.2 ?_)
    exact lw_ret hx hb hr hlocks hdg
  · cases hv
  · cases hv
    rcases h1 with h1 | ⟨a, h1⟩ <;> cases h1
  · cases hv
