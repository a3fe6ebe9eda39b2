section SIMC
variable {l : Launch} {dC : Nat → ClassId} {dI : Nat → Nat → Nat} {cA : Nat → ClassId} {base : Nat} {ro : xR} {sv : Nat → Value}
variable {p : Program} {e : Env} {R : Room} {s : State} {m : MethodId} {args : Array Value} {below : List Frame} {meth : Method} {c : Code} {H : Heap} {locs : List Loc} {ls : Array Slot} {Z : State → Prop}
variable {d M mc ms pc cs sl p1 p2 : Nat} {lv : xL} {st : List Value} {h : xH} {Q : xQ} {kv : Int32} {k2 : Int64}

def x_Qc (dC : Nat → ClassId) (dI : Nat → Nat → Nat) (cA : Nat → ClassId) (base : Nat) (Q : xQ) : Array Value → State → Outcome → State → Prop := fun _ st oc t => (∃ (v : Option Value) (h' : xH), oc = .returned v ∧ Q v h' ∧ x_Wd dC dI cA base h' t.heap) ∧ va_F (x_A base) st t
abbrev x_rm (d mc ms : Nat) : Room := { frames := d + 1, cells := mc, slots := ms, locals := 36 * d + 36 }
abbrev x_ws (M : Nat) : List Cond := Cond.code (x_y M) (x_b M) (x_ml M) (x_r M) :: x_T
theorem x_goodT : GoodIn x_T x_T := fun w hw => ⟨hw, by
  have h := (List.mem_filter.mp hw).2
  cases hc : k2_isCode w with
  | true => cases w <;> first | (simp [k2_isCode] at hc; done) | exact Or.inl rfl
  | false =>
    rw [hc, Bool.false_or] at h
    exact good_of_word h⟩
theorem x_goodM {M : Nat} (h : Cond.code (x_y M) (x_b M) (x_ml M) (x_r M) ∈ x_T) : GoodIn x_T (x_ws M) := fun w hw => by
  rcases List.mem_cons.mp hw with rfl | hw
  · exact x_goodT _ h
  · exact x_goodT w hw
theorem x_met {As : List Value} (hy : plainName (x_y M).cls = true) (hlen : (lg_sl As).length ≤ x_ml M) (hini : (x_y M).name = "<init>" → (x_y M).name = "<init>") (g : x_GW l dC dI cA base ro sv d M mc ms 0 (lv_args 0 As) [] h 0 0 Q) :
    Met l (x_y M) (x_ws M) (x_rm d mc ms) (va_Pc As (fun U => x_Wd dC dI cA base h U.heap ∧ x_St dC dI cA base ro sv U)) (x_Qc dC dI cA base Q) mc ms (x_A base) := by
  refine Met.ofW (cc := x_b M) (maxL := x_ml M) (ret := x_r M) hy rfl ?_
  intro p e s m args below meth c s₁ B hml hv
  obtain ⟨rfl, hW, hST⟩ := hv
  have hts := atoms_spec (ws := x_ws M) B.pre
  have hl := lv_entry As (n := x_ml M) hlen
  rw [lg_entry_eq]
  generalize (lg_sl As ++ List.replicate (x_ml M - (lg_sl As).length) Slot.unset).toArray = ls at hl ⊢
  have hlk := B.notSynchronized
  have hr := B.returns
  refine g p e _ s m _ below meth c s.heap [] ls _ ⟨⟨B.exec, B.bytes, hml, B.returns, findClass_of_methodNamed B.named, B.notSynchronized, fun hi => ((name_of_methodNamed B.named B.method).1).trans hi, fun w hw => hts w (List.mem_cons_of_mem _ hw)⟩, hST, ⟨Nat.le_refl _, Nat.le_refl _, Nat.le_refl _, Nat.le_refl _⟩, ?_⟩ hW va_S.rf hl ⟨Nat.zero_le _, Nat.zero_le _⟩
  intro pc i v h' H' locs' ls' cs' sl' hW' hS' hQ hc1 hc2 hrt hdg
  refine W.widen hc1 hc2 ?_
  have hq : ∀ t : State, t.heap = H' → x_Qc dC dI cA base Q As.toArray s (.returned v) t := fun t ht => ⟨⟨v, h', rfl, hQ, by rw [ht]; exact hW'⟩, hS'.F ht⟩
  rcases hrt with ⟨rfl, x, ty, rfl, h1, h2⟩ | ⟨rfl, x, rfl, h1⟩ | ⟨rfl, y, rt, rfl, h1, h2, h3⟩ | ⟨rfl, rfl, h1⟩
  · exact W.zret B.exec B.bytes (hr.trans h1) h2 (fun t ht _ => hq t ht) hS'.2.2 hdg
  · exact W.lret B.exec B.bytes (hr.trans h1) (fun t ht _ => hq t ht) hS'.2.2 hdg
  · exact W.aret B.exec B.bytes (hr.trans h2) h3 h1 (fun t ht _ => hq t ht) hS'.2.2 hdg
  · exact W.vret B.exec B.bytes (hr.trans h1) (fun t ht _ => hq t ht) hS'.2.2 hdg
theorem x_back {mc' ms' : Nat} {rest st0 : List Value} {a : Array Value} {Q' : xQ} (hr : va_Run p l e R s m args below meth c H locs cs sl mc' ms' (F0 m pc ls st0) rest (x_Qc dC dI cA base Q' a) (x_A base)) (hS : va_S (x_A base) s.heap H locs)
    (kk : ∀ (v : Option Value) (h' : xH) (H1 : Heap) (locs1 : List Loc), Q' v h' → x_Wd dC dI cA base h' H1 → va_S (x_A base) s.heap H1 locs1 → W p l e R s m args below meth c H1 locs1 (cs + mc') (sl + ms') Z (F0 m (pc + 3) ls (v.toList ++ rest))) : W p l e R s m args below meth c H locs cs sl Z (F0 m pc ls st0) := by
  intro T hT X
  obtain ⟨v, st₀, t, T', L, h0, X', hL, e1, e2, ⟨⟨v', h', hv, hQ, hW'⟩, hz, hk⟩, stp⟩ := hr T hT X
  cases hv
  rw [h0] at hz hk
  obtain ⟨t2, a1, b1⟩ := kk v h' T'.heap (locs ++ L) hQ (by rw [e1]; exact hW')
    ⟨Nat.le_trans hS.1 (by rw [e1]; exact hz), fun q h1 h2 => by rw [e1, hk q (Nat.lt_of_lt_of_le h1 hS.1) h2]; exact hS.2.1 q h1 h2, fun q hq => by
      rcases List.mem_append.mp hq with h | h
      · exact hS.2.2 q h
      · exact hL q h⟩ T' rfl X'
  exact ⟨t2, stp t2 a1, b1⟩
theorem x_pre {As : List Value} (K : x_Hy l dC dI cA base ro sv d M mc ms lv h cs sl Q p e R s m args below meth c H locs ls Z) : PreS s H (va_Pc As (fun U => x_Wd dC dI cA base h U.heap ∧ x_St dC dI cA base ro sv U)) As :=
  ⟨fun a U g mk q => by
    obtain ⟨q0, qW, qS⟩ := q
    exact ⟨q0, qW, x_St.move qS (State.WarmedH.refl U) ⟨Nat.le_refl _, fun _ _ _ => rfl⟩⟩,
   fun U hU hW => ⟨rfl, by rw [hU]; exact K.2.1, x_St.move K.1.2.1 hW ⟨by rw [hU]; exact K.2.2.1.1, fun q h1 h2 => by rw [hU]; exact K.2.2.1.2.1 q h1 h2⟩⟩⟩

theorem xs_virtual {n : Nat} (K : x_Hy l dC dI cA base ro sv d M mc ms lv h cs sl Q p e R s m args below meth c H locs ls Z) (hd : decode (x_b M) pc = .ok (.invokevirtual n, 3)) (hY : x_okY (x_mt p1) = true) (hkd : (x_mt p1).2.2.2.2.1 = 0) (hp2 : p2 = (x_mt p1).2.2.2.2.2.2.1) (hk : Cond.methodLink (x_y M).cls n (x_y p1) ∈ x_T) (hs : x_do (x_GW l dC dI cA base ro sv) ro sv d M mc ms pc lv st h cs sl Q (.invokevirtual n) (pc + 3) p1 p2 kv k2) : W p l e R s m args below meth c H locs cs sl Z (F0 m pc ls st) := by
  obtain ⟨⟨⟨hx, hb, hml, hr, hown, hlk, hin, hts⟩, hST, hR, hRet⟩, hW, hS, hl, hcs⟩ := id K
  delta x_do at hs
  dsimp only at hs
  have hY2 := hY
  simp only [x_okY, Bool.and_eq_true, decide_eq_true_eq] at hY2
  obtain ⟨⟨⟨⟨⟨⟨⟨y1, y2⟩, y3⟩, y4⟩, y5⟩, y6⟩, y7⟩, y8⟩ := hY2
  have hcode : Cond.code (x_y p1) (x_b p1) (x_ml p1) (x_r p1) ∈ x_T := x_is_T y1 rfl
  have hini : Cond.initialized (x_y p1).cls ∈ x_T := x_is_T y7 rfl
  have hml17 : x_ml p1 ≤ 17 := Nat.le_of_ble_eq_true y6
  rw [hkd] at y8
  simp only [Bool.and_eq_true, decide_eq_true_eq] at y8
  obtain ⟨⟨z1, z2⟩, z3⟩ := y8
  split at hs
  · rename_i As b r hargs
    obtain ⟨⟨fs, hb1⟩, hcall⟩ := hs
    obtain ⟨e1, e2⟩ := x_args_spec _ _ _ _ _ hargs
    have hst : st = As.reverse ++ .ref b :: r := by simpa using e1.symm
    have hlen : As.length = (x_mt p1).2.2.2.2.2.2.1 := by rw [← hp2]; simpa using e2
    have hrecv : ∃ cellB : Cell, H[b]? = some cellB ∧ cellB.vm.isStatics = false ∧ s.vm.findClass (x_y p1).cls = some cellB.cls := by
      obtain ⟨L, f0, hP, hD, hf⟩ := hW
      obtain ⟨hL, k, hk1, hk2⟩ := x_at (base := base) (dC := dC) (dI := dI) (H := H) hf hb1
      rw [hk2] at hk1
      cases hcq : vwCl[(x_mt p1).2.2.2.2.2.1]? with
      | none => rw [hcq] at z3; cases z3
      | some q =>
        rw [hcq] at z3
        have hq1 : q.1 = (x_y p1).cls := Option.some.inj z3
        rw [← hq1]
        exact va_recv hST.1 hP hcq hk1
    unfold x_call at hcall
    split at hcall
    · rename_i d' hr1 hr2
      obtain ⟨mc', ms', h1, h2, g⟩ := hcall
      have hM := x_met (As := .ref b :: As) y2 (Nat.le_of_ble_eq_true hr2) id g
      have hf : cs + mc' ≤ R.cells ∧ sl + ms' ≤ R.slots := ⟨Nat.le_trans h1 hR.2.2.1, Nat.le_trans h2 hR.2.2.2⟩
      rw [hst]
      exact x_back (va_runV (As := As) (rest := r) (C := (x_y p1).cls) ⟨hx, hb, hml, hown, hts⟩ hM ⟨callB_of (Ts := x_T) (rm := x_rm d' mc' ms') (bytes := x_b p1) (maxL := x_ml p1) (ws := x_ws p1) _ hts (x_goodM hcode) rfl rfl rfl (hts _ hini) (hts _ hk) ⟨y3, y4, y5⟩ ⟨by have := hR.1; show _ + 1 + 1 ≤ _; omega, by have := hR.2.1; show 8 + (x_ml p1 + 11) + (36 * _ + 36) ≤ _; omega⟩, hts _ (x_is_T z1 rfl), hts _ (x_is_T z2 rfl)⟩ ⟨(x_pre (As := .ref b :: As) K).1, hrecv, (x_pre (As := .ref b :: As) K).2⟩ rfl hlen hl.1 rfl (lv_room (Nat.le_of_ble_eq_true hr1)) hd hf) hS (fun v h' H1 locs1 hQ hW1 hS1 => hQ p e R s m args below meth c H1 locs1 ls Z K.1 hW1 hS1 hl ⟨h1, h2⟩)
    · exact hcall.elim
  · exact hs.elim

theorem xs_init {n : Nat} (K : x_Hy l dC dI cA base ro sv d M mc ms lv h cs sl Q p e R s m args below meth c H locs ls Z) (hd : decode (x_b M) pc = .ok (.invokespecial n, 3)) (hY : x_okY (x_mt p1) = true) (h9 : Nat.beq p1 9000 = false) (hkd : (x_mt p1).2.2.2.2.1 = 2) (hp2 : p2 = (x_mt p1).2.2.2.2.2.2.1) (hk : Cond.methodLink (x_y M).cls n (x_y p1) ∈ x_T) (hs : x_do (x_GW l dC dI cA base ro sv) ro sv d M mc ms pc lv st h cs sl Q (.invokespecial n) (pc + 3) p1 p2 kv k2) : W p l e R s m args below meth c H locs cs sl Z (F0 m pc ls st) := by
  obtain ⟨⟨⟨hx, hb, hml, hr, hown, hlk, hin, hts⟩, hST, hR, hRet⟩, hW, hS, hl, hcs⟩ := id K
  delta x_do at hs
  dsimp only at hs
  have hY2 := hY
  simp only [x_okY, Bool.and_eq_true, decide_eq_true_eq] at hY2
  obtain ⟨⟨⟨⟨⟨⟨⟨y1, y2⟩, y3⟩, y4⟩, y5⟩, y6⟩, y7⟩, y8⟩ := hY2
  have hcode : Cond.code (x_y p1) (x_b p1) (x_ml p1) (x_r p1) ∈ x_T := x_is_T y1 rfl
  have hini : Cond.initialized (x_y p1).cls ∈ x_T := x_is_T y7 rfl
  have hml17 : x_ml p1 ≤ 17 := Nat.le_of_ble_eq_true y6
  rw [hkd] at y8
  simp only [Bool.and_eq_true, decide_eq_true_eq] at y8
  obtain ⟨⟨z1, z2⟩, z3⟩ := y8
  rw [h9] at hs
  try dsimp only at hs
  split at hs
  · rename_i q1 q2 q3
    cases q2
  · rename_i As b r q1 hargs
    have hcall := hs
    obtain ⟨e1, e2⟩ := x_args_spec _ _ _ _ _ hargs
    have hst : st = As.reverse ++ .ref b :: r := by simpa using e1.symm
    have hlen : As.length = (x_mt p1).2.2.2.2.2.2.1 := by rw [← hp2]; simpa using e2
    unfold x_call at hcall
    split at hcall
    · rename_i d' hr1 hr2
      obtain ⟨mc', ms', h1, h2, g⟩ := hcall
      have hM := x_met (As := .ref b :: As) y2 (Nat.le_of_ble_eq_true hr2) id g
      have hf : cs + mc' ≤ R.cells ∧ sl + ms' ≤ R.slots := ⟨Nat.le_trans h1 hR.2.2.1, Nat.le_trans h2 hR.2.2.2⟩
      rw [hst]
      have hcb := callB_of (Ts := x_T) (rm := x_rm d' mc' ms') (bytes := x_b p1) (maxL := x_ml p1) (ws := x_ws p1) _ hts (x_goodM hcode) rfl rfl rfl (hts _ hini) (hts _ hk) ⟨y3, y4, y5⟩ ⟨by have := hR.1; show _ + 1 + 1 ≤ _; omega, by have := hR.2.1; show 8 + (x_ml p1 + 11) + (36 * _ + 36) ≤ _; omega⟩
      rw [show x_r p1 = none from z3] at hcb
      exact x_back (va_runI (As := As) (rest := r) ⟨hx, hb, hml, hown, hts⟩ hM ⟨hcb, z2, hts _ (x_is_T z1 rfl)⟩ (x_pre (As := .ref b :: As) K) rfl hlen hl.1 rfl (lv_room (Nat.le_of_ble_eq_true hr1)) hd hf) hS (fun v h' H1 locs1 hQ hW1 hS1 => hQ p e R s m args below meth c H1 locs1 ls Z K.1 hW1 hS1 hl ⟨h1, h2⟩)
    · exact hcall.elim
  · exact hs.elim

theorem xs_static {n : Nat} (K : x_Hy l dC dI cA base ro sv d M mc ms lv h cs sl Q p e R s m args below meth c H locs ls Z) (hd : decode (x_b M) pc = .ok (.invokestatic n, 3)) (hY : x_okY (x_mt p1) = true) (h9 : Nat.blt p1 9001 = true) (hkd : (x_mt p1).2.2.2.2.1 = 1) (hp2 : p2 = (x_mt p1).2.2.2.2.2.2.1) (hk : Cond.methodLink (x_y M).cls n (x_y p1) ∈ x_T) (hs : x_do (x_GW l dC dI cA base ro sv) ro sv d M mc ms pc lv st h cs sl Q (.invokestatic n) (pc + 3) p1 p2 kv k2) : W p l e R s m args below meth c H locs cs sl Z (F0 m pc ls st) := by
  obtain ⟨⟨⟨hx, hb, hml, hr, hown, hlk, hin, hts⟩, hST, hR, hRet⟩, hW, hS, hl, hcs⟩ := id K
  delta x_do at hs
  dsimp only at hs
  have hY2 := hY
  simp only [x_okY, Bool.and_eq_true, decide_eq_true_eq] at hY2
  obtain ⟨⟨⟨⟨⟨⟨⟨y1, y2⟩, y3⟩, y4⟩, y5⟩, y6⟩, y7⟩, y8⟩ := hY2
  have hcode : Cond.code (x_y p1) (x_b p1) (x_ml p1) (x_r p1) ∈ x_T := x_is_T y1 rfl
  have hini : Cond.initialized (x_y p1).cls ∈ x_T := x_is_T y7 rfl
  have hml17 : x_ml p1 ≤ 17 := Nat.le_of_ble_eq_true y6
  rw [hkd] at y8
  try dsimp only at y8
  rw [h9] at hs
  try dsimp only at hs
  split at hs
  · rename_i As r hargs
    have hcall := hs
    obtain ⟨e1, e2⟩ := x_args_spec _ _ _ _ _ hargs
    have hst : st = As.reverse ++ r := by simpa using e1.symm
    have hlen : As.length = (x_mt p1).2.2.2.2.2.2.1 := by rw [← hp2]; simpa using e2
    unfold x_call at hcall
    split at hcall
    · rename_i d' hr1 hr2
      obtain ⟨mc', ms', h1, h2, g⟩ := hcall
      have hM := x_met (As := As) y2 (Nat.le_of_ble_eq_true hr2) id g
      have hf : cs + mc' ≤ R.cells ∧ sl + ms' ≤ R.slots := ⟨Nat.le_trans h1 hR.2.2.1, Nat.le_trans h2 hR.2.2.2⟩
      rw [hst]
      exact x_back (va_runS (As := As) (rest := r) ⟨hx, hb, hml, hown, hts⟩ hM ⟨callB_of (Ts := x_T) (rm := x_rm d' mc' ms') (bytes := x_b p1) (maxL := x_ml p1) (ws := x_ws p1) _ hts (x_goodM hcode) rfl rfl rfl (hts _ hini) (hts _ hk) ⟨y3, y4, y5⟩ ⟨by have := hR.1; show _ + 1 + 1 ≤ _; omega, by have := hR.2.1; show 8 + (x_ml p1 + 11) + (36 * _ + 36) ≤ _; omega⟩, hts _ (x_is_T y8 rfl)⟩ (x_pre (As := As) K) rfl hlen hl.1 rfl (lv_room (Nat.le_of_ble_eq_true hr1)) hd hf) hS (fun v h' H1 locs1 hQ hW1 hS1 => hQ p e R s m args below meth c H1 locs1 ls Z K.1 hW1 hS1 hl ⟨h1, h2⟩)
    · exact hcall.elim
  · exact hs.elim

theorem xs_staticN {n : Nat} (K : x_Hy l dC dI cA base ro sv d M mc ms lv h cs sl Q p e R s m args below meth c H locs ls Z) (hd : decode (x_b M) pc = .ok (.invokestatic n, 3)) (hY : x_okY (x_mt p1) = true) (h9 : Nat.blt p1 9001 = true) (hkd : (x_mt p1).2.2.2.2.1 = 1) (hp2 : p2 = (x_mt p1).2.2.2.2.2.2.1) (hk : ∃ ho : String, ((x_y M).cls, n, x_y p1, ho) ∈ x_nst) (hs : x_do (x_GW l dC dI cA base ro sv) ro sv d M mc ms pc lv st h cs sl Q (.invokestatic n) (pc + 3) p1 p2 kv k2) : W p l e R s m args below meth c H locs cs sl Z (F0 m pc ls st) := by
  obtain ⟨⟨⟨hx, hb, hml, hr, hown, hlk, hin, hts⟩, hST, hR, hRet⟩, hW, hS, hl, hcs⟩ := id K
  delta x_do at hs
  dsimp only at hs
  have hY2 := hY
  simp only [x_okY, Bool.and_eq_true, decide_eq_true_eq] at hY2
  obtain ⟨⟨⟨⟨⟨⟨⟨y1, y2⟩, y3⟩, y4⟩, y5⟩, y6⟩, y7⟩, y8⟩ := hY2
  have hcode : Cond.code (x_y p1) (x_b p1) (x_ml p1) (x_r p1) ∈ x_T := x_is_T y1 rfl
  have hini : Cond.initialized (x_y p1).cls ∈ x_T := x_is_T y7 rfl
  have hml17 : x_ml p1 ≤ 17 := Nat.le_of_ble_eq_true y6
  rw [hkd] at y8
  try dsimp only at y8
  obtain ⟨ho, hk⟩ := hk
  have hnw := hST.2.2.2.2.2 _ hk
  rw [h9] at hs
  try dsimp only at hs
  split at hs
  · rename_i As r hargs
    have hcall := hs
    obtain ⟨e1, e2⟩ := x_args_spec _ _ _ _ _ hargs
    have hst : st = As.reverse ++ r := by simpa using e1.symm
    have hlen : As.length = (x_mt p1).2.2.2.2.2.2.1 := by rw [← hp2]; simpa using e2
    unfold x_call at hcall
    split at hcall
    · rename_i d' hr1 hr2
      obtain ⟨mc', ms', h1, h2, g⟩ := hcall
      have hM := x_met (As := As) y2 (Nat.le_of_ble_eq_true hr2) id g
      have hf : cs + mc' ≤ R.cells ∧ sl + ms' ≤ R.slots := ⟨Nat.le_trans h1 hR.2.2.1, Nat.le_trans h2 hR.2.2.2⟩
      rw [hst]
      exact x_back (va_runSN (As := As) (rest := r) ⟨hx, hb, hml, hown, hts⟩ hM ⟨va_cnB (Ts := x_T) (rm := x_rm d' mc' ms') (bytes := x_b p1) (maxL := x_ml p1) (ws := x_ws p1) _ hts (x_goodM hcode) rfl rfl rfl hnw (hts _ hini) ⟨y3, y4, y5⟩ ⟨by have := hR.1; show _ + 1 + 1 ≤ _; omega, by have := hR.2.1; show 8 + (x_ml p1 + 11) + (36 * _ + 36) ≤ _; omega⟩, hts _ (x_is_T y8 rfl), trivial⟩ (x_pre (As := As) K) rfl hlen hl.1 rfl (lv_room (Nat.le_of_ble_eq_true hr1)) hd hf) hS (fun v h' H1 locs1 hQ hW1 hS1 => hQ p e R s m args below meth c H1 locs1 ls Z K.1 hW1 hS1 hl ⟨h1, h2⟩)
    · exact hcall.elim
  · exact hs.elim

theorem xs_objinit {n : Nat} (K : x_Hy l dC dI cA base ro sv d M mc ms lv h cs sl Q p e R s m args below meth c H locs ls Z) (hd : decode (x_b M) pc = .ok (.invokespecial n, 3)) (h9 : Nat.beq p1 9000 = true) (hp2 : p2 = 0) (hk : Cond.methodLink (x_y M).cls n objectInit ∈ x_T) (hs : x_do (x_GW l dC dI cA base ro sv) ro sv d M mc ms pc lv st h cs sl Q (.invokespecial n) (pc + 3) p1 p2 kv k2) : W p l e R s m args below meth c H locs cs sl Z (F0 m pc ls st) := by
  obtain ⟨⟨⟨hx, hb, hml, hr, hown, hlk, hin, hts⟩, hST, hR, hRet⟩, hW, hS, hl, hcs⟩ := id K
  delta x_do at hs
  dsimp only at hs
  rw [h9, hp2] at hs
  dsimp only [x_args] at hs
  cases st with
  | nil => exact (show False from by simpa [x_args] using hs).elim
  | cons v r =>
    cases v with
    | ref a =>
      simp only [x_args] at hs
      split at hs
      · rename_i hr1
        exact W.objInit hx hb hown (hts _ hk) (hts _ x_obj1) (hts _ x_obj2) rfl (hl.1.trans hml.symm) rfl hd (by have := hR.1; omega) (by have h1 := Nat.le_of_ble_eq_true hr1; have h2 := hR.2.1; show 2 * 0 + (List.map (fun v => v.category) r).sum + 12 ≤ _; omega) (x_go K hl hs)
      · exact hs.elim
    | _ => simp [x_args] at hs

theorem xs_arraycopy {n : Nat} (K : x_Hy l dC dI cA base ro sv d M mc ms lv h cs sl Q p e R s m args below meth c H locs ls Z) (hd : decode (x_b M) pc = .ok (.invokestatic n, 3)) (h9 : Nat.beq p1 9001 = true) (hk : Cond.methodLink (x_y M).cls n arraycopyName ∈ x_T) (hs : x_do (x_GW l dC dI cA base ro sv) ro sv d M mc ms pc lv st h cs sl Q (.invokestatic n) (pc + 3) p1 p2 kv k2) : W p l e R s m args below meth c H locs cs sl Z (F0 m pc ls st) := by
  obtain ⟨⟨⟨hx, hb, hml, hr, hown, hlk, hin, hts⟩, hST, hR, hRet⟩, hW, hS, hl, hcs⟩ := id K
  delta x_do at hs
  dsimp only at hs
  have h8 : Nat.blt p1 9001 = false := by rw [Nat.eq_of_beq_eq_true h9]; rfl
  rw [h8, h9] at hs
  try dsimp only at hs
  split at hs
  · split at hs
    · rename_i hr1
      obtain ⟨t, n0, n1, f, g, ty, g1, g2, g3, g4, h1, h2, h3, h4, h5, h6, h7⟩ := hs
      obtain ⟨L, f0, hP, hD, hf⟩ := hW
      obtain ⟨hL0, k0, hk1, hk2⟩ := x_at (base := base) (dC := dC) (dI := dI) (H := H) hf g1
      obtain ⟨hL1, k1, hk3, hk4⟩ := x_at (base := base) (dC := dC) (dI := dI) (H := H) hf g2
      have hk5 := hk3
      rw [hk2] at hk1
      rw [hk4] at hk3
      have q3 : nativeFrameWords "java/lang/System" "arraycopy" 5 ≤ 17 := by decide +kernel
      exact va_copyi hx hb (hml.trans hl.1.symm) hown (hts _ hk) (hts _ x_acp1) (hts _ x_acp2) (hts _ x_acp3) hST.1 hP hD hS k0 k1 t t hk1 hk3 (x_tl_at g3) (x_tl_at g3) g4 h1 h2 h3 h4 h5 h6 (by have := hR.1; omega) (by have q1 := Nat.le_of_ble_eq_true hr1; have q2 := hR.2.1; omega) hd (fun H1 locs1 hP1 hD1 hS1 => x_go2 K (x_Wd.set (e := .inl (t, n1, .inl (va_cpy f g (Int32.toNatClampNeg _) (Int32.toNatClampNeg _) (Int32.toNatClampNeg _)))) hf hD hL1 hk5 rfl hP1 hD1) hS1 hcs (h7 _ rfl))
    · exact hs.elim
  · rename_i q1 q2
    first | (cases q1; done) | (cases q2; done) | contradiction
  · exact hs.elim

theorem xs_max {n : Nat} (K : x_Hy l dC dI cA base ro sv d M mc ms lv h cs sl Q p e R s m args below meth c H locs ls Z) (hd : decode (x_b M) pc = .ok (.invokestatic n, 3)) (h9 : p1 = 9002) (hk : Cond.methodLink (x_y M).cls n Lib.Math.max.name ∈ x_T) (hs : x_do (x_GW l dC dI cA base ro sv) ro sv d M mc ms pc lv st h cs sl Q (.invokestatic n) (pc + 3) p1 p2 kv k2) : W p l e R s m args below meth c H locs cs sl Z (F0 m pc ls st) := by
  obtain ⟨⟨⟨hx, hb, hml, hr, hown, hlk, hin, hts⟩, hST, hR, hRet⟩, hW, hS, hl, hcs⟩ := id K
  delta x_do at hs
  dsimp only at hs
  subst h9
  rw [show Nat.blt 9002 9001 = false from rfl, show Nat.beq 9002 9001 = false from rfl, show Nat.beq 9002 9002 = true from rfl, show Nat.beq 9002 9003 = false from rfl] at hs
  try dsimp only at hs
  split at hs
  · rename_i q1 q2
    first | cases q2 | cases q1
  · split at hs
    · rename_i hr1
      exact va_mmax hx hb (hml.trans hl.1.symm) hown (hts _ hk) (hts _ x_mx1) (hts _ x_mx2) (hts _ x_mx3) (by have := hR.1; omega) (by have q1 := Nat.le_of_ble_eq_true hr1; have q2 := hR.2.1; omega) (Nat.le_trans hcs.1 hR.2.2.1) (Nat.le_trans hcs.2 hR.2.2.2) hd (x_go K hl hs)
    · exact hs.elim
  · exact hs.elim

theorem xs_min {n : Nat} (K : x_Hy l dC dI cA base ro sv d M mc ms lv h cs sl Q p e R s m args below meth c H locs ls Z) (hd : decode (x_b M) pc = .ok (.invokestatic n, 3)) (h9 : p1 = 9003) (hk : Cond.methodLink (x_y M).cls n Lib.Math.min.name ∈ x_T) (hs : x_do (x_GW l dC dI cA base ro sv) ro sv d M mc ms pc lv st h cs sl Q (.invokestatic n) (pc + 3) p1 p2 kv k2) : W p l e R s m args below meth c H locs cs sl Z (F0 m pc ls st) := by
  obtain ⟨⟨⟨hx, hb, hml, hr, hown, hlk, hin, hts⟩, hST, hR, hRet⟩, hW, hS, hl, hcs⟩ := id K
  delta x_do at hs
  dsimp only at hs
  subst h9
  rw [show Nat.blt 9003 9001 = false from rfl, show Nat.beq 9003 9001 = false from rfl, show Nat.beq 9003 9002 = false from rfl, show Nat.beq 9003 9003 = true from rfl] at hs
  try dsimp only at hs
  split at hs
  · rename_i q1 q2
    first | cases q2 | cases q1
  · split at hs
    · rename_i hr1
      exact va_mmin hx hb (hml.trans hl.1.symm) hown (hts _ hk) (hts _ x_mn1) (hts _ x_mx2) (hts _ x_mn3) (by have := hR.1; omega) (by have q1 := Nat.le_of_ble_eq_true hr1; have q2 := hR.2.1; omega) (Nat.le_trans hcs.1 hR.2.2.1) (Nat.le_trans hcs.2 hR.2.2.2) hd (x_go K hl hs)
    · exact hs.elim
  · exact hs.elim

theorem xs_ireturn (K : x_Hy l dC dI cA base ro sv d M mc ms lv h cs sl Q p e R s m args below meth c H locs ls Z) (hd : decode (x_b M) pc = .ok (.ireturn, 1)) (hs : x_do (x_GW l dC dI cA base ro sv) ro sv d M mc ms pc lv st h cs sl Q (.ireturn) (pc + 1) p1 p2 kv k2) : W p l e R s m args below meth c H locs cs sl Z (F0 m pc ls st) := by
  obtain ⟨⟨⟨hx, hb, hml, hr, hown, hlk, hin, hts⟩, hST, hR, hRet⟩, hW, hS, hl, hcs⟩ := id K
  delta x_do at hs
  dsimp only at hs
  split at hs
  · rename_i x ty hrm
    exact hRet pc .ireturn (some (.int x)) h H locs ls cs sl hW hS hs.2.2.2 hs.2.1 hs.2.2.1 (Or.inl ⟨rfl, x, ty, rfl, hrm, hs.1⟩) hd
  · exact hs.elim

theorem xs_lreturn (K : x_Hy l dC dI cA base ro sv d M mc ms lv h cs sl Q p e R s m args below meth c H locs ls Z) (hd : decode (x_b M) pc = .ok (.lreturn, 1)) (hs : x_do (x_GW l dC dI cA base ro sv) ro sv d M mc ms pc lv st h cs sl Q (.lreturn) (pc + 1) p1 p2 kv k2) : W p l e R s m args below meth c H locs cs sl Z (F0 m pc ls st) := by
  obtain ⟨⟨⟨hx, hb, hml, hr, hown, hlk, hin, hts⟩, hST, hR, hRet⟩, hW, hS, hl, hcs⟩ := id K
  delta x_do at hs
  dsimp only at hs
  split at hs
  · rename_i x hrm
    exact hRet pc .lreturn (some (.long x)) h H locs ls cs sl hW hS hs.2.2 hs.1 hs.2.1 (Or.inr (Or.inl ⟨rfl, x, rfl, hrm⟩)) hd
  · exact hs.elim

theorem xs_areturn (K : x_Hy l dC dI cA base ro sv d M mc ms lv h cs sl Q p e R s m args below meth c H locs ls Z) (hd : decode (x_b M) pc = .ok (.areturn, 1)) (hs : x_do (x_GW l dC dI cA base ro sv) ro sv d M mc ms pc lv st h cs sl Q (.areturn) (pc + 1) p1 p2 kv k2) : W p l e R s m args below meth c H locs cs sl Z (F0 m pc ls st) := by
  obtain ⟨⟨⟨hx, hb, hml, hr, hown, hlk, hin, hts⟩, hST, hR, hRet⟩, hW, hS, hl, hcs⟩ := id K
  delta x_do at hs
  dsimp only at hs
  split at hs
  · rename_i a C hrm
    exact hRet pc .areturn (some (.ref a)) h H locs ls cs sl hW hS hs.2.2 hs.1 hs.2.1 (Or.inr (Or.inr (Or.inl ⟨rfl, .ref a, .object C, rfl, Or.inr ⟨a, rfl⟩, hrm, Or.inl ⟨C, rfl⟩⟩))) hd
  · rename_i C hrm
    exact hRet pc .areturn (some .null) h H locs ls cs sl hW hS hs.2.2 hs.1 hs.2.1 (Or.inr (Or.inr (Or.inl ⟨rfl, .null, .object C, rfl, Or.inl rfl, hrm, Or.inl ⟨C, rfl⟩⟩))) hd
  · rename_i a C hrm
    exact hRet pc .areturn (some (.ref a)) h H locs ls cs sl hW hS hs.2.2 hs.1 hs.2.1 (Or.inr (Or.inr (Or.inl ⟨rfl, .ref a, .array C, rfl, Or.inr ⟨a, rfl⟩, hrm, Or.inr ⟨C, rfl⟩⟩))) hd
  · rename_i C hrm
    exact hRet pc .areturn (some .null) h H locs ls cs sl hW hS hs.2.2 hs.1 hs.2.1 (Or.inr (Or.inr (Or.inl ⟨rfl, .null, .array C, rfl, Or.inl rfl, hrm, Or.inr ⟨C, rfl⟩⟩))) hd
  · exact hs.elim

theorem xs_return (K : x_Hy l dC dI cA base ro sv d M mc ms lv h cs sl Q p e R s m args below meth c H locs ls Z) (hd : decode (x_b M) pc = .ok (.return_, 1)) (hs : x_do (x_GW l dC dI cA base ro sv) ro sv d M mc ms pc lv st h cs sl Q (.return_) (pc + 1) p1 p2 kv k2) : W p l e R s m args below meth c H locs cs sl Z (F0 m pc ls st) := by
  obtain ⟨⟨⟨hx, hb, hml, hr, hown, hlk, hin, hts⟩, hST, hR, hRet⟩, hW, hS, hl, hcs⟩ := id K
  delta x_do at hs
  dsimp only at hs
  split at hs
  · rename_i hrm
    exact hRet pc .return_ none h H locs ls cs sl hW hS hs.2.2 hs.1 hs.2.1 (Or.inr (Or.inr (Or.inr ⟨rfl, rfl, hrm⟩))) hd
  · exact hs.elim

end SIMC
