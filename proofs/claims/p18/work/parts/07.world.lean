abbrev x_y (M : Nat) : MethodName := (x_mt M).1
abbrev x_b (M : Nat) : ByteArray := (x_mt M).2.1
abbrev x_ml (M : Nat) : Nat := (x_mt M).2.2.1
abbrev x_r (M : Nat) : Option FieldType := (x_mt M).2.2.2.1
def x_A (base : Nat) : Nat → Prop := fun q => base ≤ q
def x_tl (cA : Nat → ClassId) : List (ClassId × FieldType) := (List.range x_tys.length).map (fun i => (cA i, x_tys.getD i .int))
theorem x_tl_at {cA : Nat → ClassId} {t : Nat} {ty : FieldType} (h : x_tys[t]? = some ty) : (x_tl cA)[t]? = some (cA t, ty) := by
  obtain ⟨hl, he⟩ := List.getElem?_eq_some_iff.mp h
  rw [x_tl, List.getElem?_map, List.getElem?_range hl]
  simp [List.getD, h]
theorem x_tl_lt {cA : Nat → ClassId} {t : Nat} (h : t < x_tys.length) : ∃ ty, (x_tl cA)[t]? = some (cA t, ty) := ⟨_, x_tl_at (List.getElem?_eq_getElem h)⟩
def x_cv (cA : Nat → ClassId) (e : xE) : va_E := match e with
  | .inl q => .inl (cA q.1, q.2)
  | .inr o => .inr o
def x_Wd (dC : Nat → ClassId) (dI : Nat → Nat → Nat) (cA : Nat → ClassId) (base : Nat) (h : xH) (H : Heap) : Prop :=
  ∃ (L : List Nat) (f : Nat → va_E), va_P (dC, dI) vwCl (va_pl L f) H ∧ va_D (x_A base) (va_pl L f) ∧ ∀ (a : Nat) (e : xE), h a = some e → a ∈ L ∧ f a = x_cv cA e
def x_St (dC : Nat → ClassId) (dI : Nat → Nat → Nat) (cA : Nat → ClassId) (base : Nat) (ro : xR) (sv : Nat → Value) (U : State) : Prop :=
  va_K (dC, dI) vwCl (x_tl cA) U ∧ base ≤ U.heap.size ∧ (∀ (a n : Nat) (f : Nat → Int32), ro a = some (n, f) → va_T .int a n (fun j => .int (f j)) (x_A base) U U.heap) ∧ (∀ (j : Nat) (q : String × String × String), x_stt[j]? = some q → va_Z q.1 q.2.1 q.2.2 (sv j) (x_A base) U U.heap) ∧ (∀ C : String, FieldType.object C ∈ x_tys → va_AO C U) ∧ ∀ q ∈ x_nst, va_Nw (.methodLinkNest q.1 q.2.1 q.2.2.1 q.2.2.2) U
theorem x_St.move {dC : Nat → ClassId} {dI : Nat → Nat → Nat} {cA : Nat → ClassId} {base : Nat} {ro : xR} {sv : Nat → Value} {U V : State} (h : x_St dC dI cA base ro sv U) (hW : U.WarmedH V.vm) (hF : va_F (x_A base) U V) : x_St dC dI cA base ro sv V :=
  have hvm := hW.alike
  ⟨va_K.moved hvm h.1, Nat.le_trans h.2.1 hF.1, fun a n f hr => ((h.2.2.1 a n f hr).moved hvm).kept hF.2, fun j q hq => ((h.2.2.2.1 j q hq).moved hvm).kept hF.2, fun C hC => (h.2.2.2.2.1 C hC).moved hvm, fun q hq => va_Nw.warmM hW (h.2.2.2.2.2 q hq)⟩
theorem x_at {dC : Nat → ClassId} {dI : Nat → Nat → Nat} {cA : Nat → ClassId} {base : Nat} {h : xH} {H : Heap} {a : Nat} {e : xE} {L : List Nat} {f : Nat → va_E} (hf : ∀ (a : Nat) (e : xE), h a = some e → a ∈ L ∧ f a = x_cv cA e) (ha : h a = some e) : a ∈ L ∧ ∃ k : Nat, (va_pl L f)[k]? = some (a, f a) ∧ f a = x_cv cA e := by
  obtain ⟨h1, h2⟩ := hf a e ha
  obtain ⟨k, hk⟩ := va_pl_get (X := []) (f := f) h1
  exact ⟨h1, k, hk, h2⟩
theorem x_Wd.set {dC : Nat → ClassId} {dI : Nat → Nat → Nat} {cA : Nat → ClassId} {base : Nat} {h : xH} {H1 : Heap} {a k : Nat} {e : xE} {L : List Nat} {f : Nat → va_E} (hf : ∀ (a : Nat) (e : xE), h a = some e → a ∈ L ∧ f a = x_cv cA e) (hD : va_D (x_A base) (va_pl L f)) (hL : a ∈ L) (hk : (va_pl L f)[k]? = some (a, f a)) {e1 : va_E} (he : e1 = x_cv cA e)
    (hP1 : va_P (dC, dI) vwCl ((va_pl L f).set k (a, e1)) H1) (hD1 : va_D (x_A base) ((va_pl L f).set k (a, e1))) : x_Wd dC dI cA base (x_up h a e) H1 := by
  have hs := va_pl_set (X := []) (e := e1) hD hL hk
  rw [List.nil_append, List.nil_append] at hs
  rw [hs] at hP1 hD1
  refine ⟨L, va_up f a e1, hP1, hD1, fun b x hb => ?_⟩
  by_cases hba : b = a
  · subst hba
    rw [x_up_self] at hb
    cases hb
    exact ⟨hL, by rw [va_up_self, he]⟩
  · rw [x_up_ne hba] at hb
    rw [va_up_ne _ _ hba]
    exact hf b x hb
theorem x_Wd.new {dC : Nat → ClassId} {dI : Nat → Nat → Nat} {cA : Nat → ClassId} {base : Nat} {h : xH} {H1 : Heap} {a : Nat} {e : xE} {L : List Nat} {f : Nat → va_E} (hf : ∀ (a : Nat) (e : xE), h a = some e → a ∈ L ∧ f a = x_cv cA e) {e1 : va_E} (he : e1 = x_cv cA e)
    (hP1 : va_P (dC, dI) vwCl (va_pl L f ++ [(a, e1)]) H1) (hD1 : va_D (x_A base) (va_pl L f ++ [(a, e1)])) : h a = none ∧ x_Wd dC dI cA base (x_up h a e) H1 := by
  have hn : a ∉ L := by
    intro hL
    obtain ⟨k, hk⟩ := List.getElem?_of_mem (show (a, f a) ∈ va_pl L f from List.mem_map.mpr ⟨a, hL, rfl⟩)
    have hkl := (List.getElem?_eq_some_iff.mp hk).1
    have h1 : (va_pl L f ++ [(a, e1)])[k]? = some (a, f a) := by rw [List.getElem?_append_left hkl]; exact hk
    have h2 : (va_pl L f ++ [(a, e1)])[(va_pl L f).length]? = some (a, e1) := by simp
    have := hD1.1 _ _ _ _ h1 h2 rfl
    omega
  have hnone : h a = none := by
    cases hx : h a with
    | none => rfl
    | some x => exact absurd (hf a x hx).1 hn
  refine ⟨hnone, ?_⟩
  rw [va_pl_push hn] at hP1 hD1
  refine ⟨L ++ [a], va_up f a e1, hP1, hD1, fun b x hb => ?_⟩
  by_cases hba : b = a
  · subst hba
    rw [x_up_self] at hb
    cases hb
    exact ⟨List.mem_append_right _ (List.mem_singleton.mpr rfl), by rw [va_up_self, he]⟩
  · rw [x_up_ne hba] at hb
    rw [va_up_ne _ _ hba]
    exact ⟨List.mem_append_left _ (hf b x hb).1, (hf b x hb).2⟩
def x_rt (M : Nat) (i : Jvm.ClassFile.Instr) (v : Option Value) : Prop :=
  (i = .ireturn ∧ ∃ (x : Int32) (ty : FieldType), v = some (.int x) ∧ x_r M = some ty ∧ narrow ty (.int x) = .int x) ∨ (i = .lreturn ∧ ∃ x : Int64, v = some (.long x) ∧ x_r M = some .long) ∨
  (i = .areturn ∧ ∃ (y : Value) (rt : FieldType), v = some y ∧ (y = .null ∨ ∃ a, y = .ref a) ∧ x_r M = some rt ∧ ((∃ n, rt = .object n) ∨ ∃ t, rt = .array t)) ∨ (i = .return_ ∧ v = none ∧ x_r M = none)
def x_Ret (l : Launch) (dC : Nat → ClassId) (dI : Nat → Nat → Nat) (cA : Nat → ClassId) (base : Nat) (M mc ms : Nat) (Q : xQ) (p : Program) (e : Env) (R : Room) (s : State) (m : MethodId) (args : Array Value) (below : List Frame) (meth : Method) (c : Code) (Z : State → Prop) : Prop :=
  ∀ (pc : Nat) (i : Jvm.ClassFile.Instr) (v : Option Value) (h' : xH) (H' : Heap) (locs' : List Loc) (ls' : Array Slot) (cs' sl' : Nat), x_Wd dC dI cA base h' H' → va_S (x_A base) s.heap H' locs' → Q v h' → cs' ≤ mc → sl' ≤ ms → x_rt M i v → decode (x_b M) pc = .ok (i, 1) → W p l e R s m args below meth c H' locs' cs' sl' Z (F0 m pc ls' v.toList)
def x_Cx (l : Launch) (dC : Nat → ClassId) (dI : Nat → Nat → Nat) (cA : Nat → ClassId) (base : Nat) (ro : xR) (sv : Nat → Value) (d M mc ms : Nat) (Q : xQ) (p : Program) (e : Env) (R : Room) (s : State) (m : MethodId) (args : Array Value) (below : List Frame) (meth : Method) (c : Code) (Z : State → Prop) : Prop :=
  (p.tables.exec = Jvm.exec ∧ c.code = x_b M ∧ c.maxLocals = x_ml M ∧ meth.sig.returnType = x_r M ∧ s.vm.findClass (x_y M).cls = some m.cls ∧ meth.locks = false ∧ ((x_y M).name = "<init>" → meth.name = "<init>") ∧ (∀ w ∈ x_T, w.before args s = true)) ∧ x_St dC dI cA base ro sv s ∧ (d + 1 ≤ R.frames ∧ 36 * d + 36 ≤ R.locals ∧ mc ≤ R.cells ∧ ms ≤ R.slots) ∧ x_Ret l dC dI cA base M mc ms Q p e R s m args below meth c Z
def x_GW (l : Launch) (dC : Nat → ClassId) (dI : Nat → Nat → Nat) (cA : Nat → ClassId) (base : Nat) (ro : xR) (sv : Nat → Value) : xG := fun d M mc ms pc lv st h cs sl Q =>
  ∀ (p : Program) (e : Env) (R : Room) (s : State) (m : MethodId) (args : Array Value) (below : List Frame) (meth : Method) (c : Code) (H : Heap) (locs : List Loc) (ls : Array Slot) (Z : State → Prop), x_Cx l dC dI cA base ro sv d M mc ms Q p e R s m args below meth c Z → x_Wd dC dI cA base h H → va_S (x_A base) s.heap H locs → lv_has ls (x_ml M) lv → cs ≤ mc ∧ sl ≤ ms → W p l e R s m args below meth c H locs cs sl Z (F0 m pc ls st)
def x_Hy (l : Launch) (dC : Nat → ClassId) (dI : Nat → Nat → Nat) (cA : Nat → ClassId) (base : Nat) (ro : xR) (sv : Nat → Value) (d M mc ms : Nat) (lv : xL) (h : xH) (cs sl : Nat) (Q : xQ) (p : Program) (e : Env) (R : Room) (s : State) (m : MethodId) (args : Array Value) (below : List Frame) (meth : Method) (c : Code) (H : Heap) (locs : List Loc) (ls : Array Slot) (Z : State → Prop) : Prop :=
  x_Cx l dC dI cA base ro sv d M mc ms Q p e R s m args below meth c Z ∧ x_Wd dC dI cA base h H ∧ va_S (x_A base) s.heap H locs ∧ lv_has ls (x_ml M) lv ∧ cs ≤ mc ∧ sl ≤ ms
