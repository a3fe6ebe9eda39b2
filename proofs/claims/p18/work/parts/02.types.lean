abbrev xE : Type := (Nat × vp_A) ⊕ (Nat × List Value)
abbrev xH : Type := Nat → Option xE
abbrev xL : Type := List (Nat × Value)
abbrev xQ : Type := Option Value → xH → Prop
abbrev xG : Type := Nat → Nat → Nat → Nat → Nat → xL → List Value → xH → Nat → Nat → xQ → Prop
abbrev xI : Type := Jvm.ClassFile.Instr × Nat × Nat × Nat × Nat × Int32 × Int64
abbrev xM : Type := MethodName × ByteArray × Nat × Option FieldType × Nat × Nat × Nat × (Nat × Nat × Nat × Nat × Nat) × (Nat → Option xI)
abbrev xR : Type := Nat → Option (Nat × (Nat → Int32))
def x_up (h : xH) (a : Nat) (e : xE) : xH := fun j => if j = a then some e else h j
theorem x_up_self {h : xH} {a : Nat} {e : xE} : x_up h a e a = some e := if_pos rfl
theorem x_up_ne {h : xH} {a b : Nat} {e : xE} (hn : b ≠ a) : x_up h a e b = h b := if_neg hn
def x_get : xL → Nat → Option Value
  | [], _ => none
  | q :: r, i => match Nat.beq q.1 i with
    | true => some q.2
    | false => x_get r i
def x_put (lv : xL) (i : Nat) (v : Value) : xL := (i, v) :: lv.filter (fun q => !(q.1 == i) && !(q.1 + 1 == i && q.2.category == 2))
def x_put2 (lv : xL) (i : Nat) (v : Value) : xL := (i, v) :: lv.filter (fun q => !(q.1 == i) && (!(q.1 == i + 1) && !(q.1 + 1 == i && q.2.category == 2)))
def x_args : Nat → List Value → List Value → Option (List Value × List Value)
  | 0, st, acc => some (acc, st)
  | _ + 1, [], _ => none
  | n + 1, v :: st, acc => x_args n st (v :: acc)
def x_zero (ty : FieldType) (n : Nat) : vp_A := match ty with
  | .long => (n, .inr (.inl (fun _ => 0)))
  | _ => (n, .inl (fun _ => 0))
theorem x_args_spec : ∀ (n : Nat) (st acc As r : List Value), x_args n st acc = some (As, r) → As.reverse ++ r = acc.reverse ++ st ∧ As.length = acc.length + n := by
  intro n
  induction n with
  | zero =>
    intro st acc As r h
    simp only [x_args, Option.some.injEq, Prod.mk.injEq] at h
    obtain ⟨rfl, rfl⟩ := h
    exact ⟨rfl, rfl⟩
  | succ n ih =>
    intro st acc As r h
    cases st with
    | nil => simp [x_args] at h
    | cons v st =>
      obtain ⟨h1, h2⟩ := ih st (v :: acc) As r h
      refine ⟨by rw [h1]; simp, by rw [h2]; simp; omega⟩
theorem x_get_at {ls : Array Slot} {nL : Nat} {lv : xL} (h : lv_has ls nL lv) {i : Nat} {v : Value} (hg : x_get lv i = some v) : ls[i]? = some (.val v) := by
  have key : ∀ lv : xL, x_get lv i = some v → (i, v) ∈ lv := by
    intro lv
    induction lv with
    | nil => intro h; simp [x_get] at h
    | cons q r ih =>
      intro h
      unfold x_get at h
      split at h
      · rename_i hb
        have hq : q.1 = i := Nat.eq_of_beq_eq_true hb
        obtain ⟨q1, q2⟩ := q
        simp only [Option.some.injEq] at h
        subst hq; subst h
        exact List.mem_cons_self
      · exact List.mem_cons_of_mem _ (ih h)
  exact h.2.2 (i, v) (key lv hg)

