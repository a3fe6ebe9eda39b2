abbrev LC := List ((Nat × Nat) × (Nat × xE))
def MK (h0 h : xH) (t : Nat) (L : LC) : Prop := (L.map (fun p => p.2.1)).Nodup ∧ (∀ p ∈ L, h0 p.2.1 = none ∧ h p.2.1 = some p.2.2 ∧ p.2.1 ≠ t) ∧ (∀ b e, h0 b = some e → b ≠ t → h b = some e)
theorem MK.nil {h : xH} {t : Nat} : MK h h t [] := ⟨List.nodup_nil, fun p hp => absurd hp List.not_mem_nil, fun _ _ h _ => h⟩
theorem MK.put {h0 h h' : xH} {t : Nat} {L : LC} {v : xE} (M : MK h0 h t L) (e : h' = x_up h t v) : MK h0 h' t L := by
  refine ⟨M.1, fun p hp => ?_, fun b c hb hbt => ?_⟩
  · obtain ⟨a1, a2, a3⟩ := M.2.1 p hp
    exact ⟨a1, x_upo e a3 a2, a3⟩
  · exact x_upo e hbt (M.2.2 b c hb hbt)
theorem MK.fresh {h0 h h' : xH} {t a : Nat} {L : LC} {c x : xE} (M : MK h0 h t L) (ht : h t = some x) (ha : h a = none) (e : h' = x_up h a c) : MK h0 h' t L ∧ h0 a = none ∧ h' a = some c ∧ a ≠ t ∧ (∀ p ∈ L, p.2.1 ≠ a) ∧ h' t = some x := by
  have hat : a ≠ t := Ne.symm (x_fr ha ht)
  refine ⟨⟨M.1, fun p hp => ?_, fun b y hb hbt => x_upd e ha (M.2.2 b y hb hbt)⟩, ?_, x_ups e, hat, fun p hp => ?_, x_upd e ha ht⟩
  · obtain ⟨a1, a2, a3⟩ := M.2.1 p hp
    exact ⟨a1, x_upd e ha a2, a3⟩
  · cases q : h0 a with
    | none => rfl
    | some y => rw [M.2.2 a y q hat] at ha; cases ha
  · exact x_fr ha (M.2.1 p hp).2.1
theorem MK.sub {h0 h h' : xH} {t a : Nat} {L L' : LC} {x c0 c : xE} (lb : Nat × Nat) (M : MK h0 h t L) (ht : h t = some x) (h0a : h0 a = none) (ha : h a = some c0) (hat : a ≠ t) (haL : ∀ p ∈ L, p.2.1 ≠ a) (M' : MK h h' a L') (hc : h' a = some c) : MK h0 h' t ((lb, (a, c)) :: (L' ++ L)) ∧ h' t = some x := by
  refine ⟨⟨?_, fun p hp => ?_, fun b y hb hbt => ?_⟩, M'.2.2 t x ht (Ne.symm hat)⟩
  · rw [List.map_cons, List.map_append, List.nodup_cons, List.nodup_append]
    refine ⟨?_, M'.1, M.1, ?_⟩
    · rw [List.mem_append, List.mem_map, List.mem_map]
      rintro (⟨p, hp, e⟩ | ⟨p, hp, e⟩)
      · exact (M'.2.1 p hp).2.2 e
      · exact haL p hp e
    · intro u hu v hv e
      rw [List.mem_map] at hu hv
      obtain ⟨p, hp, rfl⟩ := hu
      obtain ⟨q, hq, rfl⟩ := hv
      have e : p.2.1 = q.2.1 := e
      have h1 := (M'.2.1 p hp).1
      rw [e, (M.2.1 q hq).2.1] at h1
      cases h1
  · rcases List.mem_cons.mp hp with e | hp
    · subst e; exact ⟨h0a, hc, hat⟩
    · rcases List.mem_append.mp hp with hp | hp
      · obtain ⟨a1, a2, a3⟩ := M'.2.1 p hp
        have hpt : p.2.1 ≠ t := fun q => by rw [q, ht] at a1; cases a1
        refine ⟨?_, a2, hpt⟩
        cases q : h0 p.2.1 with
        | none => rfl
        | some y => rw [M.2.2 _ y q hpt] at a1; cases a1
      · obtain ⟨a1, a2, a3⟩ := M.2.1 p hp
        exact ⟨a1, M'.2.2 _ _ a2 (haL p hp), a3⟩
  · have hb1 := M.2.2 b y hb hbt
    refine M'.2.2 b y hb1 (fun q => ?_)
    rw [q, h0a] at hb; cases hb
theorem MK.add {h0 h : xH} {t a : Nat} {L : LC} {x c : xE} (lb : Nat × Nat) (M : MK h0 h t L) (ht : h t = some x) (h0a : h0 a = none) (ha : h a = some c) (hat : a ≠ t) (haL : ∀ p ∈ L, p.2.1 ≠ a) : MK h0 h t ((lb, (a, c)) :: L) := (MK.sub (L' := []) lb M ht h0a ha hat haL MK.nil ha).1
theorem MK.nw1 {h h' : xH} {t a : Nat} {c : xE} (lb : Nat × Nat) (n : x_nw h h' t [a]) (ha : h' a = some c) : MK h h' t [(lb, (a, c))] := by
  obtain ⟨n1, n2, n3, n4⟩ := n
  refine ⟨by simp, fun p hp => ?_, fun b e hb hbt => ?_⟩
  · rw [List.mem_singleton] at hp; subst hp
    exact ⟨n2 a (by simp), ha, fun q => n3 (by rw [← q]; simp)⟩
  · rw [n4 b hbt (fun q => by rw [List.mem_singleton] at q; subst q; rw [n2 b (by simp)] at hb; cases hb)]; exact hb
theorem MK.nw3 {h h' : xH} {t a b c : Nat} {x y z : xE} (l1 l2 l3 : Nat × Nat) (n : x_nw h h' t [a, b, c]) (ha : h' a = some x) (hb : h' b = some y) (hc : h' c = some z) : MK h h' t [(l1, (a, x)), (l2, (b, y)), (l3, (c, z))] := by
  obtain ⟨n1, n2, n3, n4⟩ := n
  refine ⟨n1, fun p hp => ?_, fun q e hq hqt => ?_⟩
  · have mem : p.2.1 ∈ [a, b, c] := by
      rcases List.mem_cons.mp hp with e | hp
      · subst e; simp
      rcases List.mem_cons.mp hp with e | hp
      · subst e; simp
      rw [List.mem_singleton] at hp; subst hp; simp
    refine ⟨n2 _ mem, ?_, fun q => n3 (by rw [← q]; exact mem)⟩
    rcases List.mem_cons.mp hp with e | hp
    · subst e; exact ha
    rcases List.mem_cons.mp hp with e | hp
    · subst e; exact hb
    rw [List.mem_singleton] at hp; subst hp; exact hc
  · rw [n4 q hqt (fun m => by rw [n2 q m] at hq; cases hq)]; exact hq
theorem MK.mem {h0 h : xH} {t : Nat} {L : LC} (M : MK h0 h t L) {p : (Nat × Nat) × (Nat × xE)} (hp : p ∈ L) : h p.2.1 = some p.2.2 := (M.2.1 p hp).2.1
theorem nd_inj : ∀ {L : LC}, (L.map (fun p => p.2.1)).Nodup → ∀ p q, p ∈ L → q ∈ L → p.2.1 = q.2.1 → p = q
  | [], _, p, _, hp, _, _ => absurd hp List.not_mem_nil
  | x :: L, h, p, q, hp, hq, e => by
    rw [List.map_cons, List.nodup_cons] at h
    rcases List.mem_cons.mp hp with e1 | hp2
    · rcases List.mem_cons.mp hq with e2 | hq2
      · rw [e1, e2]
      · rw [e1] at e; exact absurd (List.mem_map.mpr ⟨q, hq2, e.symm⟩) h.1
    · rcases List.mem_cons.mp hq with e2 | hq2
      · rw [e2] at e; exact absurd (List.mem_map.mpr ⟨p, hp2, e⟩) h.1
      · exact nd_inj h.2 p q hp2 hq2 e
