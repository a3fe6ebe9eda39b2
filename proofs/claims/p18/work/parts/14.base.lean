theorem x_upn {h : xH} {a b : Nat} {e : xE} (hh : x_up h a e b = none) : b ≠ a ∧ h b = none := by
  by_cases hb : b = a
  · subst hb; rw [x_up_self] at hh; cases hh
  · exact ⟨hb, by rw [x_up_ne hb] at hh; exact hh⟩
theorem x_old {h : xH} {a b : Nat} {c e : xE} (ha : h a = none) (hb : h b = some e) : x_up h a c b = some e := by
  rw [x_up_ne (fun q => by subst q; rw [ha] at hb; cases hb)]; exact hb
theorem x_fr {h : xH} {a b : Nat} {e : xE} (ha : h a = none) (hb : h b = some e) : b ≠ a := fun q => by subst q; rw [ha] at hb; cases hb
theorem x_upo {h h' : xH} {t b : Nat} {e z : xE} (he : h' = x_up h t e) (hb : b ≠ t) (hz : h b = some z) : h' b = some z := by rw [he, x_up_ne hb]; exact hz
theorem x_ups {h h' : xH} {t : Nat} {e : xE} (he : h' = x_up h t e) : h' t = some e := by rw [he, x_up_self]
theorem x_upd {h h' : xH} {a b : Nat} {c e : xE} (he : h' = x_up h a c) (ha : h a = none) (hb : h b = some e) : h' b = some e := by rw [he]; exact x_old ha hb
def x_nw (h h' : xH) (t : Nat) (as : List Nat) : Prop := as.Nodup ∧ (∀ a ∈ as, h a = none) ∧ t ∉ as ∧ ∀ b, b ≠ t → b ∉ as → h' b = h b
theorem c_X7_init {G : xG} {ro : xR} {sv : Nat → Value} (hG : x_Good G ro sv) {d t : Nat} {h : xH} {Q : xQ} (ht : h t = some (.inr (7, [.null, .int 0, .int 0]))) (hQ : ∀ h' a, x_nw h h' t [a] → h' t = some (.inr (7, [.ref a, .int 0, .int 0])) → h' a = some (.inl (1, 32, .inl fun _ => 0)) → Q none h') : G d n_X7_init 1 32 0 [(0, .ref t)] [] h 0 0 Q := by
  repeat refine hG _ _ _ _ _ _ _ _ _ _ _ ?_
  refine ⟨by decide, by decide, by decide, by decide, fun a ha => ?_⟩
  rintro _ rfl
  have n1 := x_fr ha ht
  repeat refine hG _ _ _ _ _ _ _ _ _ _ _ ?_
  refine ⟨_, x_old ha ht, Nat.le_of_ble_eq_true rfl, rfl, rfl, ?_⟩
  rintro _ rfl
  repeat refine hG _ _ _ _ _ _ _ _ _ _ _ ?_
  refine ⟨by decide, by decide, hQ _ a ⟨by simp, by simpa using ha, by simpa using n1, fun b h1 h2 => ?_⟩ (by (repeat (first | exact x_up_self | assumption | refine (x_up_ne (by first | assumption | (apply Ne.symm; assumption))).trans ?_))) (by (repeat (first | exact x_up_self | assumption | refine (x_up_ne (by first | assumption | (apply Ne.symm; assumption))).trans ?_)))⟩
  rw [x_up_ne h1, x_up_ne (by simpa using h2)]
theorem c_X6_init {G : xG} {ro : xR} {sv : Nat → Value} (hG : x_Good G ro sv) {d t : Nat} {h : xH} {Q : xQ} (ht : h t = some (.inr (6, [.null, .int 0, .int 0, .int 0, .int 0, .int 0]))) (hQ : ∀ h' a, x_nw h h' t [a] → h' t = some (.inr (6, [.ref a, .int 0, .int 0, .int 0, .int 0, .int 0])) → h' a = some (.inl (1, 64, .inl fun _ => 0)) → Q none h') : G d n_X6_init 1 64 0 [(0, .ref t)] [] h 0 0 Q := by
  repeat refine hG _ _ _ _ _ _ _ _ _ _ _ ?_
  refine ⟨by decide, by decide, by decide, by decide, fun a ha => ?_⟩
  rintro _ rfl
  have n1 := x_fr ha ht
  repeat refine hG _ _ _ _ _ _ _ _ _ _ _ ?_
  refine ⟨_, x_old ha ht, Nat.le_of_ble_eq_true rfl, rfl, rfl, ?_⟩
  rintro _ rfl
  repeat refine hG _ _ _ _ _ _ _ _ _ _ _ ?_
  refine ⟨by decide, by decide, hQ _ a ⟨by simp, by simpa using ha, by simpa using n1, fun b h1 h2 => ?_⟩ (by (repeat (first | exact x_up_self | assumption | refine (x_up_ne (by first | assumption | (apply Ne.symm; assumption))).trans ?_))) (by (repeat (first | exact x_up_self | assumption | refine (x_up_ne (by first | assumption | (apply Ne.symm; assumption))).trans ?_)))⟩
  rw [x_up_ne h1, x_up_ne (by simpa using h2)]
theorem c_X10_init {G : xG} {ro : xR} {sv : Nat → Value} (hG : x_Good G ro sv) {d t : Nat} {h : xH} {Q : xQ} (ht : h t = some (.inr (10, [.null, .null, .null, .int 0, .int 0, .int 0, .int 0]))) (hQ : ∀ h' a b c, x_nw h h' t [a, b, c] → h' t = some (.inr (10, [.ref a, .ref b, .ref c, .int 0, .int 0, .int 0, .int 0])) → h' a = some (.inl (0, 16, .inl fun _ => 0)) → h' b = some (.inl (0, 4, .inl fun _ => 0)) → h' c = some (.inl (1, 128, .inl fun _ => 0)) → Q none h') : G d n_X10_init 3 148 0 [(0, .ref t)] [] h 0 0 Q := by
  repeat refine hG _ _ _ _ _ _ _ _ _ _ _ ?_
  refine ⟨by decide, by decide, by decide, by decide, fun a ha => ?_⟩
  rintro _ rfl
  have n1 := x_fr ha ht
  repeat refine hG _ _ _ _ _ _ _ _ _ _ _ ?_
  refine ⟨_, x_old ha ht, Nat.le_of_ble_eq_true rfl, rfl, rfl, ?_⟩
  rintro _ rfl
  repeat refine hG _ _ _ _ _ _ _ _ _ _ _ ?_
  refine ⟨by decide, by decide, by decide, by decide, fun b hb => ?_⟩
  rintro _ rfl
  obtain ⟨n2, hb⟩ := x_upn hb
  obtain ⟨n3, hb⟩ := x_upn hb
  repeat refine hG _ _ _ _ _ _ _ _ _ _ _ ?_
  refine ⟨_, by (repeat (first | exact x_up_self | assumption | refine (x_up_ne (by first | assumption | (apply Ne.symm; assumption))).trans ?_)), Nat.le_of_ble_eq_true rfl, rfl, rfl, ?_⟩
  rintro _ rfl
  repeat refine hG _ _ _ _ _ _ _ _ _ _ _ ?_
  refine ⟨by decide, by decide, by decide, by decide, fun c hc => ?_⟩
  rintro _ rfl
  obtain ⟨n4, hc⟩ := x_upn hc
  obtain ⟨n5, hc⟩ := x_upn hc
  obtain ⟨-, hc⟩ := x_upn hc
  obtain ⟨n6, hc⟩ := x_upn hc
  repeat refine hG _ _ _ _ _ _ _ _ _ _ _ ?_
  refine ⟨_, by (repeat (first | exact x_up_self | assumption | refine (x_up_ne (by first | assumption | (apply Ne.symm; assumption))).trans ?_)), Nat.le_of_ble_eq_true rfl, rfl, rfl, ?_⟩
  rintro _ rfl
  repeat refine hG _ _ _ _ _ _ _ _ _ _ _ ?_
  refine ⟨by decide, by decide, hQ _ a b c ⟨?_, ?_, ?_, fun q h1 h2 => ?_⟩ (by (repeat (first | exact x_up_self | assumption | refine (x_up_ne (by first | assumption | (apply Ne.symm; assumption))).trans ?_))) (by (repeat (first | exact x_up_self | assumption | refine (x_up_ne (by first | assumption | (apply Ne.symm; assumption))).trans ?_))) (by (repeat (first | exact x_up_self | assumption | refine (x_up_ne (by first | assumption | (apply Ne.symm; assumption))).trans ?_))) (by (repeat (first | exact x_up_self | assumption | refine (x_up_ne (by first | assumption | (apply Ne.symm; assumption))).trans ?_)))⟩
  · simp [Ne.symm n3, Ne.symm n6, Ne.symm n5]
  · simp [ha, hb, hc]
  · simp [n1, Ne.symm n2, Ne.symm n4]
  · simp only [List.mem_cons, List.mem_nil_iff, or_false, not_or] at h2
    simp only [x_up_ne h1, x_up_ne h2.1, x_up_ne h2.2.1, x_up_ne h2.2.2]
