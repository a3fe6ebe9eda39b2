def x_ext (t : Nat) (h h' : xH) : Prop := ∀ b e, h b = some e → b ≠ t → h' b = some e
theorem x_nw.ext {h h' : xH} {t : Nat} {as : List Nat} (hn : x_nw h h' t as) : x_ext t h h' := fun b e hb hbt => (hn.2.2.2 b hbt (fun hm => by rw [hn.2.1 b hm] at hb; cases hb)).trans hb
theorem c_X5_init {G : xG} {ro : xR} {sv : Nat → Value} (hG : x_Good G ro sv) {d t pg : Nat} {h : xH} {Q : xQ} (hp : pg ≤ 16) (ht : h t = some (.inr (5, [.null, .null]))) (hQ : ∀ h' a b, x_ext t h h' → h' t = some (.inr (5, [.ref a, .ref b])) → h' a = some (.inl (1, pg * 256, .inl fun _ => 0)) → h' b = some (.inl (2, pg, .inl fun _ => 0)) → Q none h') : G d n_X5_init 2 4112 0 [(0, .ref t), (1, .int (nI pg))] [] h 0 0 Q := by
  have e : nI pg * 256 = nI (pg * 256) := pk_mul pg 256
  have ec : (nI pg * 256).toNatClampNeg = pg * 256 := by rw [e, nI_clamp (by omega)]
  have ed : (nI pg).toNatClampNeg = pg := nI_clamp (by omega)
  repeat refine hG _ _ _ _ _ _ _ _ _ _ _ ?_
  refine ⟨by rw [e]; exact nI_pos (by omega), by rw [ec]; omega, by decide, by rw [ec]; omega, fun a ha => ?_⟩
  rintro _ rfl
  have n1 := x_fr ha ht
  repeat refine hG _ _ _ _ _ _ _ _ _ _ _ ?_
  refine ⟨_, x_old ha ht, Nat.le_of_ble_eq_true rfl, rfl, rfl, ?_⟩
  rintro _ rfl
  repeat refine hG _ _ _ _ _ _ _ _ _ _ _ ?_
  refine ⟨nI_pos (by omega), by rw [ed]; omega, by decide, by rw [ec, ed]; omega, fun b hb => ?_⟩
  rintro _ rfl
  obtain ⟨n2, hb⟩ := x_upn hb
  obtain ⟨n3, hb⟩ := x_upn hb
  repeat refine hG _ _ _ _ _ _ _ _ _ _ _ ?_
  refine ⟨_, by (repeat (first | exact x_up_self | assumption | refine (x_up_ne (by first | assumption | (apply Ne.symm; assumption))).trans ?_)), Nat.le_of_ble_eq_true rfl, rfl, rfl, ?_⟩
  rintro _ rfl
  repeat refine hG _ _ _ _ _ _ _ _ _ _ _ ?_
  refine ⟨by decide, by rw [ec, ed]; omega, hQ _ a b (fun q z hq hqt => ?_) (by (repeat (first | exact x_up_self | assumption | refine (x_up_ne (by first | assumption | (apply Ne.symm; assumption))).trans ?_))) ?_ ?_⟩
  · rw [x_up_ne hqt, x_up_ne (x_fr hb hq), x_up_ne hqt, x_up_ne (x_fr ha hq)]; exact hq
  · rw [x_up_ne (by first | assumption | (apply Ne.symm; assumption)), x_up_ne (by first | assumption | (apply Ne.symm; assumption)), x_up_ne (by first | assumption | (apply Ne.symm; assumption)), x_up_self, ec]; rfl
  · rw [x_up_ne (by first | assumption | (apply Ne.symm; assumption)), x_up_self, ed]; rfl
theorem c_X2_init {G : xG} {ro : xR} {sv : Nat → Value} (hG : x_Good G ro sv) {d t n : Nat} {h : xH} {Q : xQ} (hn : 1 ≤ n ∧ n ≤ 512) (ht : h t = some (.inr (2, [.null, .int 0, .int 0]))) (hQ : ∀ h' a, x_ext t h h' → h' t = some (.inr (2, [.ref a, .int 0, .int 0])) → h' a = some (.inl (5, n, .inr (.inr (.inr (.inr fun _ => none))))) → Q none h') : G d n_X2_init 1 512 0 [(0, .ref t), (1, .int (nI n))] [] h 0 0 Q := by
  have e : (if (1 : Int32) < nI n then nI n else 1) = nI n := by
    by_cases h1 : (1 : Int32) < nI n
    · rw [if_pos h1]
    · rw [if_neg h1]
      have h2 : ¬ 1 < n := fun q => h1 (nI_lt (a := 1) q (by omega))
      rw [show n = 1 by omega]; rfl
  have ed : (nI n).toNatClampNeg = n := nI_clamp (by omega)
  repeat refine hG _ _ _ _ _ _ _ _ _ _ _ ?_
  refine ⟨by rw [e]; exact nI_pos (by omega), by rw [e, ed]; omega, by decide, by rw [e, ed]; omega, fun a ha => ?_⟩
  rintro _ rfl
  have n1 := x_fr ha ht
  repeat refine hG _ _ _ _ _ _ _ _ _ _ _ ?_
  refine ⟨_, x_old ha ht, Nat.le_of_ble_eq_true rfl, rfl, rfl, ?_⟩
  rintro _ rfl
  repeat refine hG _ _ _ _ _ _ _ _ _ _ _ ?_
  refine ⟨by decide, by rw [e, ed]; omega, hQ _ a (fun q z hq hqt => ?_) (by (repeat (first | exact x_up_self | assumption | refine (x_up_ne (by first | assumption | (apply Ne.symm; assumption))).trans ?_))) ?_⟩
  · rw [x_up_ne hqt, x_up_ne (x_fr ha hq)]; exact hq
  · rw [x_up_ne (by first | assumption | (apply Ne.symm; assumption)), x_up_self, e, ed]
theorem c_X8_init {G : xG} {ro : xR} {sv : Nat → Value} (hG : x_Good G ro sv) {d t : Nat} {h : xH} {Q : xQ} (ht : h t = some (.inr (8, [.null, .int 0]))) (hQ : ∀ h' a, x_ext t h h' → h' t = some (.inr (8, [.ref a, .int 0])) → h' a = some (.inl (0, 4096, .inl fun _ => 0)) → Q none h') : G d n_X8_init 1 4096 0 [(0, .ref t)] [] h 0 0 Q := by
  repeat refine hG _ _ _ _ _ _ _ _ _ _ _ ?_
  refine ⟨by decide, by decide, by decide, by decide, fun a ha => ?_⟩
  rintro _ rfl
  have n1 := x_fr ha ht
  repeat refine hG _ _ _ _ _ _ _ _ _ _ _ ?_
  refine ⟨_, x_old ha ht, Nat.le_of_ble_eq_true rfl, rfl, rfl, ?_⟩
  rintro _ rfl
  repeat refine hG _ _ _ _ _ _ _ _ _ _ _ ?_
  refine ⟨by decide, by decide, hQ _ a (fun q z hq hqt => ?_) (by (repeat (first | exact x_up_self | assumption | refine (x_up_ne (by first | assumption | (apply Ne.symm; assumption))).trans ?_))) (by (repeat (first | exact x_up_self | assumption | refine (x_up_ne (by first | assumption | (apply Ne.symm; assumption))).trans ?_)))⟩
  rw [x_up_ne hqt, x_up_ne (x_fr ha hq)]; exact hq
theorem c_X0_init {G : xG} {ro : xR} {sv : Nat → Value} (hG : x_Good G ro sv) {d t mm : Nat} {h : xH} {Q : xQ} (ht : h t = some (.inr (0, [.null, .null, .null, .null, .int 0, .int 0, .int 0, .int 0, .int 0, .int 0, .int 0]))) (hQ : ∀ h' a b c, x_ext t h h' → h' t = some (.inr (0, [.ref mm, .ref a, .ref b, .ref c, .int 0, .int 0, .int 0, .int 0, .int 0, .int 0, .int 0])) → Q none h') : G (d + 1) n_X0_init 8 260 0 [(0, .ref t), (1, .ref mm)] [] h 0 0 Q := by
  repeat refine hG _ _ _ _ _ _ _ _ _ _ _ ?_
  refine ⟨_, ht, Nat.le_of_ble_eq_true rfl, rfl, rfl, ?_⟩
  rintro h1 e1
  have k1 : h1 t = some (.inr (0, [.ref mm, .null, .null, .null, .int 0, .int 0, .int 0, .int 0, .int 0, .int 0, .int 0])) := by rw [e1, x_up_self]; rfl
  have f1 : x_ext t h h1 := fun q z hq hqt => by rw [e1, x_up_ne hqt]; exact hq
  repeat refine hG _ _ _ _ _ _ _ _ _ _ _ ?_
  refine ⟨by decide, by decide, fun a ha => ?_⟩
  rintro h2 e2
  have n2 := x_fr ha k1
  have k2 : h2 t = _ := (congrFun e2 t).trans (x_old ha k1)
  have f2 : x_ext t h1 h2 := fun q z hq hqt => by rw [e2]; exact x_old ha hq
  repeat refine hG _ _ _ _ _ _ _ _ _ _ _ ?_
  refine ⟨3, 148, by decide, by decide, c_X10_init hG (by rw [e2, x_up_self]; rfl) (fun h3 b1 b2 b3 hn _ _ _ _ => ?_)⟩
  have k3 : h3 t = _ := hn.ext t _ k2 n2
  have f3 : x_ext a h2 h3 := hn.ext
  repeat refine hG _ _ _ _ _ _ _ _ _ _ _ ?_
  refine ⟨_, k3, Nat.le_of_ble_eq_true rfl, rfl, rfl, ?_⟩
  rintro h4 e4
  have k4 : h4 t = some (.inr (0, [.ref mm, .ref a, .null, .null, .int 0, .int 0, .int 0, .int 0, .int 0, .int 0, .int 0])) := by rw [e4, x_up_self]; rfl
  repeat refine hG _ _ _ _ _ _ _ _ _ _ _ ?_
  refine ⟨by decide, by decide, fun b hb => ?_⟩
  rintro h5 e5
  have n5 := x_fr hb k4
  have k5 : h5 t = _ := (congrFun e5 t).trans (x_old hb k4)
  repeat refine hG _ _ _ _ _ _ _ _ _ _ _ ?_
  refine ⟨1, 64, by decide, by decide, c_X6_init hG (by rw [e5, x_up_self]; rfl) (fun h6 c1 hn6 _ _ => ?_)⟩
  have k6 : h6 t = _ := hn6.ext t _ k5 n5
  repeat refine hG _ _ _ _ _ _ _ _ _ _ _ ?_
  refine ⟨_, k6, Nat.le_of_ble_eq_true rfl, rfl, rfl, ?_⟩
  rintro h7 e7
  have k7 : h7 t = some (.inr (0, [.ref mm, .ref a, .ref b, .null, .int 0, .int 0, .int 0, .int 0, .int 0, .int 0, .int 0])) := by rw [e7, x_up_self]; rfl
  repeat refine hG _ _ _ _ _ _ _ _ _ _ _ ?_
  refine ⟨by decide, by decide, fun c hc => ?_⟩
  rintro h8 e8
  have n8 := x_fr hc k7
  have k8 : h8 t = _ := (congrFun e8 t).trans (x_old hc k7)
  repeat refine hG _ _ _ _ _ _ _ _ _ _ _ ?_
  refine ⟨1, 32, by decide, by decide, c_X7_init hG (by rw [e8, x_up_self]; rfl) (fun h9 d1 hn9 _ _ => ?_)⟩
  have k9 : h9 t = _ := hn9.ext t _ k8 n8
  repeat refine hG _ _ _ _ _ _ _ _ _ _ _ ?_
  refine ⟨_, k9, Nat.le_of_ble_eq_true rfl, rfl, rfl, ?_⟩
  rintro h10 e10
  repeat refine hG _ _ _ _ _ _ _ _ _ _ _ ?_
  refine ⟨by decide, by decide, hQ _ a b c (fun q z hq hqt => ?_) (by rw [e10, x_up_self]; rfl)⟩
  have q1 := f1 q z hq hqt
  have qa : q ≠ a := x_fr ha q1
  have q3 := f3 q z (f2 q z q1 hqt) qa
  have q4 : h4 q = some z := by rw [e4, x_up_ne hqt]; exact q3
  have qb : q ≠ b := x_fr hb q4
  have q6 := hn6.ext q z (by rw [e5]; exact x_old hb q4) qb
  have q7 : h7 q = some z := by rw [e7, x_up_ne hqt]; exact q6
  have qc : q ≠ c := x_fr hc q7
  have q9 := hn9.ext q z (by rw [e8]; exact x_old hc q7) qc
  rw [e10, x_up_ne hqt]; exact q9
