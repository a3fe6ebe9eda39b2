abbrev XL11 (n pg rm HA IM SD OU CH UW bl wt nu cp up : Nat) (oa ob : Nat → Nat) (cas : Nat → Nat → Nat → Nat) (Lh : LC) : LC := ((32, 0), (UW, .inr (2, [.ref up, .int 0, .int 0]))) :: ([((33, 0), (up, .inl (5, rm, .inr (.inr (.inr (.inr fun _ => none))))))] ++ (((30, 0), (CH, .inr (2, [.ref cp, .int 0, .int 0]))) :: ([((31, 0), (cp, .inl (5, rm, .inr (.inr (.inr (.inr fun _ => none))))))] ++ (((28, 0), (OU, .inr (8, [.ref nu, .int 0]))) :: ([((29, 0), (nu, .inl (0, 4096, .inl fun _ => 0)))] ++ (((23, 0), (SD, .inr (9, [.ref bl, .ref wt, .int 0, .int 0, .int 0]))) :: (XL9 bl wt oa ob ++ (((34, 0), (IM, .inl (1, pg * 256, .inl fun _ => 0))) :: (((1, 0), (HA, .inl (4, n, .inr (.inr (.inr (.inr (trO n (fun x => some (cas x 2 x))))))))) :: (Lh ++ []))))))))))
def cA (t HA IM SD OU CH UW bl wt nu cp up : Nat) (oa ob : Nat → Nat) (cas : Nat → Nat → Nat → Nat) : Nat → Nat → Nat := fun k j => if k = 0 then t else if k = 1 then HA else if k ≤ 20 then cas j k j else if k ≤ 22 then cas (j / 64) k j else if k = 23 then SD else if k = 24 then bl else if k = 25 then wt else if k = 26 then oa j else if k = 27 then ob j else if k = 28 then OU else if k = 29 then nu else if k = 30 then CH else if k = 31 then cp else if k = 32 then UW else if k = 33 then up else IM
theorem cA_m {n pg rm t HA IM SD OU CH UW bl wt nu cp up : Nat} {oa ob : Nat → Nat} {cas : Nat → Nat → Nat → Nat} {Lh : LC} (hH : ∀ i, i < n → HM n pg rm (cas i) i Lh) (k j : Nat) (hj : j < c_cnt n k) : ((k, j), (cA t HA IM SD OU CH UW bl wt nu cp up oa ob cas k j, cI (cA t HA IM SD OU CH UW bl wt nu cp up oa ob cas) n pg rm k j)) ∈ ((0, 0), (t, .inr (11, [.ref HA, .int (nI pg), .int (nI rm), .ref IM, .ref SD, .ref OU, .ref CH, .ref UW, .int 0, .int (-1), .int (-1), .int 0, .int 0]))) :: XL11 n pg rm HA IM SD OU CH UW bl wt nu cp up oa ob cas Lh := by
  have hk := c_k36 hj
  rcases (by omega : k = 0 ∨ k = 1 ∨ k = 2 ∨ k = 3 ∨ k = 4 ∨ k = 5 ∨ k = 6 ∨ k = 7 ∨ k = 8 ∨ k = 9 ∨ k = 10 ∨ k = 11 ∨ k = 12 ∨ k = 13 ∨ k = 14 ∨ k = 15 ∨ k = 16 ∨ k = 17 ∨ k = 18 ∨ k = 19 ∨ k = 20 ∨ k = 21 ∨ k = 22 ∨ k = 23 ∨ k = 24 ∨ k = 25 ∨ k = 26 ∨ k = 27 ∨ k = 28 ∨ k = 29 ∨ k = 30 ∨ k = 31 ∨ k = 32 ∨ k = 33 ∨ k = 34 ∨ k = 35) with e | e | e | e | e | e | e | e | e | e | e | e | e | e | e | e | e | e | e | e | e | e | e | e | e | e | e | e | e | e | e | e | e | e | e | e <;> subst e
  · have hj : j < 1 := hj
    have : j = 0 := by omega
    subst this
    rw [ci_0]; exact List.mem_cons_self
  · have hj : j < 1 := hj
    have : j = 0 := by omega
    subst this
    rw [ci_1]; exact (List.mem_cons_of_mem _ (List.mem_cons_of_mem _ (List.mem_append_right _ (List.mem_cons_of_mem _ (List.mem_append_right _ (List.mem_cons_of_mem _ (List.mem_append_right _ (List.mem_cons_of_mem _ (List.mem_append_right _ (List.mem_cons_of_mem _ List.mem_cons_self))))))))))
  · have hj : j < n := hj
    have q := (hH j hj).1 2 (by decide) (by decide)
    rw [ci_2] at q ⊢; exact (List.mem_cons_of_mem _ (List.mem_cons_of_mem _ (List.mem_append_right _ (List.mem_cons_of_mem _ (List.mem_append_right _ (List.mem_cons_of_mem _ (List.mem_append_right _ (List.mem_cons_of_mem _ (List.mem_append_right _ (List.mem_cons_of_mem _ (List.mem_cons_of_mem _ (List.mem_append_left _ q))))))))))))
  · have hj : j < n := hj
    have q := (hH j hj).1 3 (by decide) (by decide)
    rw [ci_3] at q ⊢; exact (List.mem_cons_of_mem _ (List.mem_cons_of_mem _ (List.mem_append_right _ (List.mem_cons_of_mem _ (List.mem_append_right _ (List.mem_cons_of_mem _ (List.mem_append_right _ (List.mem_cons_of_mem _ (List.mem_append_right _ (List.mem_cons_of_mem _ (List.mem_cons_of_mem _ (List.mem_append_left _ q))))))))))))
  · have hj : j < n := hj
    have q := (hH j hj).1 4 (by decide) (by decide)
    rw [ci_4] at q ⊢; exact (List.mem_cons_of_mem _ (List.mem_cons_of_mem _ (List.mem_append_right _ (List.mem_cons_of_mem _ (List.mem_append_right _ (List.mem_cons_of_mem _ (List.mem_append_right _ (List.mem_cons_of_mem _ (List.mem_append_right _ (List.mem_cons_of_mem _ (List.mem_cons_of_mem _ (List.mem_append_left _ q))))))))))))
  · have hj : j < n := hj
    have q := (hH j hj).1 5 (by decide) (by decide)
    rw [ci_5] at q ⊢; exact (List.mem_cons_of_mem _ (List.mem_cons_of_mem _ (List.mem_append_right _ (List.mem_cons_of_mem _ (List.mem_append_right _ (List.mem_cons_of_mem _ (List.mem_append_right _ (List.mem_cons_of_mem _ (List.mem_append_right _ (List.mem_cons_of_mem _ (List.mem_cons_of_mem _ (List.mem_append_left _ q))))))))))))
  · have hj : j < n := hj
    have q := (hH j hj).1 6 (by decide) (by decide)
    rw [ci_6] at q ⊢; exact (List.mem_cons_of_mem _ (List.mem_cons_of_mem _ (List.mem_append_right _ (List.mem_cons_of_mem _ (List.mem_append_right _ (List.mem_cons_of_mem _ (List.mem_append_right _ (List.mem_cons_of_mem _ (List.mem_append_right _ (List.mem_cons_of_mem _ (List.mem_cons_of_mem _ (List.mem_append_left _ q))))))))))))
  · have hj : j < n := hj
    have q := (hH j hj).1 7 (by decide) (by decide)
    rw [ci_7] at q ⊢; exact (List.mem_cons_of_mem _ (List.mem_cons_of_mem _ (List.mem_append_right _ (List.mem_cons_of_mem _ (List.mem_append_right _ (List.mem_cons_of_mem _ (List.mem_append_right _ (List.mem_cons_of_mem _ (List.mem_append_right _ (List.mem_cons_of_mem _ (List.mem_cons_of_mem _ (List.mem_append_left _ q))))))))))))
  · have hj : j < n := hj
    have q := (hH j hj).1 8 (by decide) (by decide)
    rw [ci_8] at q ⊢; exact (List.mem_cons_of_mem _ (List.mem_cons_of_mem _ (List.mem_append_right _ (List.mem_cons_of_mem _ (List.mem_append_right _ (List.mem_cons_of_mem _ (List.mem_append_right _ (List.mem_cons_of_mem _ (List.mem_append_right _ (List.mem_cons_of_mem _ (List.mem_cons_of_mem _ (List.mem_append_left _ q))))))))))))
  · have hj : j < n := hj
    have q := (hH j hj).1 9 (by decide) (by decide)
    rw [ci_9] at q ⊢; exact (List.mem_cons_of_mem _ (List.mem_cons_of_mem _ (List.mem_append_right _ (List.mem_cons_of_mem _ (List.mem_append_right _ (List.mem_cons_of_mem _ (List.mem_append_right _ (List.mem_cons_of_mem _ (List.mem_append_right _ (List.mem_cons_of_mem _ (List.mem_cons_of_mem _ (List.mem_append_left _ q))))))))))))
  · have hj : j < n := hj
    have q := (hH j hj).1 10 (by decide) (by decide)
    rw [ci_10] at q ⊢; exact (List.mem_cons_of_mem _ (List.mem_cons_of_mem _ (List.mem_append_right _ (List.mem_cons_of_mem _ (List.mem_append_right _ (List.mem_cons_of_mem _ (List.mem_append_right _ (List.mem_cons_of_mem _ (List.mem_append_right _ (List.mem_cons_of_mem _ (List.mem_cons_of_mem _ (List.mem_append_left _ q))))))))))))
  · have hj : j < n := hj
    have q := (hH j hj).1 11 (by decide) (by decide)
    rw [ci_11] at q ⊢; exact (List.mem_cons_of_mem _ (List.mem_cons_of_mem _ (List.mem_append_right _ (List.mem_cons_of_mem _ (List.mem_append_right _ (List.mem_cons_of_mem _ (List.mem_append_right _ (List.mem_cons_of_mem _ (List.mem_append_right _ (List.mem_cons_of_mem _ (List.mem_cons_of_mem _ (List.mem_append_left _ q))))))))))))
  · have hj : j < n := hj
    have q := (hH j hj).1 12 (by decide) (by decide)
    rw [ci_12] at q ⊢; exact (List.mem_cons_of_mem _ (List.mem_cons_of_mem _ (List.mem_append_right _ (List.mem_cons_of_mem _ (List.mem_append_right _ (List.mem_cons_of_mem _ (List.mem_append_right _ (List.mem_cons_of_mem _ (List.mem_append_right _ (List.mem_cons_of_mem _ (List.mem_cons_of_mem _ (List.mem_append_left _ q))))))))))))
  · have hj : j < n := hj
    have q := (hH j hj).1 13 (by decide) (by decide)
    rw [ci_13] at q ⊢; exact (List.mem_cons_of_mem _ (List.mem_cons_of_mem _ (List.mem_append_right _ (List.mem_cons_of_mem _ (List.mem_append_right _ (List.mem_cons_of_mem _ (List.mem_append_right _ (List.mem_cons_of_mem _ (List.mem_append_right _ (List.mem_cons_of_mem _ (List.mem_cons_of_mem _ (List.mem_append_left _ q))))))))))))
  · have hj : j < n := hj
    have q := (hH j hj).1 14 (by decide) (by decide)
    rw [ci_14] at q ⊢; exact (List.mem_cons_of_mem _ (List.mem_cons_of_mem _ (List.mem_append_right _ (List.mem_cons_of_mem _ (List.mem_append_right _ (List.mem_cons_of_mem _ (List.mem_append_right _ (List.mem_cons_of_mem _ (List.mem_append_right _ (List.mem_cons_of_mem _ (List.mem_cons_of_mem _ (List.mem_append_left _ q))))))))))))
  · have hj : j < n := hj
    have q := (hH j hj).1 15 (by decide) (by decide)
    rw [ci_15] at q ⊢; exact (List.mem_cons_of_mem _ (List.mem_cons_of_mem _ (List.mem_append_right _ (List.mem_cons_of_mem _ (List.mem_append_right _ (List.mem_cons_of_mem _ (List.mem_append_right _ (List.mem_cons_of_mem _ (List.mem_append_right _ (List.mem_cons_of_mem _ (List.mem_cons_of_mem _ (List.mem_append_left _ q))))))))))))
  · have hj : j < n := hj
    have q := (hH j hj).1 16 (by decide) (by decide)
    rw [ci_16] at q ⊢; exact (List.mem_cons_of_mem _ (List.mem_cons_of_mem _ (List.mem_append_right _ (List.mem_cons_of_mem _ (List.mem_append_right _ (List.mem_cons_of_mem _ (List.mem_append_right _ (List.mem_cons_of_mem _ (List.mem_append_right _ (List.mem_cons_of_mem _ (List.mem_cons_of_mem _ (List.mem_append_left _ q))))))))))))
  · have hj : j < n := hj
    have q := (hH j hj).1 17 (by decide) (by decide)
    rw [ci_17] at q ⊢; exact (List.mem_cons_of_mem _ (List.mem_cons_of_mem _ (List.mem_append_right _ (List.mem_cons_of_mem _ (List.mem_append_right _ (List.mem_cons_of_mem _ (List.mem_append_right _ (List.mem_cons_of_mem _ (List.mem_append_right _ (List.mem_cons_of_mem _ (List.mem_cons_of_mem _ (List.mem_append_left _ q))))))))))))
  · have hj : j < n := hj
    have q := (hH j hj).1 18 (by decide) (by decide)
    rw [ci_18] at q ⊢; exact (List.mem_cons_of_mem _ (List.mem_cons_of_mem _ (List.mem_append_right _ (List.mem_cons_of_mem _ (List.mem_append_right _ (List.mem_cons_of_mem _ (List.mem_append_right _ (List.mem_cons_of_mem _ (List.mem_append_right _ (List.mem_cons_of_mem _ (List.mem_cons_of_mem _ (List.mem_append_left _ q))))))))))))
  · have hj : j < n := hj
    have q := (hH j hj).1 19 (by decide) (by decide)
    rw [ci_19] at q ⊢; exact (List.mem_cons_of_mem _ (List.mem_cons_of_mem _ (List.mem_append_right _ (List.mem_cons_of_mem _ (List.mem_append_right _ (List.mem_cons_of_mem _ (List.mem_append_right _ (List.mem_cons_of_mem _ (List.mem_append_right _ (List.mem_cons_of_mem _ (List.mem_cons_of_mem _ (List.mem_append_left _ q))))))))))))
  · have hj : j < n := hj
    have q := (hH j hj).1 20 (by decide) (by decide)
    rw [ci_20] at q ⊢
    have e : trO 64 (fun x => some (cA t HA IM SD OU CH UW bl wt nu cp up oa ob cas 21 (64 * j + x))) = trO 64 (fun x => some (cas j 21 (64 * j + x))) := by
      funext x
      unfold trO
      by_cases r : x < 64
      · rw [if_pos r, if_pos r]
        show some (cas ((64 * j + x) / 64) 21 (64 * j + x)) = _
        rw [show (64 * j + x) / 64 = j by omega]
      · rw [if_neg r, if_neg r]
    rw [e]; exact (List.mem_cons_of_mem _ (List.mem_cons_of_mem _ (List.mem_append_right _ (List.mem_cons_of_mem _ (List.mem_append_right _ (List.mem_cons_of_mem _ (List.mem_append_right _ (List.mem_cons_of_mem _ (List.mem_append_right _ (List.mem_cons_of_mem _ (List.mem_cons_of_mem _ (List.mem_append_left _ q))))))))))))
  · have hj : j < 64 * n := hj
    have ej : 64 * (j / 64) + j % 64 = j := by omega
    have q := (hH (j / 64) (by omega)).2 21 (j % 64) (by decide) (by omega)
    rw [ej] at q
    rw [ci_21] at q ⊢; exact (List.mem_cons_of_mem _ (List.mem_cons_of_mem _ (List.mem_append_right _ (List.mem_cons_of_mem _ (List.mem_append_right _ (List.mem_cons_of_mem _ (List.mem_append_right _ (List.mem_cons_of_mem _ (List.mem_append_right _ (List.mem_cons_of_mem _ (List.mem_cons_of_mem _ (List.mem_append_left _ q))))))))))))
  · have hj : j < 64 * n := hj
    have ej : 64 * (j / 64) + j % 64 = j := by omega
    have q := (hH (j / 64) (by omega)).2 22 (j % 64) (by decide) (by omega)
    rw [ej] at q
    rw [ci_22] at q ⊢; exact (List.mem_cons_of_mem _ (List.mem_cons_of_mem _ (List.mem_append_right _ (List.mem_cons_of_mem _ (List.mem_append_right _ (List.mem_cons_of_mem _ (List.mem_append_right _ (List.mem_cons_of_mem _ (List.mem_append_right _ (List.mem_cons_of_mem _ (List.mem_cons_of_mem _ (List.mem_append_left _ q))))))))))))
  · have hj : j < 1 := hj
    have : j = 0 := by omega
    subst this
    rw [ci_23]; exact (List.mem_cons_of_mem _ (List.mem_cons_of_mem _ (List.mem_append_right _ (List.mem_cons_of_mem _ (List.mem_append_right _ (List.mem_cons_of_mem _ (List.mem_append_right _ List.mem_cons_self)))))))
  · have hj : j < 1 := hj
    have : j = 0 := by omega
    subst this
    rw [ci_24]; exact (List.mem_cons_of_mem _ (List.mem_cons_of_mem _ (List.mem_append_right _ (List.mem_cons_of_mem _ (List.mem_append_right _ (List.mem_cons_of_mem _ (List.mem_append_right _ (List.mem_cons_of_mem _ (List.mem_append_left _ (List.mem_cons_of_mem _ (List.mem_append_right _ List.mem_cons_self)))))))))))
  · have hj : j < 1 := hj
    have : j = 0 := by omega
    subst this
    rw [ci_25]; exact (List.mem_cons_of_mem _ (List.mem_cons_of_mem _ (List.mem_append_right _ (List.mem_cons_of_mem _ (List.mem_append_right _ (List.mem_cons_of_mem _ (List.mem_append_right _ (List.mem_cons_of_mem _ (List.mem_append_left _ List.mem_cons_self)))))))))
  · have hj : j < 128 := hj
    have q := (OLd_m (oa := oa) (ob := ob) 128 j hj).1
    rw [ci_26]; exact (List.mem_cons_of_mem _ (List.mem_cons_of_mem _ (List.mem_append_right _ (List.mem_cons_of_mem _ (List.mem_append_right _ (List.mem_cons_of_mem _ (List.mem_append_right _ (List.mem_cons_of_mem _ (List.mem_append_left _ (List.mem_cons_of_mem _ (List.mem_append_left _ q)))))))))))
  · have hj : j < 128 := hj
    have q := (OLd_m (oa := oa) (ob := ob) 128 j hj).2
    rw [ci_27]; exact (List.mem_cons_of_mem _ (List.mem_cons_of_mem _ (List.mem_append_right _ (List.mem_cons_of_mem _ (List.mem_append_right _ (List.mem_cons_of_mem _ (List.mem_append_right _ (List.mem_cons_of_mem _ (List.mem_append_left _ (List.mem_cons_of_mem _ (List.mem_append_left _ q)))))))))))
  · have hj : j < 1 := hj
    have : j = 0 := by omega
    subst this
    rw [ci_28]; exact (List.mem_cons_of_mem _ (List.mem_cons_of_mem _ (List.mem_append_right _ (List.mem_cons_of_mem _ (List.mem_append_right _ List.mem_cons_self)))))
  · have hj : j < 1 := hj
    have : j = 0 := by omega
    subst this
    rw [ci_29]; exact (List.mem_cons_of_mem _ (List.mem_cons_of_mem _ (List.mem_append_right _ (List.mem_cons_of_mem _ (List.mem_append_right _ (List.mem_cons_of_mem _ (List.mem_append_left _ List.mem_cons_self)))))))
  · have hj : j < 1 := hj
    have : j = 0 := by omega
    subst this
    rw [ci_30]; exact (List.mem_cons_of_mem _ (List.mem_cons_of_mem _ (List.mem_append_right _ List.mem_cons_self)))
  · have hj : j < 1 := hj
    have : j = 0 := by omega
    subst this
    rw [ci_31]; exact (List.mem_cons_of_mem _ (List.mem_cons_of_mem _ (List.mem_append_right _ (List.mem_cons_of_mem _ (List.mem_append_left _ List.mem_cons_self)))))
  · have hj : j < 1 := hj
    have : j = 0 := by omega
    subst this
    rw [ci_32]; exact (List.mem_cons_of_mem _ List.mem_cons_self)
  · have hj : j < 1 := hj
    have : j = 0 := by omega
    subst this
    rw [ci_33]; exact (List.mem_cons_of_mem _ (List.mem_cons_of_mem _ (List.mem_append_left _ List.mem_cons_self)))
  · have hj : j < 1 := hj
    have : j = 0 := by omega
    subst this
    rw [ci_34]; exact (List.mem_cons_of_mem _ (List.mem_cons_of_mem _ (List.mem_append_right _ (List.mem_cons_of_mem _ (List.mem_append_right _ (List.mem_cons_of_mem _ (List.mem_append_right _ (List.mem_cons_of_mem _ (List.mem_append_right _ List.mem_cons_self)))))))))
  · exact absurd hj (by show ¬ j < 0; omega)
theorem cA_rep {n pg rm t HA IM SD OU CH UW bl wt nu cp up : Nat} {oa ob : Nat → Nat} {cas : Nat → Nat → Nat → Nat} {Lh : LC} {h h' : xH} (hn : n ≤ 4) (hp : pg ≤ 16) (hr : rm ≤ 32) (M : MK h h' t (XL11 n pg rm HA IM SD OU CH UW bl wt nu cp up oa ob cas Lh)) (ht : h' t = some (.inr (11, [.ref HA, .int (nI pg), .int (nI rm), .ref IM, .ref SD, .ref OU, .ref CH, .ref UW, .int 0, .int (-1), .int (-1), .int 0, .int 0]))) (hH : ∀ i, i < n → HM n pg rm (cas i) i Lh) : RepC (cA t HA IM SD OU CH UW bl wt nu cp up oa ob cas) n pg rm (uI pg rm) tI rI h' := by
  have mem := fun k j hj => cA_m (n := n) (pg := pg) (rm := rm) (t := t) (HA := HA) (IM := IM) (SD := SD) (OU := OU) (CH := CH) (UW := UW) (bl := bl) (wt := wt) (nu := nu) (cp := cp) (up := up) (oa := oa) (ob := ob) hH k j hj
  refine ⟨fun k j hj => ?_, fun k j k' j' hj hj' e => ?_, hn, hp, hr⟩
  · rcases List.mem_cons.mp (mem k j hj) with q | q
    · have q1 := congrArg (fun p => p.2.1) q
      have q2 := congrArg (fun p => p.2.2) q
      have q1 : cA t HA IM SD OU CH UW bl wt nu cp up oa ob cas k j = t := q1
      rw [q1, ht]; exact congrArg some q2.symm
    · exact M.mem q
  · have nd : ((((0, 0), (t, (.inr (11, [.ref HA, .int (nI pg), .int (nI rm), .ref IM, .ref SD, .ref OU, .ref CH, .ref UW, .int 0, .int (-1), .int (-1), .int 0, .int 0]) : xE))) :: XL11 n pg rm HA IM SD OU CH UW bl wt nu cp up oa ob cas Lh).map (fun p => p.2.1)).Nodup := by
      rw [List.map_cons, List.nodup_cons]
      refine ⟨fun q => ?_, M.1⟩
      obtain ⟨p, hp, e⟩ := List.mem_map.mp q
      exact (M.2.1 p hp).2.2 e
    have q := nd_inj nd _ _ (mem k j hj) (mem k' j' hj') e
    have q1 := congrArg (fun p => p.1.1) q
    have q2 := congrArg (fun p => p.1.2) q
    exact ⟨q1, q2⟩
