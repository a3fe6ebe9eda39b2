theorem OLr_m {i : Nat} {oa ob : Nat → Nat} : ∀ k x, x < k → ((21, 64 * i + x), (oa x, .inr (7, [.ref (ob x), .int 0, .int 0]))) ∈ OLr i oa ob k ∧ ((22, 64 * i + x), (ob x, Z32)) ∈ OLr i oa ob k
  | 0, x, h => absurd h (by omega)
  | k + 1, x, h => by
    unfold OLr
    by_cases q : x = k
    · subst q; exact ⟨List.mem_cons_self, List.mem_cons_of_mem _ List.mem_cons_self⟩
    · obtain ⟨a, b⟩ := OLr_m (i := i) (oa := oa) (ob := ob) k x (by omega)
      exact ⟨List.mem_cons_of_mem _ (List.mem_cons_of_mem _ a), List.mem_cons_of_mem _ (List.mem_cons_of_mem _ b)⟩
theorem OLd_m {oa ob : Nat → Nat} : ∀ k x, x < k → ((26, x), (oa x, .inr (6, [.ref (ob x), .int 0, .int 0, .int 0, .int 0, .int 0]))) ∈ OLd oa ob k ∧ ((27, x), (ob x, Z64)) ∈ OLd oa ob k
  | 0, x, h => absurd h (by omega)
  | k + 1, x, h => by
    unfold OLd
    by_cases q : x = k
    · subst q; exact ⟨List.mem_cons_self, List.mem_cons_of_mem _ List.mem_cons_self⟩
    · obtain ⟨a, b⟩ := OLd_m (oa := oa) (ob := ob) k x (by omega)
      exact ⟨List.mem_cons_of_mem _ (List.mem_cons_of_mem _ a), List.mem_cons_of_mem _ (List.mem_cons_of_mem _ b)⟩
def HM (n pg rm : Nat) (c : Nat → Nat → Nat) (i : Nat) (L : LC) : Prop := (∀ k, 2 ≤ k → k ≤ 20 → ((k, i), (c k i, cI c n pg rm k i)) ∈ L) ∧ (∀ k x, (k = 21 ∨ k = 22) → x < 64 → ((k, 64 * i + x), (c k (64 * i + x), cI c n pg rm k (64 * i + x))) ∈ L)
theorem HM.mo {n pg rm i : Nat} {c : Nat → Nat → Nat} {L L' : LC} (H : HM n pg rm c i L) (h : ∀ p, p ∈ L → p ∈ L') : HM n pg rm c i L' := ⟨fun k h1 h2 => h _ (H.1 k h1 h2), fun k x h1 h2 => h _ (H.2 k x h1 h2)⟩
theorem HM_of {n pg rm i t g ib kp pl : Nat} {oa ob : Nat → Nat} {m dv rg ct mb mt a b1 b2 b3 b c1 c d1 : Nat} {L : LC} : HM n pg rm (cH i t g ib kp pl oa ob m dv rg ct mb mt a b1 b2 b3 b c1 c d1) i (((2, i), (t, .inr (4, [.int (nI i), .ref g, .ref ib, .ref kp, .int 0, .int 0, .int 0, .int 0, .int 0, .int 0, .int 0, .int 0]))) :: (XL4 pg i g ib kp pl oa ob m dv rg ct mb mt a b1 b2 b3 b c1 c d1 ++ L)) := by
  have e21 : ∀ x, cH i t g ib kp pl oa ob m dv rg ct mb mt a b1 b2 b3 b c1 c d1 21 (64 * i + x) = oa x := fun x => by
    show oa (64 * i + x - 64 * i) = _
    rw [Nat.add_sub_cancel_left]
  have e22 : ∀ x, cH i t g ib kp pl oa ob m dv rg ct mb mt a b1 b2 b3 b c1 c d1 22 (64 * i + x) = ob x := fun x => by
    show ob (64 * i + x - 64 * i) = _
    rw [Nat.add_sub_cancel_left]
  refine ⟨fun k h1 h2 => ?_, fun k x h1 h2 => ?_⟩
  · rcases (by omega : k = 2 ∨ k = 3 ∨ k = 4 ∨ k = 5 ∨ k = 6 ∨ k = 7 ∨ k = 8 ∨ k = 9 ∨ k = 10 ∨ k = 11 ∨ k = 12 ∨ k = 13 ∨ k = 14 ∨ k = 15 ∨ k = 16 ∨ k = 17 ∨ k = 18 ∨ k = 19 ∨ k = 20) with e | e | e | e | e | e | e | e | e | e | e | e | e | e | e | e | e | e | e <;> subst e
    · rw [ci_2]; exact List.mem_cons_self
    · rw [ci_3]; exact (List.mem_cons_of_mem _ (List.mem_append_left _ (List.mem_cons_of_mem _ (List.mem_append_right _ (List.mem_cons_of_mem _ (List.mem_append_right _ List.mem_cons_self))))))
    · rw [ci_4]; exact (List.mem_cons_of_mem _ (List.mem_append_left _ (List.mem_cons_of_mem _ (List.mem_append_right _ (List.mem_cons_of_mem _ (List.mem_append_right _ (List.mem_cons_of_mem _ (List.mem_append_left _ (List.mem_append_right _ (List.mem_append_right _ List.mem_cons_self))))))))))
    · rw [ci_5]; exact (List.mem_cons_of_mem _ (List.mem_append_left _ (List.mem_cons_of_mem _ (List.mem_append_right _ (List.mem_cons_of_mem _ (List.mem_append_right _ (List.mem_cons_of_mem _ (List.mem_append_left _ (List.mem_append_right _ (List.mem_append_right _ (List.mem_cons_of_mem _ (List.mem_cons_of_mem _ List.mem_cons_self))))))))))))
    · rw [ci_6]; exact (List.mem_cons_of_mem _ (List.mem_append_left _ (List.mem_cons_of_mem _ (List.mem_append_right _ (List.mem_cons_of_mem _ (List.mem_append_right _ (List.mem_cons_of_mem _ (List.mem_append_left _ (List.mem_append_right _ (List.mem_append_right _ (List.mem_cons_of_mem _ List.mem_cons_self)))))))))))
    · rw [ci_7]; exact (List.mem_cons_of_mem _ (List.mem_append_left _ (List.mem_cons_of_mem _ (List.mem_append_right _ (List.mem_cons_of_mem _ (List.mem_append_right _ (List.mem_cons_of_mem _ (List.mem_append_left _ (List.mem_append_left _ (List.mem_cons_of_mem _ (List.mem_cons_of_mem _ List.mem_cons_self)))))))))))
    · rw [ci_8]; exact (List.mem_cons_of_mem _ (List.mem_append_left _ (List.mem_cons_of_mem _ (List.mem_append_right _ (List.mem_cons_of_mem _ (List.mem_append_right _ (List.mem_cons_of_mem _ (List.mem_append_left _ (List.mem_append_right _ (List.mem_append_left _ (List.mem_cons_of_mem _ (List.mem_cons_of_mem _ (List.mem_cons_of_mem _ (List.mem_cons_of_mem _ List.mem_cons_self))))))))))))))
    · rw [ci_9]; exact (List.mem_cons_of_mem _ (List.mem_append_left _ (List.mem_cons_of_mem _ (List.mem_append_right _ (List.mem_cons_of_mem _ (List.mem_append_right _ (List.mem_cons_of_mem _ (List.mem_append_left _ (List.mem_append_right _ (List.mem_append_left _ (List.mem_cons_of_mem _ (List.mem_cons_of_mem _ (List.mem_cons_of_mem _ (List.mem_cons_of_mem _ (List.mem_cons_of_mem _ List.mem_cons_self)))))))))))))))
    · rw [ci_10]; exact (List.mem_cons_of_mem _ (List.mem_append_left _ (List.mem_cons_of_mem _ (List.mem_append_right _ (List.mem_cons_of_mem _ (List.mem_append_right _ (List.mem_cons_of_mem _ (List.mem_append_left _ (List.mem_append_right _ (List.mem_append_left _ (List.mem_cons_of_mem _ (List.mem_cons_of_mem _ (List.mem_cons_of_mem _ (List.mem_cons_of_mem _ (List.mem_cons_of_mem _ (List.mem_cons_of_mem _ List.mem_cons_self))))))))))))))))
    · rw [ci_11]; exact (List.mem_cons_of_mem _ (List.mem_append_left _ (List.mem_cons_of_mem _ (List.mem_append_right _ (List.mem_cons_of_mem _ (List.mem_append_right _ (List.mem_cons_of_mem _ (List.mem_append_left _ (List.mem_append_right _ (List.mem_append_left _ (List.mem_cons_of_mem _ (List.mem_cons_of_mem _ (List.mem_cons_of_mem _ (List.mem_cons_of_mem _ (List.mem_cons_of_mem _ (List.mem_cons_of_mem _ (List.mem_cons_of_mem _ List.mem_cons_self)))))))))))))))))
    · rw [ci_12]; exact (List.mem_cons_of_mem _ (List.mem_append_left _ (List.mem_cons_of_mem _ (List.mem_append_right _ (List.mem_cons_of_mem _ (List.mem_append_right _ (List.mem_cons_of_mem _ (List.mem_append_left _ (List.mem_append_right _ (List.mem_append_left _ (List.mem_cons_of_mem _ (List.mem_cons_of_mem _ List.mem_cons_self))))))))))))
    · rw [ci_13]; exact (List.mem_cons_of_mem _ (List.mem_append_left _ (List.mem_cons_of_mem _ (List.mem_append_right _ (List.mem_cons_of_mem _ (List.mem_append_right _ (List.mem_cons_of_mem _ (List.mem_append_left _ (List.mem_append_right _ (List.mem_append_left _ (List.mem_cons_of_mem _ (List.mem_cons_of_mem _ (List.mem_cons_of_mem _ List.mem_cons_self)))))))))))))
    · rw [ci_14]; exact (List.mem_cons_of_mem _ (List.mem_append_left _ (List.mem_cons_of_mem _ (List.mem_append_right _ (List.mem_cons_of_mem _ (List.mem_append_right _ (List.mem_cons_of_mem _ (List.mem_append_left _ (List.mem_append_right _ (List.mem_append_left _ List.mem_cons_self))))))))))
    · rw [ci_15]; exact (List.mem_cons_of_mem _ (List.mem_append_left _ (List.mem_cons_of_mem _ (List.mem_append_right _ (List.mem_cons_of_mem _ (List.mem_append_right _ (List.mem_cons_of_mem _ (List.mem_append_left _ (List.mem_append_right _ (List.mem_append_left _ (List.mem_cons_of_mem _ List.mem_cons_self)))))))))))
    · rw [ci_16]; exact (List.mem_cons_of_mem _ (List.mem_append_left _ (List.mem_cons_of_mem _ (List.mem_append_right _ (List.mem_cons_of_mem _ (List.mem_append_right _ (List.mem_cons_of_mem _ (List.mem_append_left _ (List.mem_append_left _ (List.mem_cons_of_mem _ List.mem_cons_self))))))))))
    · rw [ci_17]; exact (List.mem_cons_of_mem _ (List.mem_append_left _ (List.mem_cons_of_mem _ (List.mem_append_right _ (List.mem_cons_of_mem _ (List.mem_append_right _ (List.mem_cons_of_mem _ (List.mem_append_left _ (List.mem_append_left _ List.mem_cons_self)))))))))
    · rw [ci_18]; exact (List.mem_cons_of_mem _ (List.mem_append_left _ (List.mem_cons_of_mem _ (List.mem_append_right _ List.mem_cons_self))))
    · rw [ci_19]; exact (List.mem_cons_of_mem _ (List.mem_append_left _ (List.mem_cons_of_mem _ (List.mem_append_right _ (List.mem_cons_of_mem _ (List.mem_append_left _ List.mem_cons_self))))))
    · rw [ci_20]; simp only [e21]; exact (List.mem_cons_of_mem _ (List.mem_append_left _ List.mem_cons_self))
  · obtain ⟨q1, q2⟩ := OLr_m (i := i) (oa := oa) (ob := ob) 64 x h2
    rcases h1 with e | e <;> subst e
    · rw [ci_21, e21, e22]; exact (List.mem_cons_of_mem _ (List.mem_append_left _ (List.mem_cons_of_mem _ (List.mem_append_left _ q1))))
    · rw [ci_22, e22]; exact (List.mem_cons_of_mem _ (List.mem_append_left _ (List.mem_cons_of_mem _ (List.mem_append_left _ q2))))
set_option maxRecDepth 100000 in
theorem m_X11l {G : xG} {ro : xR} {sv : Nat → Value} (hG : x_Good G ro sv) {d t HA n pg rm t0 mc ms : Nat} {hb : xH} {T : List Value} {Q : xQ} {a1 a2 a3 : Int32} (hs0 : sv 0 = .ref t0) (hro : ∃ f, ro t0 = some (7, f)) (hp : pg ≤ 16) (hn4 : n ≤ 4) (hT : T[0]? = some (.ref HA)) (hT1 : T[1]? = some (.int (nI pg))) (hkt : t ≠ HA) : ∀ (m k cs sl : Nat) (h : xH) (cas : Nat → Nat → Nat → Nat) (L : LC), k + m = n → h t = some (.inr (11, T)) → h HA = some (.inl (4, n, .inr (.inr (.inr (.inr (trO k (fun x => some (cas x 2 x)))))))) → MK hb h HA L → (∀ i, i < k → HM n pg rm (cas i) i L) → cs + 161 * m ≤ mc → sl + 7512 * m ≤ ms → (∀ (h' : xH) (cas : Nat → Nat → Nat → Nat) (L : LC), h' t = some (.inr (11, T)) → h' HA = some (.inl (4, n, .inr (.inr (.inr (.inr (trO n (fun x => some (cas x 2 x)))))))) → MK hb h' HA L → (∀ i, i < n → HM n pg rm (cas i) i L) → G (d + 4) n_X11_init mc ms 78 [(4, .int (nI n)), (0, .ref t), (1, .int a1), (2, .int a2), (3, .int a3)] [] h' (cs + 161 * m) (sl + 7512 * m) Q) → G (d + 4) n_X11_init mc ms 42 [(4, .int (nI k)), (0, .ref t), (1, .int a1), (2, .int a2), (3, .int a3)] [] h cs sl Q := by
  intro m
  induction m with
  | zero =>
    intro k cs sl h cas L hk ht hHA M hH hcs hsl hQ
    repeat refine hG _ _ _ _ _ _ _ _ _ _ _ ?_
    refine ⟨_, _, ht, hT, ?_⟩
    repeat refine hG _ _ _ _ _ _ _ _ _ _ _ ?_
    refine ⟨n, Or.inl ⟨_, _, hHA, by decide, rfl⟩, ?_⟩
    refine hG _ _ _ _ _ _ _ _ _ _ _ ?_
    have hkn : k = n := by omega
    subst hkn
    refine ⟨fun _ => ?_, fun hc => absurd (Int32.le_refl _) hc⟩
    exact hQ h cas L ht hHA M hH
  | succ m ih =>
    intro k cs sl h cas L hk ht hHA M hH hcs hsl hQ
    repeat refine hG _ _ _ _ _ _ _ _ _ _ _ ?_
    refine ⟨_, _, ht, hT, ?_⟩
    repeat refine hG _ _ _ _ _ _ _ _ _ _ _ ?_
    refine ⟨n, Or.inl ⟨_, _, hHA, by decide, rfl⟩, ?_⟩
    repeat refine hG _ _ _ _ _ _ _ _ _ _ _ ?_
    refine ⟨fun hc => absurd hc (nI_ge (b := n) (by omega) (by omega)), fun _ => ?_⟩
    repeat refine hG _ _ _ _ _ _ _ _ _ _ _ ?_
    refine ⟨_, _, ht, hT, ?_⟩
    repeat refine hG _ _ _ _ _ _ _ _ _ _ _ ?_
    refine ⟨by omega, by show sl + 12 ≤ ms; omega, fun a ha => ?_⟩
    rintro h1 e1
    obtain ⟨M1, z1, k1, n1, l1, s1⟩ := M.fresh hHA ha e1
    have kt1 := x_upd e1 ha ht
    have nt : t ≠ a := x_fr ha ht
    repeat refine hG _ _ _ _ _ _ _ _ _ _ _ ?_
    refine ⟨_, _, kt1, hT1, ?_⟩
    repeat refine hG _ _ _ _ _ _ _ _ _ _ _ ?_
    refine ⟨160, 7500, by omega, by have hx : (x_cn 4).1 = 12 := rfl; omega, m_X4 hG (i := k) hs0 hro hp (by rw [e1, x_up_self]; rfl) (fun h2 g ib kp pl oa ob m' dv rg ct mb mt a' b1 b2 b3 b c1 c d1 N2 q2 => ?_)⟩
    obtain ⟨M2, s2⟩ := MK.sub (2, k) M1 s1 z1 k1 n1 l1 N2 q2
    have kt2 := N2.2.2 t _ kt1 nt
    repeat refine hG _ _ _ _ _ _ _ _ _ _ _ ?_
    refine ⟨_, _, _, _, _, s2, q2, rfl, vp_in_nI (by omega) (by omega), ?_⟩
    rintro h3 e3
    rw [nI_clamp (show k < 2 ^ 31 by omega), trO_s] at e3
    refine hG _ _ _ _ _ _ _ _ _ _ _ ?_
    refine hG _ _ _ _ _ _ _ _ _ _ _ ?_
    have ih1 := ih (k + 1)
    rw [nI_succ] at ih1
    refine ih1 (cs + 1 + 160) (sl + 12 + 7500) h3 (fun x => if x = k then cH k a g ib kp pl oa ob m' dv rg ct mb mt a' b1 b2 b3 b c1 c d1 else cas x) _ (by omega) (x_upo e3 hkt kt2) ?_ (M2.put e3) (fun i hi => ?_) (by omega) (by omega) (fun h' cas' L' g1 g2 g3 g4 => ?_)
    · rw [e3, x_up_self]
      have : (fun x => some (if x = k then a else cas x 2 x)) = fun x => some ((if x = k then cH k a g ib kp pl oa ob m' dv rg ct mb mt a' b1 b2 b3 b c1 c d1 else cas x) 2 x) := by
        funext x
        by_cases q : x = k
        · rw [if_pos q, if_pos q]; rfl
        · rw [if_neg q, if_neg q]
      rw [this]
    · show HM n pg rm (if i = k then _ else _) i _
      by_cases q : i = k
      · subst q; rw [if_pos rfl]; exact HM_of
      · rw [if_neg q]; exact (hH i (by omega)).mo (fun p hp => List.mem_cons_of_mem _ (List.mem_append_right _ hp))
    · have := hQ h' cas' L' g1 g2 g3 g4
      rw [show cs + 161 * (m + 1) = cs + 1 + 160 + 161 * m by omega, show sl + 7512 * (m + 1) = sl + 12 + 7500 + 7512 * m by omega] at this
      exact this
