theorem sp1_e {s : (Nat → Nat → Int32)} {j l : Nat} : (∀ f, f ≠ 12 → f ≠ 14 → f ≠ 53 → f ≠ 55 → f ≠ 56 → m_sp1 s j l f = s f) ∧ m_sp1 s j l 14 0 = s 9 j ∧ (∀ h, m_sp1 s j l 12 h = if h = l then 1 else s 12 h) ∧ ∀ h, m_sp1 s j l 55 h = if h = l then 0 else s 55 h := by
  refine ⟨fun f a b c d e => ?_, ?_, fun h => ?_, fun h => ?_⟩
  · unfold m_sp1; rw [u2_ne a, noCh_ne c d e, u2_ne b]
  · unfold m_sp1; rw [u2_ne (by decide), noCh_ne (by decide) (by decide) (by decide), u2_ss]
  · unfold m_sp1; rw [u2_i, noCh_ne (by decide) (by decide) (by decide), u2_ne (by decide)]
  · unfold m_sp1 m_noCh; rw [u2_ne (by decide), u2_ne (by decide), u2_i, u2_ne (by decide), u2_ne (by decide)]
theorem RR_sus {n pg rm c : Nat} {i : Int32} {z z' : CZ} {y y' : RZ} {r r' : Int32} (S : SC n pg rm c z.1) (V : CV n pg rm c y.1 y.2) (hc : c ≤ 511) (H : RR n pg rm c z y) (o : oSus n i z z' r) (p : pSus n i y y' r') : RR n pg rm (c + 1) z' y' ∧ r = r' := by
  have hn4 := V.g.1.2.2.2.2.2.2.1
  have z7 : ∀ j, j < n → z.1 7 j = y.1 7 j := fun j hj => (H.2.1 j hj).2.2.2.1
  have inj : ∀ a b, a < n → b < n → i = nI a → i = nI b → a = b := fun a b ha hb ea eb => nIv_inj (ea.symm.trans eb) (by omega) (by omega)
  have z14 : z.1 14 0 = y.1 14 0 := H.1.2.2.2.1
  have hx := H.2.2.2.2.1
  have act : ∀ j, j < n → (z.1 7 j = 2 ∨ (z.1 7 j = 1 ∧ ¬ z.1 115 j = 0)) → (SpIs y.1 j = true ∨ y.1 7 j = 2) := fun j hj w => by
    rw [z7 j hj] at w
    rcases w with w | ⟨w1, w2⟩
    · exact Or.inr w
    · rw [((H.2.1 j hj).2.2.2.2.2.2.1.1 w1).1] at w2
      exact Or.inl (decide_eq_true ⟨w1, w2⟩)
  have act' : ∀ j, j < n → (SpIs y.1 j = true ∨ y.1 7 j = 2) → (z.1 7 j = 2 ∨ (z.1 7 j = 1 ∧ ¬ z.1 115 j = 0)) := fun j hj w => by
    rw [z7 j hj]
    rcases w with w | w
    · obtain ⟨w1, w2⟩ := of_decide_eq_true w
      exact Or.inr ⟨w1, by rw [((H.2.1 j hj).2.2.2.2.2.2.1.1 w1).1]; exact w2⟩
    · exact Or.inl w
  have i113 : ∀ j, j < n → (SpIs y.1 j = true ∨ y.1 7 j = 2) → z.1 113 j = y.1 9 j := fun j hj w => by
    rcases w with w | w
    · obtain ⟨w1, w2⟩ := of_decide_eq_true w
      exact (((H.2.1 j hj).2.2.2.2.2.2.1.1 w1).2.2.2.2 w2).1
    · exact ((H.2.1 j hj).2.2.2.2.2.2.1.2.2.1 (Or.inl w)).1
  have loN : ∀ j l, l < 4 → isLO y.1 j l → l < n := fun j l hl lo => by
    rcases Nat.lt_or_ge l n with w | w
    · exact w
    · exact absurd (hx.2.2.2.2.2.2.2.2.1 l w hl).2.1 lo.2.1
  rcases p with ⟨q, ey, er⟩ | ⟨j, hj, ei, er, pc⟩
  · rcases o with ⟨e1, e2, -⟩ | ⟨-, j, hj, ei, w⟩
    · rw [e1, e2, ey, er]; exact ⟨RR_upw H (by omega), rfl⟩
    · have a : z.1 7 j = 2 ∨ (z.1 7 j = 1 ∧ ¬ z.1 115 j = 0) := by
        rcases w with ⟨w, -⟩ | ⟨w1, w2, -⟩ | ⟨w, -⟩ | ⟨l, w, -⟩
        · exact w
        · exact Or.inr ⟨w1, w2⟩
        · exact Or.inl w
        · exact Or.inl w
      obtain ⟨q1, q2⟩ := q j hj ei
      rcases act j hj a with b | b
      · rw [q1] at b; exact absurd b (by decide)
      · exact absurd b q2
  · have aj : SpIs y.1 j = true ∨ y.1 7 j = 2 := by
      rcases pc with ⟨w, -⟩ | ⟨w, -⟩ | ⟨-, w, -⟩ | ⟨l, -, w, -⟩
      · exact w
      · exact Or.inl w
      · exact Or.inr w
      · exact Or.inr w
    rcases o with ⟨-, -, w⟩ | ⟨e1, j', hj', ei', oc⟩
    · exact absurd (act' j hj aj) (w j hj ei)
    · have := inj j' j hj' hj ei' ei
      subst this
      rw [e1, er]
      refine ⟨?_, rfl⟩
      have e113 := i113 j' hj aj
      rw [e113, z14, z7 j' hj] at oc
      rcases pc with ⟨-, m, ey⟩ | ⟨w, m, ey⟩ | ⟨w, w2, m, nlo, ey⟩ | ⟨l, w, w2, m, hl, lo, ey⟩
      · rcases oc with ⟨-, -, e2⟩ | ⟨-, -, m', -⟩ | ⟨-, m', -⟩ | ⟨l, -, m', -⟩
        · rw [e2, ey]
          refine RR_cr S V hc H hj (Or.inl rfl) (fun _ _ => rfl) (fun f a b _ _ => ?_) (fun h => ?_) (fun h _ x => Or.inl ⟨rfl, ?_⟩) ?_ (Or.inl ⟨?_, ?_⟩) (EX_halt hx (by omega) aj m (by omega))
          · unfold m_halt; rw [u2_ne b, u2_ne a]
          · unfold m_halt; rw [u2_i, u2_ne (by decide)]
          · unfold m_halt; rw [u2_ne (by decide), u2_sn x]
          · unfold m_halt; rw [u2_ne (by decide), u2_ss]
          · unfold m_halt; rw [u2_ne (by decide), u2_ne (by decide)]
          · unfold m_halt; rw [u2_ne (by decide), u2_ne (by decide)]
        · exact absurd m m'
        · exact absurd m m'
        · exact absurd m m'
      · have w1 := (of_decide_eq_true w).1
        rcases oc with ⟨-, m', -⟩ | ⟨-, -, -, e2⟩ | ⟨w', -⟩ | ⟨l, w', -⟩
        · exact absurd m' m
        · rw [e2, ey, ← e113]
          exact RR_spL S (SC_up (SC_lvP hn4 (SC_fgt hn4 (SC_u 14 hn4 S (by decide) (by decide)))) (by omega)) V hc H hj w m
        · rw [w1] at w'; exact absurd w' (by decide)
        · rw [w1] at w'; exact absurd w' (by decide)
      · have hlt := sp_lt hx (show j' < 4 by omega) m (by omega)
        have lk0 : ∀ l, l < n → z.1 122 0 = nI l → False := fun l hl a => by
          rcases H.2.2.1 with ⟨-, q, -⟩ | ⟨l', hl', lk, q1, -⟩
          · rw [q] at a; exact absurd a.symm (nI_m1 (by omega))
          · rcases hx.2.2.2.1 j' (by omega) ⟨w2, hlt⟩ with ⟨l2, h2, r⟩ | r
            · exact nlo l2 h2 r
            · exact r.1 l' (by omega) lk
        rcases oc with ⟨-, m', -⟩ | ⟨w', -⟩ | ⟨-, -, -, e2⟩ | ⟨l, -, -, hl, a, -⟩
        · exact absurd m' m
        · rw [w2] at w'; exact absurd w' (by decide)
        · rw [e2, ey]
          refine RR_spB (SC_up (SC_u 7 hn4 (SC_fgt hn4 (SC_u 14 hn4 S (by decide) (by decide))) (by decide) (by decide)) (by omega)) V hc H hj w2 m (fun f a _ _ => u2_ne a) u2_ss (fun f _ a _ _ _ => u2_ne a) u2_ss (Or.inr ⟨nlo, u2_ne (by decide)⟩) (fun h hh => Or.inl ⟨by rw [u2_ne (by decide)], by rw [u2_ne (by decide)], Or.inl ⟨by rw [u2_ne (by decide)], by rw [u2_ne (by decide)]⟩⟩)
        · exact (lk0 l hl a).elim
      · have hln := loN j' l hl lo
        obtain ⟨ch1, -⟩ := RP_at H.2.2.1 hx hln hn4 lo.lk
        obtain ⟨sa, sb, sc, sd⟩ := sp1_e (s := y.1) (j := j') (l := l)
        have e12 : (∃ l', l' < 4 ∧ isLO y.1 j' l' ∧ ∀ h, m_sp1 y.1 j' l 12 h = if h = l' then 1 else y.1 12 h) ∨ ((∀ l, l < 4 → ¬ isLO y.1 j' l) ∧ m_sp1 y.1 j' l 12 = y.1 12) := Or.inl ⟨l, hl, lo, sc⟩
        rcases oc with ⟨-, m', -⟩ | ⟨w', -⟩ | ⟨-, -, no, e2⟩ | ⟨l', -, -, hl', a, a7, e2⟩
        · exact absurd m' m
        · rw [w2] at w'; exact absurd w' (by decide)
        · rw [e2, ey]
          have n7 : ¬ y.1 7 l = 1 := fun q => no ⟨l, hln, ch1, by rw [z7 l hln]; exact q⟩
          refine RR_spB (SC_up (SC_u 7 hn4 (SC_fgt hn4 (SC_u 14 hn4 S (by decide) (by decide))) (by decide) (by decide)) (by omega)) V hc H hj w2 m (fun f a _ _ => u2_ne a) u2_ss sa sb e12 (fun h hh => Or.inl ⟨by rw [u2_ne (by decide)], by rw [u2_ne (by decide)], ?_⟩)
          by_cases x : h = l
          · subst x; exact Or.inr n7
          · exact Or.inl ⟨by rw [sc, if_neg x], by rw [sd, if_neg x]⟩
        · have : l' = l := nIv_inj (a.symm.trans ch1) (by omega) (by omega)
          subst this
          rw [z7 l' hln] at a7
          rw [e2, ey]
          refine RR_spB (SC_up (SC_u 7 hn4 (SC_fgt hn4 (SC_114 hn4 (SC_u 116 hn4 (SC_u 14 hn4 S (by decide) (by decide)) (by decide) (by decide)))) (by decide) (by decide)) (by omega)) V hc H hj w2 m (fun f a b c => by rw [u2_ne b, u2_ne c, u2_ne a]) (by rw [u2_ne (by decide), u2_ne (by decide), u2_ss]) sa sb e12 (fun h hh => ?_)
          by_cases x : h = l'
          · subst x
            exact Or.inr ⟨a7, lo.2.1, by rw [u2_ne (by decide), u2_ss], by rw [sc, if_pos rfl], u2_ss, by rw [sd, if_pos rfl]⟩
          · exact Or.inl ⟨by rw [u2_sn x, u2_ne (by decide), u2_ne (by decide)], by rw [u2_ne (by decide), u2_sn x, u2_ne (by decide)], Or.inl ⟨by rw [sc, if_neg x], by rw [sd, if_neg x]⟩⟩
