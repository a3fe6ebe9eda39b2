theorem t2_id {τ : (Nat → Nat → Int64)} {j : Nat} : t2 τ 19 j (τ 19 j) = τ := by
  funext k i
  by_cases e : k = 19
  · subst e
    by_cases x : i = j
    · subst x; rw [t2_19s]
    · rw [t2_19 x]
  · rw [t2_ne e]
theorem RR_20 {n pg rm c j : Nat} {z : CZ} {y : RZ} (hp16 : pg ≤ 16) (hn4 : n ≤ 4) (hc : c ≤ 512) (hby : BY z.1) (Vh : ∀ h, h < n → Hw pg c y.1 h) (H : RR n pg rm c z y) (hj : j < n) : RR n pg rm c (u2 z.1 20 j 0, z.2) (u2 y.1 20 j 0, y.2) := by
  obtain ⟨ra, rt⟩ := H.2.1 j hj
  have hw : w_W pg j z.1 y.1 z.1 := ⟨ra.1, ra.2.1, ra.2.2.1, ra.2.2.2.1, ra.2.2.2.2, hby, w_F_rf⟩
  have W := w_W_1 20 (v := 0) (w := 0) hw rfl rfl
  have vF : v_F j y.1 (u2 y.1 20 j 0) := fun f i => by
    by_cases e : f = 20 ∧ i = j
    · obtain ⟨e1, e2⟩ := e
      subst e1; subst e2
      exact Or.inr (Or.inr (Or.inl ⟨by omega, by omega, by omega, by show 1 * i ≤ i; omega, by show i < 1 * i + 1; omega⟩))
    · exact Or.inl (by rw [u2_app, if_neg e])
  have R := RR_st (C := u2 z.1 20 j 0) (S1 := u2 y.1 20 j 0) (S' := u2 y.1 20 j 0) (v := y.2 19 j) hp16 hn4 hc Vh H hj (fun f i => ?_) ⟨W.1, W.2.1, W.2.2.1, W.2.2.2.1, W.2.2.2.2.1⟩ (by rw [u2_ne (by decide), u2_ne (by decide)]; exact rt.1) vF (fun _ _ => rfl) ?_ (CM_nf H.2.2.2.2.2.2 (fun f hf => u2_ne (by omega)))
  · have e19 : z.2.1 19 j = y.2 19 j := rt.2.1
    rw [t2_id, ← e19, t2_id] at R
    exact R
  · rcases W.2.2.2.2.2.2 f i with e | e
    · exact Or.inl e
    · exact Or.inr (Or.inl e)
  · have f3 := rt.2.2.2.2.2.2.2
    unfold RF3 KE k_sl gst at f3 ⊢
    rw [u2_ne (show (38 : Nat) ≠ 20 by decide), u2_ne (show (38 : Nat) ≠ 20 by decide), u2_ne (show (112 : Nat) ≠ 20 by decide), u2_ne (show (117 : Nat) ≠ 20 by decide), u2_ne (show (7 : Nat) ≠ 20 by decide), u2_ne (show (39 : Nat) ≠ 20 by decide), u2_ne (show (43 : Nat) ≠ 20 by decide), u2_ne (show (31 : Nat) ≠ 20 by decide)]
    exact f3
def NF (s : (Nat → Nat → Int32)) (j : Nat) : Prop := s 7 j = 1 → m_frozen s j = false
theorem fz_may {n pg rm c M E q j : Nat} {l : Nat → Nat} {z : CZ} {s : (Nat → Nat → Int32)} {τ : (Nat → Nat → Int64)} (inv : INV n pg rm c M E q l s τ) (hx : EX n (c + 1) s) (H : RR n pg rm (c + 1) z (s, τ)) (hj : j < n) (h7 : s 7 j = 1) : (z.1 62 0 < 2 * z.1 2 0 ∨ ∀ t, t < n → ¬ z.1 7 t = 4) ↔ m_frozen s j = false := by
  have hn4 := inv.1.1.2.2.2.2.2.2.1
  have e62 : z.1 62 0 = s 62 0 := H.1.2.2.2.2.1
  have e2 : z.1 2 0 = s 2 0 := by rw [H.1.2.2.2.2.2.2.1]; exact inv.1.1.2.2.1.symm
  have z7 : ∀ t, t < n → z.1 7 t = s 7 t := fun t ht => (H.2.1 t ht).2.2.2.1
  unfold m_frozen
  rw [decide_eq_false_iff_not, e62, e2]
  constructor
  · intro w ⟨a, b⟩
    rcases w with w | w
    · exact absurd b (Int32.not_le.mpr w)
    · rcases inv.2.2.2 with q | ⟨r, t, tr, x1, -⟩
      · rw [q.2] at a; exact nI_m1 (by omega) a
      · exact w r tr.2.2.1 (by rw [z7 r tr.2.2.1]; exact x1)
  · intro w
    by_cases q : ∃ t, t < n ∧ s 7 t = 4
    · obtain ⟨t, ht, h4⟩ := q
      have t60 := hx.2.2.2.2.2.2.1 t (by omega) h4
      have t61 := hx.2.2.2.2.2.2.2.1 (by rw [t60]; exact nI_m1 (by omega)) j (by omega) h7
      exact Or.inl (Int32.not_le.mp (fun b => w ⟨t61.symm, b⟩))
    · exact Or.inr (fun t ht h4 => q ⟨t, ht, by rw [← z7 t ht]; exact h4⟩)
theorem jr_tk {n pg rm c t j : Nat} {τ : (Nat → Nat → Int64)} (hc : c ≤ 511) (hj : j < 4) (ht : t < 2000) : ∀ (N : Nat) (s : (Nat → Nat → Int32)), JR n pg rm c j t s τ → JR n pg rm c j t (m_tk τ j N s) τ
  | 0, _, J => J
  | N + 1, s, J => by
    unfold m_tk
    by_cases q : m_tkc s τ j = true
    · rw [if_pos q]
      exact jr_tk hc hj ht N _ (((run_C hc hj t s τ ht J).1.2 q).2)
    · rw [if_neg q]; exact J
theorem tk_7 {n pg rm c t j : Nat} {τ : (Nat → Nat → Int64)} (hc : c ≤ 511) (hj : j < 4) (ht : t < 2000) : ∀ (N : Nat) (s : (Nat → Nat → Int32)), JR n pg rm c j t s τ → m_tkc (m_tk τ j N s) τ j = false ∨ N < cl (s 59 j) - cl (s 58 j)
  | 0, s, J => by
    by_cases q : m_tkc s τ j = true
    · have := (of_decide_eq_true q).2.1
      exact Or.inr (by omega)
    · exact Or.inl (by show m_tkc s τ j = false; exact Bool.eq_false_iff.mpr q)
  | N + 1, s, J => by
    unfold m_tk
    by_cases q : m_tkc s τ j = true
    · rw [if_pos q]
      obtain ⟨n1, hr, he⟩ := of_decide_eq_true q
      have J' := ((run_C hc hj t s τ ht J).1.2 q).2
      obtain ⟨l, inv, oj, h7⟩ := J
      have b59 := (inv.2.1 j hj).2.2.2.2.2.1.2.1.2
      by_cases e3 : s 7 j = 3 ∧ cl (s 58 j) + 1 = cl (s 59 j)
      · have e7 : m_take1 s j 7 j = 1 := by unfold m_take1; rw [if_pos e3, goL_e (by decide)]; exact go0_v.1
        have tf : m_tkc (m_take1 s j) τ j = false := decide_eq_false (fun w => w.1 e7)
        have : m_tk τ j N (m_take1 s j) = m_take1 s j := by
          cases N with
          | zero => rfl
          | succ N => unfold m_tk; rw [tf, if_neg (by decide)]
        rw [this]; exact Or.inl tf
      · have et : m_take1 s j = m_tk3 s j := by unfold m_take1; rw [if_neg e3]
        rcases tk_7 hc hj ht N _ J' with w | w
        · exact Or.inl w
        · refine Or.inr ?_
          rw [et, m_tk3_58, nIv_inc, cl_nI (by omega), tk3_ne (by omega)] at w
          omega
    · rw [if_neg q]; exact Or.inl (Bool.eq_false_iff.mpr q)
theorem RR_rt {ca : Nat → Nat → Nat} {n pg rm c t j : Nat} {z : CZ} {s : (Nat → Nat → Int32)} {τ : (Nat → Nat → Int64)} (hc : c ≤ 511) (ok : OKp ca n pg rm c z) (H : RR n pg rm (c + 1) z (s, τ)) (J : JR n pg rm c j t s τ) (ht : t < 2000) (hj : j < n) (nf : NF s j) : RR n pg rm (c + 1) (k_ad0 z.2.2.2 z.2.2.1 z.2.1 pg j z.1, z.2) (m_rt s τ j, τ) ∧ JR n pg rm c j t (m_rt s τ j) τ ∧ SC n pg rm c (k_ad0 z.2.2.2 z.2.2.1 z.2.1 pg j z.1) ∧ NF (m_rt s τ j) j ∧ (m_rt s τ j 7 j = 1 ∨ m_tkc (m_rt s τ j) τ j = false) ∧ (s 7 j = 1 → m_rt s τ j 7 j = 1) := by
  obtain ⟨S, hxp, Q⟩ := ok
  have J0 := J
  obtain ⟨l, inv, oj, h7⟩ := J
  have hn4 := inv.1.1.2.2.2.2.2.2.1
  have hp16 := inv.1.1.2.2.2.2.2.2.2.2.1
  have z7 : z.1 7 j = s 7 j := (H.2.1 j hj).2.2.2.1
  by_cases h1 : s 7 j = 1
  · have e1 : k_ad0 z.2.2.2 z.2.2.1 z.2.1 pg j z.1 = z.1 := by unfold k_ad0; rw [if_neg (by rw [z7, h1]; decide)]
    have e2 : m_rt s τ j = s := by unfold m_rt; rw [if_pos h1]
    rw [e1, e2]
    exact ⟨H, J0, S, nf, Or.inl h1, fun q => q⟩
  · have h23 : s 7 j = 2 ∨ s 7 j = 3 := h7.resolve_left h1
    have e121 : cl (z.1 121 j) = cl (s 59 j) - cl (s 58 j) := by
      have b59 := (inv.2.1 j (by omega)).2.2.2.2.2.1.2.1.2
      rw [((H.2.1 j hj).2.2.2.2.2.2.1.2.2.1 h23).2]; exact cl_nI (by show cl (s 59 j) - cl (s 58 j) < _; omega)
    have e1 : k_ad0 z.2.2.2 z.2.2.1 z.2.1 pg j z.1 = k_gi (k_te z.2.2.2 z.2.2.1 z.2.1 pg j (cl (s 59 j) - cl (s 58 j)) z.1) j := by unfold k_ad0; rw [if_pos (by rw [z7]; exact h23), e121]
    have e2 : m_rt s τ j = m_tk τ j (cl (s 59 j)) s := by unfold m_rt; rw [if_neg h1]
    rw [e1, e2]
    have SQ := SQ_te (τ := z.2.1) hn4 hp16 hj (cl (s 59 j) - cl (s 58 j)) z.1 S Q
    have R := RR_te hc hn4 hp16 hj (by omega) (cl (s 59 j) - cl (s 58 j)) z s (cl (s 59 j)) S Q H inv oj h23 rfl (by omega)
    have J1 := jr_tk hc (show j < 4 by omega) ht (cl (s 59 j)) s J0
    refine ⟨R, J1, SC_gi hn4 SQ.1 hj, fun w => ?_, ?_, fun q => absurd q h1⟩
    · -- goes live only where no host receives
      obtain ⟨l', inv', oj', h7'⟩ := J1
      refine (fz_may inv' R.2.2.2.2.1 R hj w).mp (Or.inr (fun u hu h4 => ?_))
      have e7u : m_tk τ j (cl (s 59 j)) s 7 u = 4 := (show k_gi (k_te z.2.2.2 z.2.2.1 z.2.1 pg j (cl (s 59 j) - cl (s 58 j)) z.1) j 7 u = m_tk τ j (cl (s 59 j)) s 7 u from (R.2.1 u hu).2.2.2.1).symm.trans h4
      have hx' : EX n (c + 1) (m_tk τ j (cl (s 59 j)) s) := R.2.2.2.2.1
      have u60 := hx'.2.2.2.2.2.2.1 u (by omega) e7u
      have u61 := hx'.2.2.2.2.2.2.2.1 (by rw [u60]; exact nI_m1 (by omega)) j (by omega) w
      have f60 : m_tk τ j (cl (s 59 j)) s 60 = s 60 ∧ m_tk τ j (cl (s 59 j)) s 61 = s 61 := by
        have : ∀ (N : Nat) (x : (Nat → Nat → Int32)), m_tk τ j N x 60 = x 60 ∧ m_tk τ j N x 61 = x 61 := fun N => by
          induction N with
          | zero => exact fun x => ⟨rfl, rfl⟩
          | succ N ih =>
            intro x
            unfold m_tk
            by_cases q : m_tkc x τ j = true
            · rw [if_pos q]
              obtain ⟨i1, i2⟩ := ih (m_take1 x j)
              have g : ∀ f, f = 60 ∨ f = 61 → m_take1 x j f = x f := fun f hf => by
                unfold m_take1
                split
                · rw [m_goLive_ne (by omega) (by omega) (by omega) (by omega) (by omega) (by omega) (by omega) (by omega) (by omega) (by omega) (by omega) (by omega) (by omega) (by omega) (by omega) (by omega) (by omega) (by omega), tk3_ne (by omega)]
                · rw [tk3_ne (by omega)]
              exact ⟨i1.trans (g 60 (by omega)), i2.trans (g 61 (by omega))⟩
            · rw [if_neg q]; exact ⟨rfl, rfl⟩
        exact this _ _
      rw [f60.1] at u60
      rw [f60.2] at u61
      rcases inv.2.2.2 with x | ⟨r, v, tr, x1, x2, x3, -⟩
      · rw [x.1] at u60; exact nI_m1 (by omega) u60.symm
      · have : v = j := nIv_inj (tr.2.1.symm.trans u61) (by have := tr.2.2.2.1; omega) (by omega)
        subst this; exact h1 x2
    · rcases tk_7 hc (show j < 4 by omega) ht (cl (s 59 j)) s J0 with w | w
      · exact Or.inr w
      · exact absurd w (by omega)
theorem go_G {n pg rm c t j : Nat} {z : CZ} {s : (Nat → Nat → Int32)} {τ : (Nat → Nat → Int64)} (hc : c ≤ 511) (S : SC n pg rm c z.1) (H : RR n pg rm (c + 1) z (s, τ)) (J : JR n pg rm c j t s τ) (hj : j < n) (nf : NF s j) : (k_may z.1 n j ↔ m_tkr s j = true) ∧ m_stuck z.1 j = m_stuck s j ∧ ((k_room (u2 z.1 20 j 0) j = false ∧ (!m_irq (u2 z.1 20 j 0) j && k_isOut (u2 z.1 20 j 0) pg j) = true) ↔ m_stall s j = true) := by
  obtain ⟨l, inv, oj, h7⟩ := J
  have hn4 := inv.1.1.2.2.2.2.2.2.1
  have hp16 := inv.1.1.2.2.2.2.2.2.2.2.1
  have hHj := inv.2.1 j (by omega)
  obtain ⟨ra, rt⟩ := H.2.1 j hj
  have z7 : z.1 7 j = s 7 j := rt.2.2.1
  have hw : w_W pg j z.1 s z.1 := ⟨ra.1, ra.2.1, ra.2.2.1, ra.2.2.2.1, ra.2.2.2.2, S.1.1, w_F_rf⟩
  have W := w_W_1 20 (v := 0) (w := 0) hw rfl rfl
  have hB1 : v_B (256 * pg) j (u2 s 20 j 0) := v_B_g hHj.1.1 (by decide) (by intro e; cases e) (by intro e; cases e) (by intro e; cases e) (by intro e; cases e) (by intro e; cases e) (by omega)
  have f1 := rt.2.2.2.2.2.1
  refine ⟨?_, w_stuck ra.1, ?_⟩
  · unfold k_may m_tkr
    rw [decide_eq_true_iff, z7]
    by_cases h1 : s 7 j = 1
    · exact ⟨fun _ => Or.inl h1, fun _ => Or.inl ⟨h1, (fz_may inv H.2.2.2.2.1 H hj h1).mpr (nf h1)⟩⟩
    · have h23 : s 7 j = 2 ∨ s 7 j = 3 := h7.resolve_left h1
      have i121 : z.1 121 j = nI (cl (s 59 j) - cl (s 58 j)) := (f1.2.2.1 h23).2
      have b59 := hHj.2.2.2.2.2.1.2.1.2
      constructor
      · intro w
        rcases w with w | w
        · exact absurd w.1 h1
        · refine Or.inr ?_
          rcases Nat.lt_or_ge (cl (s 58 j)) (cl (s 59 j)) with x | x
          · exact x
          · exact absurd (by rw [i121, show cl (s 59 j) - cl (s 58 j) = 0 by omega]; rfl) w.2
      · intro w
        refine Or.inr ⟨h23, fun x => ?_⟩
        rw [i121] at x
        have := nIv_inj (b := 0) x (by omega) (by omega)
        rcases w with w | w
        · exact h1 w
        · omega
  · have er : k_room (u2 z.1 20 j 0) j = !m_full s j := by
      unfold k_room m_full
      rw [u2_ne (by decide), u2_ne (by decide), u2_ne (by decide)]
      have e3 : z.1 3 0 = s 3 0 := by rw [H.1.2.2.2.2.2.2.2]; exact inv.1.1.2.2.2.1.symm
      refine congrArg (fun b => !b) ?_
      refine decide_eq_decide.mpr ?_
      by_cases h1 : s 7 j = 1
      · obtain ⟨i115, -, -, -, i114⟩ := f1.1 h1
        have i115 : z.1 115 j = s 11 j := i115
        rw [i115, e3]
        constructor
        · intro ⟨a, b⟩
          have := (i114 a).2
          exact ⟨h1, a, by rw [← show z.1 114 j = s 55 j from this]; exact b⟩
        · intro ⟨_, a, b⟩
          have := (i114 a).2
          exact ⟨a, by rw [show z.1 114 j = s 55 j from this]; exact b⟩
      · have i115 : z.1 115 j = 0 := (f1.2.1 h1).2.1
        constructor
        · intro w; exact absurd i115 w.1
        · intro w; exact absurd w.1 h1
    have ei : m_irq (u2 z.1 20 j 0) j = m_irq s j := by rw [irq_20.1]; exact w_irq ra.1
    have eo : k_isOut (u2 z.1 20 j 0) pg j = m_isOut (u2 s 20 j 0) j := w_isOut W hB1
    unfold m_stall
    rw [er, ei, eo]
    cases m_irq s j <;> cases m_full s j <;> cases m_isOut (u2 s 20 j 0) j <;> decide
