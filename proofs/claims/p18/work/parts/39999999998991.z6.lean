theorem RA_mem {pg j : Nat} {s s' u u' : (Nat → Nat → Int32)} (H : RA pg j s u) (es : ∀ f, 16 ≤ f ∧ f ≤ 36 → s' f = s f) (eu : ∀ f, (16 ≤ f ∧ f ≤ 36) ∨ (100 ≤ f ∧ f ≤ 104) → u' f = u f) (h15 : ∀ i, i < 256 * pg → u' 15 (4096 * j + i) = s' 15 (4096 * j + i)) (hD : nI j = s' 61 0 → ∀ p, p < pg → u' 105 (16 * j + p) = s' 63 p) : RA pg j s' u' := by
  obtain ⟨h1, h2, h3, h4, h5⟩ := H
  refine ⟨fun f i hf hi q15 => ?_, ?_, ?_, ?_, hD⟩
  · have := wf_r hf
    by_cases x : f = 15
    · subst x; exact h15 i (q15 rfl)
    · rw [es f (by omega), eu f (by omega)]; exact h1 f i hf hi q15
  · unfold w_K at h2 ⊢; rw [eu 101 (by omega), eu 100 (by omega), es 33 (by omega), es 32 (by omega)]; exact h2
  · unfold w_P at h3 ⊢; rw [eu 104 (by omega), eu 102 (by omega), eu 103 (by omega), es 35 (by omega), es 34 (by omega), es 36 (by omega)]; exact h3
  · unfold w_A at h4 ⊢; rw [es 17 (by omega), es 18 (by omega)]; exact h4
theorem trl_v {σ : (Nat → Nat → Int32)} {r l p : Nat} : ∀ k i, i < k → m_trl σ r l p k 15 (4096 * r + (256 * p + i)) = (σ 15 (4096 * l + (256 * p + i))).toInt8.toInt32
  | 0, i, h => absurd h (by omega)
  | k + 1, i, h => by
    unfold m_trl
    by_cases q : i = k
    · rw [q, u2_ss]
    · rw [u2_sn (by omega)]; exact trl_v k i (by omega)
theorem trl_o {σ : (Nat → Nat → Int32)} {r l p x : Nat} : ∀ k, (x < 4096 * r + 256 * p ∨ 4096 * r + 256 * p + k ≤ x) → m_trl σ r l p k 15 x = σ 15 x
  | 0, _ => rfl
  | k + 1, h => by
    unfold m_trl
    rw [u2_sn (by omega)]; exact trl_o k (by omega)
theorem pgc_up {s s' : (Nat → Nat → Int32)} {q : Nat} (h0 : ¬ s 63 q = 0) (h1 : s' 63 q = 0) (e : ∀ i, i ≠ q → s' 63 i = s 63 i) : ∀ p, (q < p → pgc s' p = pgc s p + 1) ∧ (p ≤ q → pgc s' p = pgc s p)
  | 0 => ⟨fun h => absurd h (by omega), fun _ => rfl⟩
  | p + 1 => by
    obtain ⟨a, b⟩ := pgc_up h0 h1 e p
    unfold pgc
    refine ⟨fun h => ?_, fun h => ?_⟩
    · by_cases x : p = q
      · subst x; rw [b (Nat.le_refl _), h1, if_pos rfl, if_neg h0]
      · rw [a (by omega), e p x]; omega
    · rw [b (by omega), e p (by omega)]
theorem RR_tr1 {n pg rm c t l p : Nat} {z : CZ} {y : RZ} (V : CV n pg rm c y.1 y.2) (hc : c ≤ 511) (H : RR n pg rm c z y) (tr : TrAt y.1 n t l) (hp : p < pg) (n63 : ¬ y.1 63 p = 0) : RR n pg rm (c + 1) (u2 (k_send z.1 l t p) 62 0 (z.1 62 0 + 1), z.2) (m_tr1 y.1 t l p, y.2) := by
  have hn4 := V.g.1.2.2.2.2.2.2.1
  have hp16 : pg ≤ 16 := V.g.1.2.2.2.2.2.2.2.2.1
  obtain ⟨l00, inv⟩ := id V
  obtain ⟨hg, hh, hP, hd', hx, ht, hm⟩ := H
  obtain ⟨t60, t61, htn, hln, hlt⟩ := id tr
  have hby := INV_by inv
  have n60 : ¬ y.1 60 0 = -1 := by rw [t60]; exact nI_m1 (by omega)
  have zo : ∀ f, f ≠ 15 ∧ f ≠ 62 ∧ f ≠ 105 → u2 (k_send z.1 l t p) 62 0 (z.1 62 0 + 1) f = z.1 f := fun f h => by
    unfold k_send; rw [u2_ne h.2.1, u2_ne h.2.2, k_cp_ne h.1]
  have z62 : u2 (k_send z.1 l t p) 62 0 (z.1 62 0 + 1) 62 0 = z.1 62 0 + 1 := u2_ss
  have z105 : ∀ q, u2 (k_send z.1 l t p) 62 0 (z.1 62 0 + 1) 105 (16 * l + q) = if q = p then 0 else z.1 105 (16 * l + q) := fun q => by
    unfold k_send
    rw [u2_ne (by decide)]
    by_cases x : q = p
    · rw [if_pos x, x, u2_ss]
    · rw [if_neg x, u2_sn (by omega), k_cp_ne (by decide)]
  have z15i : ∀ i, i < 256 → u2 (k_send z.1 l t p) 62 0 (z.1 62 0 + 1) 15 (4096 * t + (256 * p + i)) = z.1 15 (4096 * l + (256 * p + i)) := fun i hi => by
    unfold k_send
    rw [u2_ne (by decide), u2_ne (by decide)]
    have := k_cp_in (σ := z.1) (A := 15) (a := 4096 * l + 256 * p) (B := 15) (b := 4096 * t + 256 * p) hi
    rw [show 4096 * t + 256 * p + i = 4096 * t + (256 * p + i) by omega, show 4096 * l + 256 * p + i = 4096 * l + (256 * p + i) by omega] at this
    exact this
  have z15o : ∀ x, (x < 4096 * t + 256 * p ∨ 4096 * t + 256 * p + 256 ≤ x) → u2 (k_send z.1 l t p) 62 0 (z.1 62 0 + 1) 15 x = z.1 15 x := fun x h => by
    unfold k_send; rw [u2_ne (by decide), u2_ne (by decide), k_cp_out h]
  have es : ∀ f, f ≠ 15 ∧ f ≠ 62 ∧ f ≠ 63 → m_tr1 y.1 t l p f = y.1 f := fun f h => by
    unfold m_tr1; rw [m_trl_ne h.1, u2_ne h.2.1, u2_ne h.2.2]
  have s62 : m_tr1 y.1 t l p 62 0 = y.1 62 0 + 1 := by unfold m_tr1; rw [m_trl_ne (by decide), u2_ss]
  have s63 : ∀ q, m_tr1 y.1 t l p 63 q = if q = p then 0 else y.1 63 q := fun q => by
    unfold m_tr1; rw [m_trl_ne (by decide), u2_ne (by decide), u2_i]
  have s15i : ∀ i, i < 256 → m_tr1 y.1 t l p 15 (4096 * t + (256 * p + i)) = y.1 15 (4096 * l + (256 * p + i)) := fun i hi => by
    unfold m_tr1; rw [trl_v 256 i hi, u2_ne (by decide), u2_ne (by decide)]; exact hby 15 _ (Or.inl rfl)
  have s15o : ∀ x, (x < 4096 * t + 256 * p ∨ 4096 * t + 256 * p + 256 ≤ x) → m_tr1 y.1 t l p 15 x = y.1 15 x := fun x h => by
    unfold m_tr1; rw [trl_o 256 h, u2_ne (by decide), u2_ne (by decide)]
  generalize u2 (k_send z.1 l t p) 62 0 (z.1 62 0 + 1) = U at *
  generalize m_tr1 y.1 t l p = s' at *
  have ag : AgE y.1 s' y.2 y.2 := AgE_ne (fun f h1 h2 => es f (by omega)) rfl
  refine ⟨?_, fun h hhn => ?_, RP_fr hP (fun f hf => zo f (by omega)) (fun _ => ⟨rfl, rfl⟩) (fun _ _ _ _ => rfl) (fun _ _ _ _ => rfl) (fun f hf => es f (by omega)) ag, RD_fr hd' (fun f h1 h2 => zo f (by omega)) (fun f h1 h2 => es f (by omega)), EX_nf hx (by omega) (fun f hf => es f (by omega)), ?_, CM_nf hm (fun f hf => es f (by omega))⟩
  · obtain ⟨g1, g2, g3, g4, g5, g6, g7, g8⟩ := hg
    show U 5 0 = s' 5 0 ∧ (∀ i, i < 256 * pg → U 6 i = s' 6 i) ∧ U 13 0 = s' 13 0 ∧ U 14 0 = s' 14 0 ∧ U 62 0 = s' 62 0 ∧ (∀ i, i < 512 → U 64 i = s' 64 i) ∧ U 2 0 = nI pg ∧ U 3 0 = nI rm
    rw [zo 5 (by decide), zo 6 (by decide), zo 13 (by decide), zo 14 (by decide), zo 64 (by decide), zo 2 (by decide), zo 3 (by decide), es 5 (by decide), es 6 (by decide), es 13 (by decide), es 14 (by decide), es 64 (by decide), z62, s62, g5]
    exact ⟨g1, g2, g3, g4, rfl, g6, g7, g8⟩
  · obtain ⟨ra, rt⟩ := hh h hhn
    refine ⟨(?_ : RA pg h s' U), RT_fr (inv.2.1 h (by omega)) (by omega) rt ⟨fun f k hf hk => ?_, rfl, fun _ => rfl, fun _ _ _ _ => rfl⟩ ⟨fun f k hf hk => ?_, rfl, fun k _ => ?_⟩ ag⟩
    · refine RA_mem ra (fun f hf => es f (by omega)) (fun f hf => zo f (by omega)) (fun i hi => ?_) (fun w q hq => ?_)
      · by_cases x : h = t ∧ 256 * p ≤ i ∧ i < 256 * p + 256
        · obtain ⟨x1, x2, x3⟩ := x
          subst x1
          rw [show i = 256 * p + (i - 256 * p) by omega, z15i _ (by omega), s15i _ (by omega)]
          exact w_gm (hh l hln).1.1 (by omega) (by omega)
        · have d : 4096 * h + i < 4096 * t + 256 * p ∨ 4096 * t + 256 * p + 256 ≤ 4096 * h + i := by
            rcases Nat.lt_trichotomy h t with q | q | q
            · exact Or.inl (by omega)
            · subst q
              rcases Nat.lt_or_ge i (256 * p) with q2 | q2
              · exact Or.inl (by omega)
              · refine Or.inr ?_
                rcases Nat.lt_or_ge i (256 * p + 256) with q3 | q3
                · exact absurd ⟨rfl, q2, q3⟩ x
                · omega
            · exact Or.inr (by omega)
          rw [z15o _ d, s15o _ d]
          exact w_gm ra.1 (by omega) hi
      · rw [es 61 (by decide), t61] at w
        have e : h = l := nIv_inj w (by omega) (by omega)
        subst e
        rw [z105, s63]
        by_cases x : q = p
        · rw [if_pos x, if_pos x]
        · rw [if_neg x, if_neg x]; exact ra.2.2.2.2 t61.symm q hq
    · have w := of_decide_eq_true hf
      show U f _ = z.1 f _
      rw [zo f (by omega)]
    · have w := of_decide_eq_true hf
      show s' f _ = y.1 f _
      rw [es f (by omega)]
    · show s' 43 _ = y.1 43 _
      rw [es 43 (by decide)]
  · show TK pg (c + 1) s'
    obtain ⟨u, P, t1, t2, t3⟩ := ht
    refine ⟨u, P, fun h hh4 g w => t1 h hh4 ?_ (fun o w1 w2 w3 => ?_), ?_, ?_⟩
    · unfold gst at g ⊢; rw [es 7 (by decide)] at g; exact g
    · refine w o (by rw [es 65 (by decide)]; exact w1) (by rw [es 66 (by decide)]; exact w2) ?_
      rw [es 67 (by decide), es 68 (by decide), es 10 (by decide)]; exact w3
    · rw [es 65 (by decide), es 66 (by decide), es 5 (by decide)]; exact t2
    · have := (pgc_up (s := y.1) (s' := s') n63 (by rw [s63, if_pos rfl]) (fun i hi => by rw [s63, if_neg hi]) pg).1 hp
      rw [es 60 (by decide), if_neg n60, this]
      rw [if_neg n60] at t3
      omega
theorem RR_tra {n pg rm c : Nat} {z z' : CZ} {y y' : RZ} {r r' : Int32} (V : CV n pg rm c y.1 y.2) (hc : c ≤ 511) (H : RR n pg rm c z y) (hpair : ∀ t l, TrAt y.1 n t l → (∀ i, i < pg → y.1 63 i = 0) → RR n pg rm (c + 1) (k_mp z.1 l t, t2 z.2.1 19 t (z.2.1 19 l), z.2.2) (m_pair y.1 t l, t2 y.2 19 t (y.2 19 l))) (o : oTra n pg z z' r) (p : pTra n pg y y' r') : RR n pg rm (c + 1) z' y' ∧ r = r' := by
  have hn4 := V.g.1.2.2.2.2.2.2.1
  have hp16 : pg ≤ 16 := V.g.1.2.2.2.2.2.2.2.2.1
  have tu : ∀ t l t' l', TrAt y.1 n t l → TrAt y.1 n t' l' → t' = t ∧ l' = l := fun t l t' l' a b => ⟨nIv_inj (b.1.symm.trans a.1) (by have := b.2.2.1; omega) (by have := a.2.2.1; omega), nIv_inj (b.2.1.symm.trans a.2.1) (by have := b.2.2.2.1; omega) (by have := a.2.2.2.1; omega)⟩
  rcases RR_rcv V H with ⟨q1, q2⟩ | ⟨t, l, tr, a1, a2, a3, a4, a5⟩
  · have hz : z' = z ∧ r = -1 := by
      rcases o with ⟨e1, e2, -⟩ | ⟨t, l, p, -, ht, h4, -⟩ | ⟨t, l, -, ht, h4, -⟩
      · exact ⟨e2, e1⟩
      · exact absurd h4 (q2 t ht)
      · exact absurd h4 (q2 t ht)
    have hy : y' = y ∧ r' = -1 := by
      rcases p with ⟨-, e1, e2⟩ | ⟨t, l, p, tr, -⟩ | ⟨t, l, tr, -⟩
      · exact ⟨e1, e2⟩
      · exact absurd (q1.symm.trans tr.1) (fun w => nI_m1 (by have := tr.2.2.1; omega) w.symm)
      · exact absurd (q1.symm.trans tr.1) (fun w => nI_m1 (by have := tr.2.2.1; omega) w.symm)
    rw [hz.1, hz.2, hy.1, hy.2]; exact ⟨RR_up V (by omega) H (by omega), rfl⟩
  · have n60 : ¬ y.1 60 0 = -1 := by rw [tr.1]; exact nI_m1 (by have := tr.2.2.1; omega)
    rcases p with ⟨w, -⟩ | ⟨t', l', p, tr', hp, n63, f63, ey, er⟩ | ⟨t', l', tr', f63, ey, er⟩
    · exact absurd w n60
    · obtain ⟨et, el⟩ := tu t l t' l' tr tr'
      subst et; subst el
      rcases o with ⟨-, -, w | w⟩ | ⟨t2, l2, p2, e1, h2, h4, -, h1, hp2, m105, f105, e2⟩ | ⟨t2, l2, -, h2, h4, -, h1, w, -⟩
      · exact absurd a1 (w t' tr.2.2.1)
      · exact absurd a3 (w l')
      · have et2 := a2 t2 h2 h4
        have el2 := a3.2.2 l2 h1.1 h1.2.1
        subst et2; subst el2
        have ep : p2 = p := by
          rcases Nat.lt_trichotomy p2 p with x | x | x
          · exact absurd (by rw [a5 p2 hp2]; exact f63 p2 x) m105
          · exact x
          · exact absurd (by rw [← a5 p hp]; exact f105 p x) n63
        subst ep
        rw [e1, e2, ey, er]
        exact ⟨RR_tr1 V hc H tr hp n63, rfl⟩
      · have el2 := a3.2.2 l2 h1.1 h1.2.1
        subst el2
        exact absurd (by rw [← a5 p hp]; exact w p hp) n63
    · obtain ⟨et, el⟩ := tu t l t' l' tr tr'
      subst et; subst el
      rcases o with ⟨-, -, w | w⟩ | ⟨t2, l2, p2, e1, h2, h4, -, h1, hp2, m105, f105, e2⟩ | ⟨t2, l2, e1, h2, h4, -, h1, w, e2⟩
      · exact absurd a1 (w t' tr.2.2.1)
      · exact absurd a3 (w l')
      · have el2 := a3.2.2 l2 h1.1 h1.2.1
        subst el2
        exact absurd (by rw [a5 p2 hp2]; exact f63 p2 hp2) m105
      · have et2 := a2 t2 h2 h4
        have el2 := a3.2.2 l2 h1.1 h1.2.1
        subst et2; subst el2
        rw [e1, e2, ey, er]
        exact ⟨hpair _ _ tr f63, rfl⟩
