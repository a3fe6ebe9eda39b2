theorem many_0 {σ : (Nat → Nat → Int32)} : ∀ n, (∀ t, t < n → ¬ σ 7 t = 1) → m_many σ n = 0
  | 0, _ => rfl
  | n + 1, h => by unfold m_many; rw [if_neg (h n (by omega))]; exact many_0 n (fun t ht => h t (by omega))
theorem many_p {σ : (Nat → Nat → Int32)} {a : Nat} (h : σ 7 a = 1) : ∀ n, a < n → 1 ≤ m_many σ n
  | 0, q => absurd q (by omega)
  | n + 1, q => by
    unfold m_many
    by_cases x : σ 7 n = 1
    · rw [if_pos x]; omega
    · rw [if_neg x]
      refine many_p h n ?_
      by_cases e : a = n
      · subst e; exact absurd h x
      · omega
theorem many_u {σ : (Nat → Nat → Int32)} : ∀ n, m_many σ n = 1 → ∀ a b, a < n → b < n → σ 7 a = 1 → σ 7 b = 1 → a = b
  | 0, _, a, b, ha, _, _, _ => absurd ha (by omega)
  | n + 1, h, a, b, ha, hb, h1, h2 => by
    unfold m_many at h
    by_cases x : σ 7 n = 1
    · rw [if_pos x] at h
      have na : a = n := by
        by_cases e : a = n
        · exact e
        · have := many_p h1 n (by omega); omega
      have nb : b = n := by
        by_cases e : b = n
        · exact e
        · have := many_p h2 n (by omega); omega
      rw [na, nb]
    · rw [if_neg x] at h
      exact many_u n h a b (by have : a ≠ n := fun e => x (e ▸ h1); omega) (by have : b ≠ n := fun e => x (e ▸ h2); omega) h1 h2
theorem many_1 {σ : (Nat → Nat → Int32)} {l : Nat} (h : σ 7 l = 1) : ∀ n, l < n → (∀ t, t < n → σ 7 t = 1 → t = l) → m_many σ n = 1 ∧ m_one σ n = nI l
  | 0, q, _ => absurd q (by omega)
  | n + 1, q, u => by
    unfold m_many m_one
    by_cases x : σ 7 n = 1
    · have e := u n (by omega) x
      rw [if_pos x, if_pos x, many_0 n (fun t ht w => by have := u t (by omega) w; omega), e]
      exact ⟨rfl, rfl⟩
    · rw [if_neg x, if_neg x]
      exact many_1 h n (by have : l ≠ n := fun e => x (e ▸ h); omega) (fun t ht w => u t (by omega) w)
theorem RA_105 {pg j : Nat} {s s' u u' : (Nat → Nat → Int32)} (H : RA pg j s u) (es : ∀ f, 15 ≤ f ∧ f ≤ 36 → s' f = s f) (eu : ∀ f, (15 ≤ f ∧ f ≤ 36) ∨ (100 ≤ f ∧ f ≤ 104) → u' f = u f) (hD : nI j = s' 61 0 → ∀ p, p < pg → u' 105 (16 * j + p) = s' 63 p) : RA pg j s' u' := by
  obtain ⟨h1, h2, h3, h4, h5⟩ := H
  refine ⟨fun f i hf hi h15 => ?_, ?_, ?_, ?_, hD⟩
  · have := wf_r hf
    rw [es f (by omega), eu f (by omega)]; exact h1 f i hf hi h15
  · unfold w_K at h2 ⊢; rw [eu 101 (by omega), eu 100 (by omega), es 33 (by omega), es 32 (by omega)]; exact h2
  · unfold w_P at h3 ⊢; rw [eu 104 (by omega), eu 102 (by omega), eu 103 (by omega), es 35 (by omega), es 34 (by omega), es 36 (by omega)]; exact h3
  · unfold w_A at h4 ⊢; rw [es 17 (by omega), es 18 (by omega)]; exact h4
theorem kall_ne {σ : (Nat → Nat → Int32)} {j F : Nat} (h : F ≠ 105) : ∀ k, k_all σ j k F = σ F
  | 0 => rfl
  | k + 1 => by unfold k_all; rw [u2_ne h, kall_ne h k]
theorem kall_v {σ : (Nat → Nat → Int32)} {j i : Nat} : ∀ k, i < k → k_all σ j k 105 (16 * j + i) = 1
  | 0, h => absurd h (by omega)
  | k + 1, h => by
    unfold k_all
    by_cases q : i = k
    · rw [q, u2_ss]
    · rw [u2_sn (by omega)]; exact kall_v k (by omega)
theorem pgc_0 {s : (Nat → Nat → Int32)} : ∀ p, (∀ i, i < p → s 63 i = 1) → pgc s p = 0
  | 0, _ => rfl
  | p + 1, h => by unfold pgc; rw [pgc_0 p (fun i hi => h i (by omega)), h p (by omega), if_neg (by decide)]
theorem pro_e {n pg rm c j l : Nat} {z : CZ} {y : RZ} (V : CV n pg rm c y.1 y.2) (H : RR n pg rm c z y) (hj : j < n) : PrAt y.1 n j l ↔ (z.1 7 j = 0 ∧ k_one z.1 n l ∧ z.1 115 l = 0 ∧ ∀ t, t < n → ¬ z.1 7 t = 4) := by
  have hn4 := V.g.1.2.2.2.2.2.2.1
  have z7 : ∀ j, j < n → z.1 7 j = y.1 7 j := fun j hj => (H.2.1 j hj).2.2.2.1
  have hx := H.2.2.2.2.1
  constructor
  · rintro ⟨a1, a2, a3, a4, a5, a6, a7⟩
    refine ⟨by rw [z7 j hj]; exact a1, ⟨a4, by rw [z7 l a4]; exact a5, fun t ht w => ?_⟩, ?_, fun t ht w => ?_⟩
    · rw [z7 t ht] at w; exact many_u n a3 t l ht a4 w a5
    · rw [((H.2.1 l a4).2.2.2.2.2.2.1.1 a5).1]; exact a7
    · rw [z7 t ht] at w
      have := hx.2.2.2.2.2.2.1 t (by omega) w
      rw [a2] at this; exact nI_m1 (by omega) this.symm
  · rintro ⟨a1, ⟨a4, a5, u⟩, a7, n4⟩
    rw [z7 j hj] at a1
    rw [z7 l a4] at a5
    have u' : ∀ t, t < n → y.1 7 t = 1 → t = l := fun t ht w => u t ht (by rw [z7 t ht]; exact w)
    obtain ⟨m1, m2⟩ := many_1 a5 n a4 u'
    refine ⟨a1, ?_, m1, a4, a5, m2, ?_⟩
    · rcases V.g.2.2.2.2.2.2 with q | ⟨r, s, tr, q4, -⟩
      · exact q.1
      · exact absurd (by rw [z7 r tr.2.2.1]; exact q4) (n4 r tr.2.2.1)
    · rw [← ((H.2.1 l a4).2.2.2.2.2.2.1.1 a5).1]; exact a7
theorem RR_pro {n pg rm c : Nat} {i : Int32} {z z' : CZ} {y y' : RZ} {r r' : Int32} (V : CV n pg rm c y.1 y.2) (hc : c ≤ 511) (H : RR n pg rm c z y) (o : oPro n pg i z z' r) (p : pPro n pg i y y' r') : RR n pg rm (c + 1) z' y' ∧ r = r' := by
  have hn4 := V.g.1.2.2.2.2.2.2.1
  have hp16 : pg ≤ 16 := V.g.1.2.2.2.2.2.2.2.2.1
  rcases p with ⟨q, ey, er⟩ | ⟨j, l, hj, ei, pr, ey, er⟩
  · rcases o with ⟨e1, e2, -⟩ | ⟨-, j, l, hj, ei, a1, a2, a3, a4, -⟩
    · rw [e1, e2, ey, er]; exact ⟨RR_up V (by omega) H (by omega), rfl⟩
    · exact absurd ((pro_e V H hj).mpr ⟨a1, a2, a3, a4⟩) (q j l hj ei)
  · rcases o with ⟨-, -, w⟩ | ⟨e1, j', l', hj', ei', a1, a2, a3, a4, e2⟩
    · obtain ⟨b1, b2, b3, b4⟩ := (pro_e V H hj).mp pr
      exact absurd ⟨j, l, hj, ei, b1, b2, b3, b4⟩ w
    · have ej : j' = j := nIv_inj (ei'.symm.trans ei) (by omega) (by omega)
      subst ej
      obtain ⟨b1, b2, b3, b4⟩ := (pro_e V H hj).mp pr
      have el : l' = l := b2.2.2 l' a2.1 a2.2.1
      subst el
      rw [e1, e2, ey, er]
      refine ⟨?_, rfl⟩
      obtain ⟨p1, p2, p3, p4, p5, p6, p7⟩ := pr
      obtain ⟨hg, hh, hp, hd', hx, ht, hm⟩ := H
      obtain ⟨l00, inv⟩ := id V
      have hxn := EX_prot (pg := pg) hx hj hn4 p4 p1 p2 p5 p7 (fun t ht w => many_u n p3 t l' ht p4 w p5) (booted inv.1 (show l' < 4 by omega) (Or.inl p5))
      have ng : ¬ gst y.1 j' := (off_ng p1 (by decide)).2
      have jl : l' ≠ j' := fun e => by rw [e, p1] at p5; exact absurd p5 (by decide)
      have es : ∀ f, f ≠ 7 ∧ f ≠ 60 ∧ f ≠ 61 ∧ f ≠ 62 ∧ f ≠ 63 → m_prot y.1 j' l' pg f = y.1 f := fun f h => by
        unfold m_prot; rw [m_prl_ne h.2.2.2.2, u2_ne h.2.2.2.1, u2_ne h.2.2.1, u2_ne h.2.1, u2_ne h.1]
      have s7 : ∀ h, m_prot y.1 j' l' pg 7 h = if h = j' then 4 else y.1 7 h := fun h => by
        unfold m_prot; rw [m_prl_ne (by decide), u2_ne (by decide), u2_ne (by decide), u2_ne (by decide), u2_i]
      have s60 : m_prot y.1 j' l' pg 60 0 = nI j' := by unfold m_prot; rw [m_prl_ne (by decide), u2_ne (by decide), u2_ne (by decide), u2_ss]
      have s61 : m_prot y.1 j' l' pg 61 0 = nI l' := by unfold m_prot; rw [m_prl_ne (by decide), u2_ne (by decide), u2_ss]
      have s62 : m_prot y.1 j' l' pg 62 0 = 0 := by unfold m_prot; rw [m_prl_ne (by decide), u2_ss]
      have s63 : ∀ k, k < pg → m_prot y.1 j' l' pg 63 k = 1 := fun k hk => by unfold m_prot; exact m_prl_in pg k hk
      have zo : ∀ f, f ≠ 7 ∧ f ≠ 62 ∧ f ≠ 105 → u2 (k_all (u2 z.1 7 j' 4) l' pg) 62 0 0 f = z.1 f := fun f h => by
        rw [u2_ne h.2.1, kall_ne h.2.2, u2_ne h.1]
      have zi : ∀ h, u2 (k_all (u2 z.1 7 j' 4) l' pg) 62 0 0 7 h = if h = j' then 4 else z.1 7 h := fun h => by
        rw [u2_ne (by decide), kall_ne (by decide), u2_i]
      have z62 : u2 (k_all (u2 z.1 7 j' 4) l' pg) 62 0 0 62 0 = 0 := u2_ss
      have z105 : ∀ k, k < pg → u2 (k_all (u2 z.1 7 j' 4) l' pg) 62 0 0 105 (16 * l' + k) = 1 := fun k hk => by
        rw [u2_ne (by decide)]; exact kall_v pg hk
      generalize u2 (k_all (u2 z.1 7 j' 4) l' pg) 62 0 0 = U at *
      generalize m_prot y.1 j' l' pg = s' at *
      have ag : AgE y.1 s' y.2 y.2 := AgE_ne (fun f h1 h2 => es f (by omega)) rfl
      refine ⟨?_, fun h hhn => ?_, RP_fr hp (fun f hf => zo f (by omega)) (fun _ => ⟨rfl, rfl⟩) (fun _ _ _ _ => rfl) (fun _ _ _ _ => rfl) (fun f hf => es f (by omega)) ag, RD_fr hd' (fun f h1 h2 => zo f (by omega)) (fun f h1 h2 => es f (by omega)), hxn, ?_, CM_nf hm (fun f hf => es f (by omega))⟩
      · obtain ⟨g1, g2, g3, g4, g5, g6, g7, g8⟩ := hg
        show U 5 0 = s' 5 0 ∧ (∀ i, i < 256 * pg → U 6 i = s' 6 i) ∧ U 13 0 = s' 13 0 ∧ U 14 0 = s' 14 0 ∧ U 62 0 = s' 62 0 ∧ (∀ i, i < 512 → U 64 i = s' 64 i) ∧ U 2 0 = nI pg ∧ U 3 0 = nI rm
        rw [zo 5 (by decide), zo 6 (by decide), zo 13 (by decide), zo 14 (by decide), zo 64 (by decide), zo 2 (by decide), zo 3 (by decide), es 5 (by decide), es 6 (by decide), es 13 (by decide), es 14 (by decide), es 64 (by decide), z62, s62]
        exact ⟨g1, g2, g3, g4, rfl, g6, g7, g8⟩
      · obtain ⟨ra, rt⟩ := hh h hhn
        have raN : RA pg h s' U := by
          refine RA_105 ra (fun f hf => es f (by omega)) (fun f hf => zo f (by omega)) (fun w k hk => ?_)
          rw [s61] at w
          have e : h = l' := nIv_inj w (by omega) (by omega)
          rw [e, z105 k hk, s63 k hk]
        by_cases x : h = j'
        · subst x
          refine RH_off raN ?_ rt.2.1 (v := 4) ?_ ?_ (by decide) ?_ ?_ (fun f hf => ?_)
          · show U 37 h = s' 37 h; rw [zo 37 (by decide), es 37 (by decide)]; exact rt.1
          · show U 7 h = 4; rw [zi, if_pos rfl]
          · show s' 7 h = 4; rw [s7, if_pos rfl]
          · show U 10 h = s' 10 h; rw [zo 10 (by decide), es 10 (by decide)]; exact rt.2.2.2.1
          · show U 111 h = _; rw [zo 111 (by decide)]; exact rt.2.2.2.2.1
          · show U f h = 0; rw [zo f (by omega)]; exact RTt_off rt ng f hf
        · refine ⟨raN, RT_fr (inv.2.1 h (by omega)) (by omega) rt ⟨fun f k hf hk => ?_, rfl, fun _ => rfl, fun _ _ _ _ => rfl⟩ ⟨fun f k hf hk => ?_, rfl, fun k _ => ?_⟩ ag⟩
          · have q := of_decide_eq_true hf
            show U f _ = z.1 f _
            by_cases y1 : f = 7
            · subst y1
              have hi1 : k < 1 := hk
              rw [zi, if_neg (by show ¬ 1 * h + k = j'; omega)]
            · rw [zo f (by omega)]
          · have q := of_decide_eq_true hf
            show s' f _ = y.1 f _
            by_cases y1 : f = 7
            · subst y1
              have hi1 : k < 1 := hk
              rw [s7, if_neg (by show ¬ 1 * h + k = j'; omega)]
            · rw [es f (by omega)]
          · show s' 43 _ = y.1 43 _
            rw [es 43 (by decide)]
      · show TK pg (c + 1) s'
        obtain ⟨t, P, t1, t2, t3⟩ := ht
        refine ⟨t, P, fun h hh4 g w => ?_, ?_, ?_⟩
        · by_cases x : h = j'
          · subst x; exact absurd g (off_ng (v := 4) (by rw [s7, if_pos rfl]) (by decide)).2
          · refine t1 h hh4 ?_ (fun o w1 w2 w3 => ?_)
            · unfold gst at g ⊢; rw [s7, if_neg x] at g; exact g
            · refine w o (by rw [es 65 (by decide)]; exact w1) (by rw [es 66 (by decide)]; exact w2) ?_
              rw [es 67 (by decide), es 68 (by decide), es 10 (by decide)]; exact w3
        · rw [es 65 (by decide), es 66 (by decide), es 5 (by decide)]; exact t2
        · rw [pgc_0 pg s63, if_neg (by rw [s60]; exact nI_m1 (by omega))]
          rw [if_pos p2] at t3
          omega
