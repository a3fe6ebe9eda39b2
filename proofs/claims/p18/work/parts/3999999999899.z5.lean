theorem RR_dlv {n pg rm c : Nat} {z z' : CZ} {y y' : RZ} {r r' : Int32} (S : SC n pg rm c z.1) (hq : ∀ j, j < n → nb (z.1 120 j) 511) (V : CV n pg rm c y.1 y.2) (hc : c ≤ 511) (H : RR n pg rm c z y) (o : oDlv n rm z z' r) (p : pDlv n y y' r') : RR n pg rm (c + 1) z' y' ∧ r = r' := by
  have hn4 := V.g.1.2.2.2.2.2.2.1
  have hrm : rm ≤ 32 := V.g.1.2.2.2.2.2.2.2.2.2.2
  have z7 : ∀ j, j < n → z.1 7 j = y.1 7 j := fun j hj => (H.2.1 j hj).2.2.2.1
  have hx := H.2.2.2.2.1
  have hp := H.2.2.1
  obtain ⟨l00, inv⟩ := id V
  rcases p with ⟨q, ey, er⟩ | ⟨b, l, hb, hl4, dv, -, ey, er⟩
  · rcases o with ⟨e1, e2, -⟩ | ⟨-, j, a, hj, a1, a2, -, a4, -⟩
    · rw [e1, e2, ey, er]; exact ⟨RR_up V (by omega) H (by omega), rfl⟩
    · exfalso
      rcases hp with ⟨-, -, p2, -⟩ | ⟨l, hl, lk, c1, c2, c3, -⟩
      · rw [p2] at a1; exact nI_m1 (by omega) a1.symm
      · obtain ⟨-, -, ⟨b, hb, -, b1, b2⟩, -⟩ := hx.2.2.1 l (by omega) lk
        have e8 : y.1 8 l = nI j := c2.symm.trans a1
        have eb : b = j := nIv_inj (b1.symm.trans e8) (by omega) (by omega)
        subst eb
        rw [z7 b hb] at a2
        obtain ⟨w1, w2⟩ := b2 a2
        refine q b l hb (by omega) ⟨a2, ⟨w1, lk.1, lk.2, e8, w2⟩, fun w => a4 ?_⟩
        rw [c3, w]; rfl
  · obtain ⟨h7, lo, h53⟩ := id dv
    obtain ⟨lo1, lo2, lo3, lo4, lo5⟩ := lo
    have hln : l < n := by
      rcases Nat.lt_or_ge l n with x | x
      · exact x
      · exact absurd (hx.2.2.2.2.2.2.2.2.1 l x hl4).2.1 lo2
    obtain ⟨ch1, ch2, ch3, ch4, ch5, ch6, ch7⟩ := RP_at hp hx hln hn4 ⟨lo2, lo3⟩
    obtain ⟨c1, c2, c3, c4, c5, c6, c7⟩ := (inv.2.1 l hl4).2.1 lo2
    obtain ⟨b58, b59, b5859, -⟩ := (inv.2.1 b (by omega)).2.2.2.2.2.1
    have k58 := b58.2
    have k59 := b59.2
    have k53 := c1.2
    have k55 := c2.2
    have k6 := (c6 lo3).1
    have n53 : 1 ≤ cl (y.1 53 l) := by
      rcases Nat.eq_zero_or_pos (cl (y.1 53 l)) with w | w
      · exact absurd (by rw [c1.1, w]; rfl) h53
      · exact w
    have bl : b ≠ l := fun e => by
      subst e
      have := ((hx.2.2.1 b (by omega) ⟨lo2, lo3⟩).2.1)
      rw [h7] at this; rcases this with w | w <;> exact absurd w (by decide)
    obtain ⟨raB, rtB⟩ := H.2.1 b hb
    have f1 := rtB.2.2.2.2.2.1
    have e121 : cl (z.1 121 b) = cl (y.1 59 b) - cl (y.1 58 b) := by rw [(f1.2.2.1 (Or.inl h7)).2]; exact cl_nI (by omega)
    rcases o with ⟨-, -, w | w⟩ | ⟨e1, j, a, hj, a1, a2, a3, a4, a5, e2⟩
    · exact absurd ⟨b, hb, ch2.trans lo4, by rw [z7 b hb]; exact h7, by rw [e121]; omega⟩ w
    · rw [ch3] at w; omega
    · have ej : j = b := nIv_inj (a1.symm.trans (ch2.trans lo4)) (by omega) (by omega)
      subst ej
      rw [e1, e2, ey, er]
      refine ⟨?_, rfl⟩
      obtain ⟨hg, hh, -, hd', -, ht, hm⟩ := H
      have x135 : ¬ cl (z.1 135 0) = rm := by rw [ch4]; omega
      have eS : k_dl z.1 rm j = u2 (u2 (u2 (u2 z.1 132 0 (nI (k_wr rm (cl (z.1 132 0) + 1)))) 133 0 (nI (cl (z.1 133 0) - 1))) 121 j (nI (cl (z.1 121 j)) + 1)) 135 0 (nI (cl (z.1 135 0)) + 1) := by unfold k_dl; rw [if_neg x135]; rfl
      have eR : k_dlR z.2.2.1 z.1 rm j a = r2 (r2 z.2.2.1 j (k_wr 512 (cl (z.1 120 j) + cl (z.1 121 j))) (some a)) 5 (k_wr rm (cl (z.1 134 0) + cl (z.1 135 0))) (some a) := by unfold k_dlR; rw [if_neg x135]
      rw [eS, eR]
      have zo : ∀ f, f ≠ 121 ∧ f ≠ 132 ∧ f ≠ 133 ∧ f ≠ 135 → u2 (u2 (u2 (u2 z.1 132 0 (nI (k_wr rm (cl (z.1 132 0) + 1)))) 133 0 (nI (cl (z.1 133 0) - 1))) 121 j (nI (cl (z.1 121 j)) + 1)) 135 0 (nI (cl (z.1 135 0)) + 1) f = z.1 f := fun f h => by rw [u2_ne h.2.2.2, u2_ne h.1, u2_ne h.2.2.1, u2_ne h.2.1]
      have z121 : ∀ h, u2 (u2 (u2 (u2 z.1 132 0 (nI (k_wr rm (cl (z.1 132 0) + 1)))) 133 0 (nI (cl (z.1 133 0) - 1))) 121 j (nI (cl (z.1 121 j)) + 1)) 135 0 (nI (cl (z.1 135 0)) + 1) 121 h = if h = j then nI (cl (z.1 121 j)) + 1 else z.1 121 h := fun h => by rw [u2_ne (by decide), u2_i, u2_ne (by decide), u2_ne (by decide)]
      have z132 : u2 (u2 (u2 (u2 z.1 132 0 (nI (k_wr rm (cl (z.1 132 0) + 1)))) 133 0 (nI (cl (z.1 133 0) - 1))) 121 j (nI (cl (z.1 121 j)) + 1)) 135 0 (nI (cl (z.1 135 0)) + 1) 132 0 = nI (k_wr rm (cl (z.1 132 0) + 1)) := by rw [u2_ne (by decide), u2_ne (by decide), u2_ne (by decide), u2_ss]
      have z133 : u2 (u2 (u2 (u2 z.1 132 0 (nI (k_wr rm (cl (z.1 132 0) + 1)))) 133 0 (nI (cl (z.1 133 0) - 1))) 121 j (nI (cl (z.1 121 j)) + 1)) 135 0 (nI (cl (z.1 135 0)) + 1) 133 0 = nI (cl (z.1 133 0) - 1) := by rw [u2_ne (by decide), u2_ne (by decide), u2_ss]
      have z135 : u2 (u2 (u2 (u2 z.1 132 0 (nI (k_wr rm (cl (z.1 132 0) + 1)))) 133 0 (nI (cl (z.1 133 0) - 1))) 121 j (nI (cl (z.1 121 j)) + 1)) 135 0 (nI (cl (z.1 135 0)) + 1) 135 0 = nI (cl (z.1 135 0)) + 1 := by rw [u2_ss]
      generalize u2 (u2 (u2 (u2 z.1 132 0 (nI (k_wr rm (cl (z.1 132 0) + 1)))) 133 0 (nI (cl (z.1 133 0) - 1))) 121 j (nI (cl (z.1 121 j)) + 1)) 135 0 (nI (cl (z.1 135 0)) + 1) = U at *
      have es : ∀ f, f ≠ 52 ∧ f ≠ 53 ∧ f ≠ 56 ∧ f ≠ 57 ∧ f ≠ 59 → m_dlv y.1 j l f = y.1 f := fun f h => by
        unfold m_dlv; rw [u2_ne h.2.2.1, m_sh_ne h.1, u2_ne h.2.1, u2_ne h.2.2.2.2, u2_ne h.2.2.2.1]
      have s57 : ∀ x, m_dlv y.1 j l 57 x = if x = 4200 * j + cl (y.1 59 j) then y.1 52 (64 * l) else y.1 57 x := fun x => by
        unfold m_dlv; rw [u2_ne (by decide), m_sh_ne (by decide), u2_ne (by decide), u2_ne (by decide), u2_i]
      have s59 : ∀ h, m_dlv y.1 j l 59 h = if h = j then nI (cl (y.1 59 j)) + 1 else y.1 59 h := fun h => by
        unfold m_dlv; rw [u2_ne (by decide), m_sh_ne (by decide), u2_ne (by decide), u2_i, u2_ne (by decide)]
      have s53 : m_dlv y.1 j l 53 l = nI (cl (y.1 53 l) - 1) := by
        unfold m_dlv; rw [u2_ne (by decide), m_sh_ne (by decide), u2_ss]
      have s56 : m_dlv y.1 j l 56 l = y.1 56 l + 1 := by unfold m_dlv; rw [u2_ss]
      have s52 : ∀ i, i < cl (y.1 53 l) - 1 → m_dlv y.1 j l 52 (64 * l + i) = y.1 52 (64 * l + (i + 1)) := fun i hi => by
        unfold m_dlv; rw [u2_ne (by decide), sh_lo, if_pos hi, u2_ne (by decide), u2_ne (by decide), u2_ne (by decide)]; rfl
      have hxn : EX n (c + 1) (m_dlv y.1 j l) := EX_nf hx (by omega) (fun f hf => es f (by omega))
      generalize m_dlv y.1 j l = s' at *
      have ag : AgE y.1 s' y.2 y.2 := AgE_ne (fun f h1 h2 => es f (by omega)) rfl
      have hD : ∀ h, nI h = s' 61 0 → nI h = y.1 61 0 ∧ ∀ p, p < pg → s' 63 p = y.1 63 p := fun h w => ⟨by rw [← es 61 (by decide)]; exact w, fun p _ => by rw [es 63 (by decide)]⟩
      have b132 : cl (z.1 132 0) ≤ rm - 1 := S.2.2.2.2.1.2
      have b134 : cl (z.1 134 0) ≤ rm - 1 := S.2.2.2.2.2.2.1.2
      have q0 : ∃ x, z.2.2.1 4 (k_wr rm (cl (z.1 132 0) + 0)) = some x ∧ EV y.1 y.2 (cl (y.1 52 (64 * l + 0))) (z.2.2.2 x) := ch5 0 (by omega)
      have eva : EV y.1 y.2 (cl (y.1 52 (64 * l))) (z.2.2.2 a) := by
        obtain ⟨x, x1, x2⟩ := q0
        rw [Nat.add_zero, show k_wr rm (cl (z.1 132 0)) = cl (z.1 132 0) by unfold k_wr; rw [if_pos (by omega)], a5] at x1
        cases x1; exact x2
      refine ⟨RG_nf hg (fun f hf => zo f (by omega)) (fun f hf => es f (by omega)), fun h hhn => ?_, Or.inr ⟨l, hln, ?_, ?_, ?_, ?_, ?_, fun i hi => ?_, fun i hi => ?_, fun i hi => ?_⟩, RD_fr hd' (fun f h1 h2 => zo f (by omega)) (fun f h1 h2 => es f (by omega)), hxn, TK_nf ht (by omega) (fun f hf => es f (by omega)), CM_nf hm (fun f hf => es f (by omega))⟩
      · obtain ⟨ra, rt⟩ := hh h hhn
        refine ⟨RA_nf ra (fun f hf => es f (by omega)) (fun f hf => zo f (by omega)) (hD h), ?_⟩
        by_cases x : h = j
        · subst x
          have ny7 : s' 7 h = 2 := by rw [es 7 (by decide)]; exact h7
          refine ⟨?_, rt.2.1, ?_, ?_, ?_, ⟨fun w => ?_, fun _ => ?_, fun _ => ?_, fun w => ?_⟩, fun _ i hi => ?_, ?_⟩
          · show U 37 h = s' 37 h; rw [zo 37 (by decide), es 37 (by decide)]; exact rt.1
          · show U 7 h = s' 7 h; rw [zo 7 (by decide), es 7 (by decide)]; exact rt.2.2.1
          · show U 10 h = s' 10 h; rw [zo 10 (by decide), es 10 (by decide)]; exact rt.2.2.2.1
          · show U 111 h = _; rw [zo 111 (by decide)]; exact rt.2.2.2.2.1
          · exact absurd ((show s' 7 h = 1 from w).symm.trans ny7) (by decide)
          · show U 114 h = 0 ∧ U 115 h = 0 ∧ U 116 h = 0
            rw [zo 114 (by decide), zo 115 (by decide), zo 116 (by decide)]; exact f1.2.1 (by rw [h7]; decide)
          · show U 113 h = s' 9 h ∧ U 121 h = nI (cl (s' 59 h) - cl (s' 58 h))
            rw [zo 113 (by decide), es 9 (by decide), z121, if_pos rfl, s59, if_pos rfl, es 58 (by decide), e121, nIv_inc, nIv_inc, cl_nI (by omega)]
            exact ⟨(f1.2.2.1 (Or.inl h7)).1, by rw [show cl (y.1 59 h) - cl (y.1 58 h) + 1 = cl (y.1 59 h) + 1 - cl (y.1 58 h) by omega]⟩
          · exact absurd (Or.inr (Or.inl ny7)) w
          · have hi' : i < cl (s' 59 h) - cl (s' 58 h) := hi
            rw [s59, if_pos rfl, es 58 (by decide), nIv_inc, cl_nI (by omega)] at hi'
            show ∃ x, r2 (r2 z.2.2.1 h (k_wr 512 (cl (z.1 120 h) + cl (z.1 121 h))) (some a)) 5 (k_wr rm (cl (z.1 134 0) + cl (z.1 135 0))) (some a) h (k_wr 512 (cl (U 120 h) + i)) = some x ∧ EV s' y.2 (cl (s' 57 (4200 * h + (cl (s' 58 h) + i)))) (z.2.2.2 x)
            rw [r2_ne (by omega), zo 120 (by decide), es 58 (by decide), s57]
            by_cases qi : i = cl (y.1 59 h) - cl (y.1 58 h)
            · refine ⟨a, ?_, ?_⟩
              · rw [qi, ← e121, r2_ss]
              · rw [if_pos (by omega)]; exact EV_ag ag eva
            · obtain ⟨x, x1, x2⟩ := rt.2.2.2.2.2.2.1 (Or.inl h7) i (by omega)
              refine ⟨x, ?_, ?_⟩
              · rw [r2_sn (wr_ne (by have := (hq h hb).2; omega) (by rw [e121]; omega) (by rw [e121]; omega))]; exact x1
              · rw [if_neg (by omega)]; exact EV_ag ag x2
          · have f3 := rt.2.2.2.2.2.2.2
            show RF3 s' U h
            unfold RF3 KE k_sl gst at f3 ⊢
            rw [zo 38 (by decide), zo 112 (by decide), zo 117 (by decide), es 7 (by decide), es 38 (by decide), es 39 (by decide), es 43 (by decide), es 31 (by decide)]
            exact f3
        · refine RT_fr (inv.2.1 h (by omega)) (by omega) rt ⟨fun f k hf hk => ?_, rfl, fun k => ?_, fun _ _ _ _ => rfl⟩ ⟨fun f k hf hk => ?_, rfl, fun k _ => ?_⟩ ag
          · have w := of_decide_eq_true hf
            show U f _ = z.1 f _
            by_cases y1 : f = 121
            · subst y1
              have hk1 : k < 1 := hk
              rw [z121, if_neg (by show ¬ 1 * h + k = j; omega)]
            · rw [zo f (by omega)]
          · show r2 (r2 z.2.2.1 j _ _) 5 _ _ h k = _
            rw [r2_ne (by omega), r2_ne x]
          · have w := of_decide_eq_true hf
            show s' f _ = y.1 f _
            by_cases y1 : f = 57
            · subst y1
              have hk1 : k < 4200 := hk
              rw [s57, if_neg (by show ¬ 4200 * h + k = _; omega)]
            by_cases y2 : f = 59
            · subst y2
              have hk1 : k < 1 := hk
              rw [s59, if_neg (by show ¬ 1 * h + k = j; omega)]
            · rw [es f (by omega)]
          · show s' 43 _ = y.1 43 _
            rw [es 43 (by decide)]
      · show ¬ s' 11 l = 0 ∧ s' 12 l = 0
        rw [es 11 (by decide), es 12 (by decide)]; exact ⟨lo2, lo3⟩
      · show U 122 0 = _; rw [zo 122 (by decide)]; exact ch1
      · show U 123 0 = s' 8 l; rw [zo 123 (by decide), es 8 (by decide)]; exact ch2
      · show U 133 0 = s' 53 l; rw [z133, s53, ch3]
      · show U 135 0 = s' 56 l; rw [z135, s56, ch4, ← c3.1]
      · have hi' : i < cl (s' 53 l) := hi
        rw [s53, cl_nI (by omega)] at hi'
        obtain ⟨x, x1, x2⟩ := ch5 (i + 1) (by omega)
        show ∃ x, r2 (r2 z.2.2.1 j (k_wr 512 (cl (z.1 120 j) + cl (z.1 121 j))) (some a)) 5 (k_wr rm (cl (z.1 134 0) + cl (z.1 135 0))) (some a) 4 (k_wr rm (cl (U 132 0) + i)) = some x ∧ EV s' y.2 (cl (s' 52 (64 * l + i))) (z.2.2.2 x)
        rw [r2_ne (by decide), r2_ne (by omega), z132, cl_nI (by have := k_wr_lt (L := rm) (x := cl (z.1 132 0) + 1) (by omega); omega), wr_adv (by omega) (by omega), s52 i hi']
        exact ⟨x, x1, EV_ag ag x2⟩
      · have hi' : i < cl (s' 56 l) := hi
        rw [s56, (cl_inc c3 (by omega)).2] at hi'
        show ∃ x, r2 (r2 z.2.2.1 j (k_wr 512 (cl (z.1 120 j) + cl (z.1 121 j))) (some a)) 5 (k_wr rm (cl (z.1 134 0) + cl (z.1 135 0))) (some a) 5 (k_wr rm (cl (U 134 0) + i)) = some x ∧ EV s' y.2 (cl (s' 54 (64 * l + i))) (z.2.2.2 x)
        rw [zo 134 (by decide), es 54 (by decide)]
        by_cases qi : i = cl (y.1 56 l)
        · refine ⟨a, ?_, ?_⟩
          · rw [qi, ← ch4, r2_ss]
          · have e := ch7 0 (by omega)
            rw [Nat.add_zero, Nat.add_zero] at e
            rw [qi, e]; exact EV_ag ag eva
        · obtain ⟨x, x1, x2⟩ := ch6 i (by omega)
          refine ⟨x, ?_, EV_ag ag x2⟩
          rw [r2_sn (wr_ne (by omega) (by rw [ch4]; omega) (by rw [ch4]; omega)), r2_ne (by omega)]; exact x1
      · have hi' : i < cl (s' 53 l) := hi
        rw [s53, cl_nI (by omega)] at hi'
        show s' 54 (64 * l + (cl (s' 56 l) + i)) = s' 52 (64 * l + i)
        rw [es 54 (by decide), s56, (cl_inc c3 (by omega)).2, s52 i hi', show cl (y.1 56 l) + 1 + i = cl (y.1 56 l) + (i + 1) by omega]
        exact ch7 (i + 1) (by omega)
