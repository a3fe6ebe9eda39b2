theorem RR_ack0 {n pg rm c j : Nat} {z : CZ} {y : RZ} (S : SC n pg rm c z.1) (V : CV n pg rm c y.1 y.2) (hc : c ≤ 511) (H : RR n pg rm c z y) (hj : j < n) (ak : AkAt y.1 j) : RR n pg rm c (k_ak1 z.1 rm j, z.2) (m_ack0 y.1 j, y.2) ∧ ∃ a, z.2.2.1 5 (cl (z.1 134 0)) = some a ∧ EV y.1 y.2 (cl (y.1 54 (64 * j))) (z.2.2.2 a) := by
  have hn4 := V.g.1.2.2.2.2.2.2.1
  have hrm : rm ≤ 32 := V.g.1.2.2.2.2.2.2.2.2.2.2
  obtain ⟨l00, inv⟩ := id V
  obtain ⟨h7, h11, h56⟩ := ak
  obtain ⟨hg, hh, hp, hd', hx, ht, hm⟩ := H
  obtain ⟨c1, c2, c3, c4, c5, c6, c7⟩ := (inv.2.1 j (by omega)).2.1 h11
  have h12 : y.1 12 j = 0 := by
    by_cases q : y.1 12 j = 0
    · exact q
    · exact absurd (c7 q).1 h56
  obtain ⟨ch1, ch2, ch3, ch4, ch5, ch6, ch7⟩ := RP_at hp hx hj hn4 ⟨h11, h12⟩
  have k55 := c2.2
  have k56 := c3.2
  have k6 := (c6 h12).1
  have n56 : 1 ≤ cl (y.1 56 j) := by
    rcases Nat.eq_zero_or_pos (cl (y.1 56 j)) with w | w
    · exact absurd (by rw [c3.1, w]; rfl) h56
    · exact w
  have b134 : cl (z.1 134 0) ≤ rm - 1 := S.2.2.2.2.2.2.1.2
  refine ⟨?_, ?_⟩
  · obtain ⟨raj, rtj⟩ := hh j hj
    obtain ⟨i115, i116, i121, -, i113⟩ := rtj.2.2.2.2.2.1.1 h7
    have ez : ∀ f, f ≠ 114 ∧ f ≠ 134 ∧ f ≠ 135 → k_ak1 z.1 rm j f = z.1 f := fun f h => by unfold k_ak1; rw [u2_ne h.1, u2_ne h.2.2, u2_ne h.2.1]
    have z114 : ∀ h, k_ak1 z.1 rm j 114 h = if h = j then z.1 114 j - 1 else z.1 114 h := fun h => by unfold k_ak1; rw [u2_i, u2_ne (by decide), u2_ne (by decide)]
    have z134 : k_ak1 z.1 rm j 134 0 = nI (k_wr rm (cl (z.1 134 0) + 1)) := by unfold k_ak1; rw [u2_ne (by decide), u2_ne (by decide), u2_ss]
    have z135 : k_ak1 z.1 rm j 135 0 = nI (cl (z.1 135 0) - 1) := by unfold k_ak1; rw [u2_ne (by decide), u2_ss]
    have es : ∀ f, f ≠ 54 → f ≠ 55 → f ≠ 56 → m_ack0 y.1 j f = y.1 f := fun f a b c => m_ack0_ne a b c
    have s55 : ∀ h, m_ack0 y.1 j 55 h = if h = j then nI (cl (y.1 55 j) - 1) else y.1 55 h := fun h => by unfold m_ack0; rw [m_sh_ne (by decide), u2_i, u2_ne (by decide)]
    have s56 : m_ack0 y.1 j 56 j = y.1 56 j - 1 := by unfold m_ack0; rw [m_sh_ne (by decide), u2_ne (by decide), u2_ss]
    have s54 : ∀ i, i < cl (y.1 55 j) - 1 → m_ack0 y.1 j 54 (64 * j + i) = y.1 54 (64 * j + (i + 1)) := fun i hi => by
      unfold m_ack0; rw [sh_lo, if_pos hi, u2_ne (by decide), u2_ne (by decide)]; rfl
    have d56 : y.1 56 j - 1 = nI (cl (y.1 56 j) - 1) := by
      have := nIv_sub (a := cl (y.1 56 j)) (b := 1) n56
      rw [← c3.1] at this; exact this
    have d55 : y.1 55 j - 1 = nI (cl (y.1 55 j) - 1) := by
      have := nIv_sub (a := cl (y.1 55 j)) (b := 1) (by omega)
      rw [← c2.1] at this; exact this
    generalize k_ak1 z.1 rm j = U at *
    generalize m_ack0 y.1 j = s' at *
    have ag : AgE y.1 s' y.2 y.2 := AgE_ne (fun f h1 h2 => es f (by omega) (by omega) (by omega)) rfl
    have hD : ∀ h, nI h = s' 61 0 → nI h = y.1 61 0 ∧ ∀ p, p < pg → s' 63 p = y.1 63 p := fun h w => ⟨by rw [← es 61 (by decide) (by decide) (by decide)]; exact w, fun p _ => by rw [es 63 (by decide) (by decide) (by decide)]⟩
    refine ⟨RG_nf hg (fun f hf => ez f (by omega)) (fun f hf => es f (by omega) (by omega) (by omega)), fun h hhn => ?_, Or.inr ⟨j, hj, ?_, ?_, ?_, ?_, ?_, fun i hi => ?_, fun i hi => ?_, fun i hi => ?_⟩, RD_fr hd' (fun f h1 h2 => ez f (by omega)) (fun f h1 h2 => es f (by omega) (by omega) (by omega)), EX_nf hx (Nat.le_refl _) (fun f hf => es f (by omega) (by omega) (by omega)), TK_nf ht (Nat.le_refl _) (fun f hf => es f (by omega) (by omega) (by omega)), CM_nf hm (fun f hf => es f (by omega) (by omega) (by omega))⟩
    · obtain ⟨ra, rt⟩ := hh h hhn
      refine ⟨RA_nf ra (fun f hf => es f (by omega) (by omega) (by omega)) (fun f hf => ez f (by omega)) (hD h), ?_⟩
      by_cases x : h = j
      · subst x
        have ny7 : s' 7 h = 1 := by rw [es 7 (by decide) (by decide) (by decide)]; exact h7
        have n23 : ¬ (s' 7 h = 2 ∨ s' 7 h = 3) := by rw [ny7]; decide
        refine ⟨?_, rt.2.1, ?_, ?_, ?_, ⟨fun _ => ?_, fun w => absurd ny7 w, fun w => absurd w n23, fun w => absurd (Or.inl ny7) w⟩, fun w => absurd w n23, ?_⟩
        · show U 37 h = s' 37 h; rw [ez 37 (by decide), es 37 (by decide) (by decide) (by decide)]; exact rt.1
        · show U 7 h = s' 7 h; rw [ez 7 (by decide), es 7 (by decide) (by decide) (by decide)]; exact rt.2.2.1
        · show U 10 h = s' 10 h; rw [ez 10 (by decide), es 10 (by decide) (by decide) (by decide)]; exact rt.2.2.2.1
        · show U 111 h = _; rw [ez 111 (by decide)]; exact rt.2.2.2.2.1
        · show U 115 h = s' 11 h ∧ U 116 h = s' 12 h ∧ U 121 h = 0 ∧ (s' 11 h = 0 → U 114 h = 0 ∧ U 113 h = 0) ∧ (¬ s' 11 h = 0 → U 113 h = s' 9 h ∧ U 114 h = s' 55 h)
          rw [ez 115 (by decide), ez 116 (by decide), ez 121 (by decide), ez 113 (by decide), z114, if_pos rfl, s55, if_pos rfl, es 11 (by decide) (by decide) (by decide), es 12 (by decide) (by decide) (by decide), es 9 (by decide) (by decide) (by decide)]
          exact ⟨i115, i116, i121, fun w => absurd w h11, fun _ => ⟨(i113 h11).1, by rw [(i113 h11).2]; exact d55⟩⟩
        · have f3 := rt.2.2.2.2.2.2.2
          show RF3 s' U h
          unfold RF3 KE k_sl gst at f3 ⊢
          rw [ez 38 (by decide), ez 112 (by decide), ez 117 (by decide), es 7 (by decide) (by decide) (by decide), es 38 (by decide) (by decide) (by decide), es 39 (by decide) (by decide) (by decide), es 43 (by decide) (by decide) (by decide), es 31 (by decide) (by decide) (by decide)]
          exact f3
      · refine RT_fr (inv.2.1 h (by omega)) (by omega) rt ⟨fun f k hf hk => ?_, rfl, fun _ => rfl, fun _ _ _ _ => rfl⟩ ⟨fun f k hf hk => ?_, rfl, fun k _ => ?_⟩ ag
        · have w := of_decide_eq_true hf
          show U f _ = z.1 f _
          by_cases y1 : f = 114
          · subst y1
            have hk1 : k < 1 := hk
            rw [z114, if_neg (by show ¬ 1 * h + k = j; omega)]
          · rw [ez f (by omega)]
        · have w := of_decide_eq_true hf
          show s' f _ = y.1 f _
          by_cases y1 : f = 55
          · subst y1
            have hk1 : k < 1 := hk
            rw [s55, if_neg (by show ¬ 1 * h + k = j; omega)]
          · rw [es f (by omega) y1 (by omega)]
        · show s' 43 _ = y.1 43 _
          rw [es 43 (by decide) (by decide) (by decide)]
    · show ¬ s' 11 j = 0 ∧ s' 12 j = 0
      rw [es 11 (by decide) (by decide) (by decide), es 12 (by decide) (by decide) (by decide)]; exact ⟨h11, h12⟩
    · show U 122 0 = _; rw [ez 122 (by decide)]; exact ch1
    · show U 123 0 = s' 8 j; rw [ez 123 (by decide), es 8 (by decide) (by decide) (by decide)]; exact ch2
    · show U 133 0 = s' 53 j; rw [ez 133 (by decide), es 53 (by decide) (by decide) (by decide)]; exact ch3
    · show U 135 0 = s' 56 j; rw [z135, s56, ch4, d56]
    · have hi' : i < cl (s' 53 j) := hi
      rw [es 53 (by decide) (by decide) (by decide)] at hi'
      obtain ⟨x, x1, x2⟩ := ch5 i hi'
      refine ⟨x, ?_, ?_⟩
      · show z.2.2.1 4 (k_wr rm (cl (U 132 0) + i)) = some x
        rw [ez 132 (by decide)]; exact x1
      · show EV s' y.2 (cl (s' 52 (64 * j + i))) (z.2.2.2 x)
        rw [es 52 (by decide) (by decide) (by decide)]; exact EV_ag ag x2
    · have hi' : i < cl (s' 56 j) := hi
      rw [s56, d56, cl_nI (by omega)] at hi'
      obtain ⟨x, x1, x2⟩ := ch6 (i + 1) (by omega)
      refine ⟨x, ?_, ?_⟩
      · show z.2.2.1 5 (k_wr rm (cl (U 134 0) + i)) = some x
        rw [z134, cl_nI (by have := k_wr_lt (L := rm) (x := cl (z.1 134 0) + 1) (by omega); omega), wr_adv (by omega) (by omega)]; exact x1
      · show EV s' y.2 (cl (s' 54 (64 * j + i))) (z.2.2.2 x)
        rw [s54 i (by omega)]; exact EV_ag ag x2
    · have hi' : i < cl (s' 53 j) := hi
      rw [es 53 (by decide) (by decide) (by decide)] at hi'
      show s' 54 (64 * j + (cl (s' 56 j) + i)) = s' 52 (64 * j + i)
      rw [s56, d56, cl_nI (by omega), s54 _ (by omega), es 52 (by decide) (by decide) (by decide), show cl (y.1 56 j) - 1 + i + 1 = cl (y.1 56 j) + i by omega]
      exact ch7 i hi'
  · obtain ⟨x, x1, x2⟩ := ch6 0 (by omega)
    rw [Nat.add_zero, show k_wr rm (cl (z.1 134 0)) = cl (z.1 134 0) by unfold k_wr; rw [if_pos (by omega)]] at x1
    exact ⟨x, x1, x2⟩
