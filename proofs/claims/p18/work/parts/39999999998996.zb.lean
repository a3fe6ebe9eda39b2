theorem RR_out {n pg rm c : Nat} {z z' : CZ} {y y' : RZ} (hp16 : pg ≤ 16) (hc : c ≤ 512) (Vh : ∀ h, h < n → Hw pg c y.1 h) (H : RR n pg rm c z y) (ez : ∀ f, f ≠ 72 → f ≠ 73 → z'.1 f = z.1 f) (ez2 : z'.2 = z.2) (ey : ∀ f, f ≠ 72 → f ≠ 73 → y'.1 f = y.1 f) (ey2 : y'.2 = y.2) : RR n pg rm c z' y' := by
  obtain ⟨hg, hh, hp, hd', hx, ht, hm⟩ := H
  have ag : AgE y.1 y'.1 y.2 y'.2 := AgE_ne (fun f h1 h2 => ey f (by omega) (by omega)) (by rw [ey2])
  refine ⟨RG_nf hg (fun f hf => ez f (by omega) (by omega)) (fun f hf => ey f (by omega) (by omega)), fun h hhn => ?_, RP_fr hp (fun f hf => ez f (by omega) (by omega)) (fun i => by rw [ez2]; exact ⟨rfl, rfl⟩) (fun _ _ _ _ => by rw [ez2]) (fun _ _ _ _ => by rw [ez2]) (fun f hf => ey f (by omega) (by omega)) ag, RD_fr hd' (fun f h1 h2 => ez f (by omega) (by omega)) (fun f h1 h2 => ey f (by omega) (by omega)), EX_nf hx (Nat.le_refl _) (fun f hf => ey f (by omega) (by omega)), TK_nf ht (Nat.le_refl _) (fun f hf => ey f (by omega) (by omega)), CM_nf hm (fun f hf => ey f (by omega) (by omega))⟩
  have V := Vh h hhn
  refine RH_frw V hp16 (by omega) (hh h hhn) (CS.nf (fun f hf => ?_) ez2) (RS.nf (fun f hf => ?_) ey2) ag (fun q => ⟨by rw [← ey 61 (by decide) (by decide)]; exact q, fun p _ => by rw [ey 63 (by decide) (by decide)]⟩)
  · have := of_decide_eq_true hf; exact ez f (by omega) (by omega)
  · have : f < 72 := by
      rcases hf with q | q
      · have := of_decide_eq_true q; omega
      · omega
    exact ey f (by omega) (by omega)
theorem lvw_v {σ : (Nat → Nat → Int32)} {K P : Nat} : ∀ n q x, x < 64 → n ≤ 64 → m_lvw σ K P n 71 (64 * q + x) = if q = P ∧ x < n then (σ 43 (64 * K + x)).toInt8.toInt32 else σ 71 (64 * q + x)
  | 0, q, x, _, _ => by rw [if_neg (by omega)]; rfl
  | n + 1, q, x, hx, hn => by
    unfold m_lvw
    by_cases e : q = P ∧ x = n
    · rw [e.1, e.2, u2_ss, if_pos ⟨rfl, by omega⟩]
    · rw [u2_sn (by omega), lvw_v n q x hx (by omega)]
      by_cases h : q = P ∧ x < n
      · rw [if_pos h, if_pos (by omega)]
      · rw [if_neg h, if_neg (by omega)]
theorem RR_lv0 {n pg rm c j : Nat} {z : CZ} {y : RZ} {kd ln : Int32} {gg : Nat → Int32} (hp16 : pg ≤ 16) (hn4 : n ≤ 4) (hc : c ≤ 512) (hby : BYa y.1) (Vh : ∀ h, h < n → Hw pg c y.1 h) (H : RR n pg rm c z y) (hj : j < n) (g : gst y.1 j) (b66 : nb (y.1 66 0) 4000) (h65 : cl (y.1 65 0) ≤ cl (y.1 66 0)) (k0 : 0 < cl (y.1 38 j)) (k3 : y.1 39 (128 * j) = 0 ∨ y.1 39 (128 * j) = 1 ∨ y.1 39 (128 * j) = 2) (k2 : y.1 39 (128 * j) = 2 → y.1 27 j = 1 ∧ y.1 40 (128 * j) = y.1 28 j ∧ y.1 41 (128 * j) = y.1 29 j ∧ NW j y.1) (ek : kd = y.1 39 (128 * j) + 1) : RR n pg rm c (k_lv z.1 j kd ln gg, z.2) (m_lv0 y.1 j, y.2) := by
  by_cases q : y.1 39 (128 * j) = 2
  · obtain ⟨h27, e40, e41, w⟩ := k2 q
    have e1 : k_lv z.1 j kd ln gg = k_dap z.1 j := by unfold k_lv; rw [ek, q, if_pos (by decide)]
    have e43 : ∀ x, x < 64 → y.1 43 (64 * (128 * j) + x) = y.1 31 (64 * j + x) := fun x hx => by
      have := ((H.2.1 j hj).2.2.2.2.2.2.2.2.1 g).2 0 k0
      exact this.2 q x hx
    have e2 : m_lv0 y.1 j = m_oper (m_lvw y.1 (128 * j) (cl (y.1 66 0)) 64) j (cl (y.1 66 0)) (y.1 40 (128 * j)) (y.1 41 (128 * j)) := by
      unfold m_lv0; rw [q, if_neg (by decide), if_neg (by decide)]
    rw [e1, e2]
    refine RR_op hp16 hn4 hc Vh H hj g w h27 b66 h65 (fun f hf => ?_) ?_ (fun x => ?_) (fun x => ?_) (fun x => ?_) (fun x => ?_) (fun p x hx => ?_)
    · rw [m_oper_ne (by omega) (by omega) (by omega) (by omega) (by omega), m_lvw_ne (by omega)]
    · unfold m_oper; rw [u2_ss, m_lvw_ne (by decide)]
    · unfold m_oper; rw [u2_ne (by decide), u2_ne (by decide), u2_ne (by decide), u2_ne (by decide), u2_i, m_lvw_ne (by decide)]
    · unfold m_oper; rw [u2_ne (by decide), u2_ne (by decide), u2_ne (by decide), u2_i, u2_ne (by decide), m_lvw_ne (by decide), m_lvw_ne (by decide)]
    · unfold m_oper; rw [u2_ne (by decide), u2_ne (by decide), u2_i, u2_ne (by decide), u2_ne (by decide), m_lvw_ne (by decide), e40]
    · unfold m_oper; rw [u2_ne (by decide), u2_i, u2_ne (by decide), u2_ne (by decide), u2_ne (by decide), m_lvw_ne (by decide), e41]
    · rw [m_oper_ne (by decide) (by decide) (by decide) (by decide) (by decide), lvw_v 64 p x hx (by omega)]
      by_cases qq : p = cl (y.1 66 0)
      · rw [if_pos ⟨qq, hx⟩, if_pos qq, e43 x hx]; exact hby 31 _ (Or.inr (Or.inl rfl))
      · rw [if_neg (fun a => qq a.1), if_neg qq]
  · have nk : ¬ kd = 3 := by
      rcases k3 with e | e | e
      · rw [ek, e]; decide
      · rw [ek, e]; decide
      · exact absurd e q
    refine RR_out hp16 hc Vh H (fun f h1 h2 => ?_) rfl (fun f h1 h2 => ?_) rfl
    · show k_lv z.1 j kd ln gg f = _
      unfold k_lv; rw [if_neg nk, k_lvo_ne h1 h2, k_lv1_ne h1 h2]
    · show m_lv0 y.1 j f = _
      unfold m_lv0
      split
      · rw [m_outer_ne h1 h2]
      · split
        · rw [m_lvo_ne h1 h2, m_outer_ne h1 h2]
        · rcases k3 with e | e | e
          · contradiction
          · contradiction
          · exact absurd e q
