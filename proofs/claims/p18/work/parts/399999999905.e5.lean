theorem w_outB {pg j q : Nat} {u0 s u : (Nat → Nat → Int32)} {v : Int32} (H : w_W pg j u0 s u) (hq : q = cl (s 38 j)) : v_O j true s (m_puts s j (128 * j + q) 0 (v &&& 255) 0) ∧ w_W pg j u0 (m_puts s j (128 * j + q) 0 (v &&& 255) 0) (k_outB u j v) ∧ w_O j true q (m_puts s j (128 * j + q) 0 (v &&& 255) 0) (k_outB u j v) := by
  subst hq
  refine ⟨v_O_puts rfl rfl (fun _ _ _ => rfl) (by intro e; exact absurd e (by decide)) (.inl rfl) (by intro e; exact absurd e (by decide)) (fun _ => ⟨rfl, rfl, rfl⟩), ?_, ?_⟩
  · unfold k_outB
    refine w_W_s ?_ (fun f hf => puts_ne (by omega))
    exact w_W_o (f := 108) (i := 0) (w_W_107 (w_W_106 H)) (.inr (.inr rfl)) (fun _ => byt_n v) (by decide)
  · refine ⟨(by intro e; cases e), fun _ => ?_⟩
    rw [puts_39.1, puts_39.2.1]
    unfold k_outB
    refine ⟨by rw [u2_ne (by decide), u2_ne (by decide), u2_ss]; rfl, fun _ => ⟨by rw [u2_ne (by decide), u2_ss], ?_⟩, fun h => absurd h (by decide), fun h => absurd h (by decide)⟩
    rw [show 32 * j = 32 * j + 0 from rfl, u2_ss]; exact byte_and v
theorem w_sgood {pg j : Nat} {u0 s u : (Nat → Nat → Int32)} {v : Int32} (H : w_W pg j u0 s u) (h4 : s 4 0 = nI (256 * pg)) : k_sg u pg j v ↔ m_sgood s j v := by
  unfold k_sg m_sgood k_in
  rw [w_g1 25 H.1 rfl, h4, decide_eq_true_eq]
theorem w_outP {pg j q : Nat} {u0 s u : (Nat → Nat → Int32)} {v : Int32} (H : w_W pg j u0 s u) (hB : v_B (256 * pg) j s) (hg : m_sgood s j v) (hq : q = cl (s 38 j)) : v_O j true s (m_puts (m_wpk s j q (cl v) (cl (s 25 j))) j (128 * j + q) 1 (s 25 j) 0) ∧ w_W pg j u0 (m_puts (m_wpk s j q (cl v) (cl (s 25 j))) j (128 * j + q) 1 (s 25 j) 0) (k_outP u j (cl v) (cl (u 25 j))) ∧ w_O j true q (m_puts (m_wpk s j q (cl v) (cl (s 25 j))) j (128 * j + q) 1 (s 25 j) 0) (k_outP u j (cl v) (cl (u 25 j))) := by
  subst hq
  obtain ⟨N, hN, eN⟩ := sg_n hg.1 hg.2.1
  have cN : cl (s 25 j) = N := by rw [eN, cl_nI (by omega)]
  have h3 := hg.2.2
  rw [hB.1, eN] at h3
  have hA : cl v + N ≤ 256 * pg := v_inN hB.2.2.1 (by have := hB.2.1; omega) h3
  rw [w_g1 25 H.1 rfl, cN]
  refine ⟨v_O_puts ?_ ?_ ?_ (fun _ => ⟨N, hN, eN⟩) (.inr (.inl rfl)) (by intro e; exact absurd e (by decide)) ?_, ?_, ?_⟩
  · rw [m_wpk_ne (by decide)]
  · rw [m_wpk_ne (by decide)]
  · intro f h1 h2; rw [m_wpk_ne (by omega)]
  · intro _; rw [m_wpk_ne (by decide), m_wpk_ne (by decide), m_wpk_ne (by decide)]; exact ⟨rfl, rfl, rfl⟩
  · unfold k_outP
    refine w_W_s (w_W_cp (w_W_107 (w_W_106 H)) hN) (fun f hf => ?_)
    rw [puts_ne (by omega), m_wpk_ne (by omega)]
  · refine ⟨(by intro e; cases e), fun _ => ?_⟩
    rw [puts_39.1, puts_39.2.1]
    unfold k_outP
    refine ⟨by rw [k_cp_ne (by decide), u2_ne (by decide), u2_ss]; rfl, fun h => absurd h (by decide), fun _ => ⟨by rw [k_cp_ne (by decide), u2_ss, eN], ?_⟩, fun h => absurd h (by decide)⟩
    intro t ht
    rw [cN] at ht
    rw [puts_ne (by omega), wpk_v N t ht, show 32 * j + t = 32 * j + 0 + t from rfl, k_cp_in ht, u2_ne (by decide), u2_ne (by decide), show 4096 * j + cl v + t = 4096 * j + (cl v + t) by omega, w_gm H.1 hB.2.2.1 (by omega)]
    have := hB.2.2.2.2.2.2.2.2 15 (4096 * j + (cl v + t)) (by omega)
    unfold byt at this
    exact this.symm
theorem w_none {j q : Nat} {s s' u u' : (Nat → Nat → Int32)} (h : u' 106 j = 0) : w_O j false q s' u' := ⟨fun _ => h, by intro e; cases e⟩
theorem w_wdev {pg j q t : Nat} {u0 s u : (Nat → Nat → Int32)} {v : Int32} (H : w_W pg j u0 s u) (hB : v_B (256 * pg) j s) (hp : pg ≤ 16) (h106 : u 106 j = 0) (hq : q = cl (s 38 j)) : ∃ o, v_O j o s (m_wdev s j q (cl (s 35 j)) (cl (s 34 (4 * j))) t v) ∧ w_W pg j u0 (m_wdev s j q (cl (s 35 j)) (cl (s 34 (4 * j))) t v) (k_wdev u pg j (cl (u 104 j)) (cl (u 35 j)) (cl (u 102 (4 * j + cl (u 104 j)))) t v) ∧ w_O j o q (m_wdev s j q (cl (s 35 j)) (cl (s 34 (4 * j))) t v) (k_wdev u pg j (cl (u 104 j)) (cl (u 35 j)) (cl (u 102 (4 * j + cl (u 104 j)))) t v) := by
  have pl : ∀ f, (w_pl f && decide (v_s f = 1)) = true → ∀ x : Int32, kp f = false → ∃ o, v_O j o s (u2 s f j x) ∧ w_W pg j u0 (u2 s f j x) (u2 u f j x) ∧ w_O j o q (u2 s f j x) (u2 u f j x) := by
    intro f hf x hk
    refine ⟨false, v_O_k (kp_u kp_rf hk), w_W_1 f H hf rfl, w_none (s := s) (u := u) ?_⟩
    rw [u2_ne (by intro e; subst e; cases hf)]; exact h106
  unfold m_wdev k_wdev
  by_cases e : t = 4
  · rw [if_pos e, if_pos e]; exact pl 22 rfl v rfl
  rw [if_neg e, if_neg e]
  by_cases e : t = 12
  · rw [if_pos e, if_pos e]; exact ⟨true, w_outB H hq⟩
  rw [if_neg e, if_neg e]
  by_cases e : t = 16
  · rw [if_pos e, if_pos e]; exact pl 23 rfl v rfl
  rw [if_neg e, if_neg e]
  by_cases e : t = 20
  · rw [if_pos e, if_pos e]; exact pl 24 rfl v rfl
  rw [if_neg e, if_neg e]
  by_cases e : t = 24
  · rw [if_pos e, if_pos e]; exact w_asks H hB h106 hq
  rw [if_neg e, if_neg e]
  by_cases e : t = 28
  · rw [if_pos e, if_pos e]; exact pl 25 rfl v rfl
  rw [if_neg e, if_neg e]
  by_cases e : t = 32
  · rw [if_pos e, if_pos e]
    by_cases g : m_sgood s j v
    · rw [if_pos g, if_pos ((w_sgood H hB.1).mpr g)]; exact ⟨true, w_outP H hB g hq⟩
    · rw [if_neg g, if_neg (fun h => g ((w_sgood H hB.1).mp h))]
      exact ⟨false, v_O_k kp_rf, H, w_none (s := s) (u := u) h106⟩
  rw [if_neg e, if_neg e]
  by_cases e : t = 36
  · rw [if_pos e, if_pos e]
    have hpf := H.2.2.1.1.2
    have ez : cl (s 35 j) ≠ 0 → cl (u 102 (4 * j + cl (u 104 j))) = cl (s 34 (4 * j)) := by
      intro h
      have := (H.2.2.1.2 0 (by omega)).1
      rw [show (cl (u 104 j) + 0) % 4 = cl (u 104 j) by omega] at this
      rw [this]; rfl
    have key := w_receives (q := cl (s 35 j)) (z := cl (s 34 (4 * j))) (v := v) H hB hp rfl rfl
    have same : (if cl (u 35 j) = 0 ∨ k_in pg v (nI (cl (u 102 (4 * j + cl (u 104 j))))) = false then u else k_rec u j (cl (u 104 j)) (cl (u 35 j) - 1) (cl v) (cl (u 102 (4 * j + cl (u 104 j))))) = (if cl (s 35 j) = 0 ∨ k_in pg v (nI (cl (s 34 (4 * j)))) = false then u else k_rec u j (cl (u 104 j)) (cl (s 35 j) - 1) (cl v) (cl (s 34 (4 * j)))) := by
      rw [w_g1 35 H.1 rfl]
      by_cases h0 : cl (s 35 j) = 0
      · rw [if_pos (.inl h0), if_pos (.inl h0)]
      · rw [ez h0]
    rw [same]
    refine ⟨false, v_O_k ?_, key, w_none (s := s) (u := u) ?_⟩
    · intro f hf
      have h0 : f ≠ 34 ∧ f ≠ 36 ∧ f ≠ 35 ∧ f ≠ 15 ∧ f ≠ 63 := by
        unfold kp at hf; have := of_decide_eq_true hf; omega
      unfold m_receives
      split
      · rfl
      · rw [m_recs_ne h0.1 h0.2.1, u2_ne h0.2.2.1, m_recw_ne h0.2.2.2.1 h0.2.2.2.2]
    · split
      · exact h106
      · unfold k_rec k_drpP; rw [u2_ne (by decide), u2_ne (by decide), k_wbl_ne (by decide) (by decide)]; exact h106
  rw [if_neg e, if_neg e]
  by_cases e : t = 40
  · rw [if_pos e, if_pos e]; exact pl 26 rfl v rfl
  rw [if_neg e, if_neg e]
  exact ⟨false, v_O_k kp_rf, H, w_none (s := s) (u := u) h106⟩
