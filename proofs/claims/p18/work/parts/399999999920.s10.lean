theorem wF_ne {j f : Nat} {u u' : (Nat → Nat → Int32)} (h : w_F j u u') (hf : ¬ ((15 ≤ f ∧ f ≤ 37) ∨ (100 ≤ f ∧ f ≤ 108))) : u' f = u f := by
  funext i
  rcases h f i with q | q
  · exact q
  · exact absurd q.1 hf
theorem gi_ne {u : (Nat → Nat → Int32)} {j F : Nat} (h : F ≠ 7 ∧ F ≠ 72 ∧ F ≠ 73 ∧ F ≠ 112 ∧ F ≠ 38 ∧ (F < 113 ∨ 116 < F) ∧ (F < 125 ∨ 131 < F)) : k_gi u j F = u F := by
  obtain ⟨h1, h2, h3, h4, h5, h6, h7⟩ := h
  have e : k_go1 u j F = u F := by unfold k_go1; rw [k_lvP_ne h6, u2_ne h1]
  unfold k_gi
  by_cases q : u 7 j = 3 ∧ u 121 j = 0
  · rw [if_pos q]; unfold k_go
    by_cases r : k_kop (k_go1 u j) j (cl (u 112 j)) (cl (u 38 j)) = false ∧ u 27 j = 1
    · rw [if_pos r, k_dap_ne h7, k_la_ne ⟨h2, h3, h4, h5⟩ h7, e]
    · rw [if_neg r, k_la_ne ⟨h2, h3, h4, h5⟩ h7, e]
  · rw [if_neg q]
theorem te0_ne {u : (Nat → Nat → Int32)} {j F : Nat} (h : F ≠ 120 ∧ F ≠ 121) : k_te0 u j F = u F := k_te0_ne h
theorem te1_ne {u : (Nat → Nat → Int32)} {pg j F : Nat} {e : ED} (h : F ≠ 33 ∧ F ≠ 100 ∧ F ≠ 35 ∧ F ≠ 102 ∧ F ≠ 103 ∧ F ≠ 21 ∧ F ≠ 27 ∧ F ≠ 15 ∧ F ≠ 105) (h2 : F ≠ 120 ∧ F ≠ 121 ∧ F ≠ 112 ∧ F ≠ 38) : k_te1 u pg j e F = u F := by
  unfold k_te1 k_te2
  rw [k_drop_ne h2.2.2.1 h2.2.2.2, k_rcv_n2 h, te0_ne ⟨h2.1, h2.2.1⟩]
theorem tea_e {ca : Nat → Nat → Nat} {n rm j : Nat} {h : xH} {ε : Nat → ED} {ρ : Nat → Nat → Option Nat} {u : (Nat → Nat → Int32)} (H : QQ ca n rm h ε ρ u) (hj : j < n) (h0 : ¬ u 121 j = 0) : EA ca n h (k_tea ρ u j) (ε (k_tea ρ u j)) ∧ 1 ≤ cl (u 121 j) ∧ ρ j (cl (u 120 j)) = some (k_tea ρ u j) := by
  obtain ⟨p1, p2, p3⟩ := H.1 j hj
  have hc : 1 ≤ cl (u 121 j) := by
    rcases Nat.lt_or_ge 0 (cl (u 121 j)) with q | q
    · exact q
    · exact absurd (by rw [p2.1, show cl (u 121 j) = 0 by omega]; rfl) h0
  obtain ⟨a, e, x⟩ := p3 0 (by omega)
  rw [show k_wr 512 (cl (u 120 j) + 0) = cl (u 120 j) from if_pos (by have := p1.2; omega)] at e
  have et : k_tea ρ u j = a := by unfold k_tea; rw [e]; rfl
  rw [et]; exact ⟨x, hc, e⟩
theorem SQ_te1 {ca : Nat → Nat → Nat} {n pg rm c j : Nat} {h : xH} {ε : Nat → ED} {ρ : Nat → Nat → Option Nat} {u : (Nat → Nat → Int32)} (hn : n ≤ 4) (hp : pg ≤ 16) (S : SC n pg rm c u) (H : QQ ca n rm h ε ρ u) (hj : j < n) (h0 : ¬ u 121 j = 0) : SC n pg rm c (k_te1 u pg j (ε (k_tea ρ u j))) ∧ QQ ca n rm h ε ρ (k_te1 u pg j (ε (k_tea ρ u j))) := by
  obtain ⟨x, hc, -⟩ := tea_e H hj h0
  have S0 : SC n pg rm c (k_te0 u j) := SC_u 121 hn (SC_u 120 hn S (by decide) (by decide)) (by decide) (by decide)
  refine ⟨SC_drop hn (SC_rcv hn hp S0 hj x.2) ((S.1.2.2.2.2 j hj).2.1.2), ?_⟩
  have H0 : QQ ca n rm h ε ρ (k_te0 u j) := by
    unfold QQ
    rw [te0_ne (F := 132) (by decide), te0_ne (F := 133) (by decide), te0_ne (F := 134) (by decide), te0_ne (F := 135) (by decide)]
    refine ⟨fun t ht => ?_, H.2⟩
    obtain ⟨p1, p2, p3⟩ := H.1 t ht
    unfold k_te0
    rw [u2_ne (show (120 : Nat) ≠ 121 by decide)]
    by_cases q : t = j
    · subst q
      have hw := k_wr_lt (L := 512) (x := cl (u 120 t) + 1) (by have := p1.2; omega)
      rw [u2_ss, u2_ss, cl_nI (by omega), cl_nI (by have := p2.2; omega)]
      exact ⟨nb_n (by omega) (by decide), nb_n (by have := p2.2; omega) (by decide), p3.adv (by have := p1.2; omega) p2.2⟩
    · rw [u2_sn q, u2_sn q, u2_ne (show (121 : Nat) ≠ 120 by decide)]; exact ⟨p1, p2, p3⟩
  refine H0.nf (fun f hf => ?_)
  unfold k_te1 k_te2
  rw [k_drop_ne (by omega) (by omega), k_rcv_n2 (by omega)]
theorem SQ_te {ca : Nat → Nat → Nat} {n pg rm c j : Nat} {h : xH} {ε : Nat → ED} {ρ : Nat → Nat → Option Nat} {τ : (Nat → Nat → Int64)} (hn : n ≤ 4) (hp : pg ≤ 16) (hj : j < n) : ∀ (m : Nat) (u : (Nat → Nat → Int32)), SC n pg rm c u → QQ ca n rm h ε ρ u → SC n pg rm c (k_te ε ρ τ pg j m u) ∧ QQ ca n rm h ε ρ (k_te ε ρ τ pg j m u)
  | 0, u, S, H => ⟨S, H⟩
  | m + 1, u, S, H => by
    unfold k_te
    by_cases q : ¬ u 121 j = 0 ∧ (ε (k_tea ρ u j)).2.2.2.1 = τ 19 j
    · rw [if_pos q]
      obtain ⟨S1, H1⟩ := SQ_te1 hn hp S H hj q.1
      exact SQ_te hn hp hj m _ S1 H1
    · rw [if_neg q]; exact ⟨S, H⟩
theorem te_ne {ε : Nat → ED} {ρ : Nat → Nat → Option Nat} {τ : (Nat → Nat → Int64)} {pg j F : Nat} (h : F ≠ 33 ∧ F ≠ 100 ∧ F ≠ 35 ∧ F ≠ 102 ∧ F ≠ 103 ∧ F ≠ 21 ∧ F ≠ 27 ∧ F ≠ 15 ∧ F ≠ 105) (h2 : F ≠ 120 ∧ F ≠ 121 ∧ F ≠ 112 ∧ F ≠ 38) : ∀ (m : Nat) (u : (Nat → Nat → Int32)), k_te ε ρ τ pg j m u F = u F
  | 0, u => rfl
  | m + 1, u => by
    unfold k_te
    by_cases q : ¬ u 121 j = 0 ∧ (ε (k_tea ρ u j)).2.2.2.1 = τ 19 j
    · rw [if_pos q, te_ne h h2 m, te1_ne h h2]
    · rw [if_neg q]
theorem SQ_ad0 {ca : Nat → Nat → Nat} {n pg rm c j : Nat} {h : xH} {ε : Nat → ED} {ρ : Nat → Nat → Option Nat} {τ : (Nat → Nat → Int64)} {u : (Nat → Nat → Int32)} (hn : n ≤ 4) (hp : pg ≤ 16) (hj : j < n) (S : SC n pg rm c u) (H : QQ ca n rm h ε ρ u) : SC n pg rm c (k_ad0 ε ρ τ pg j u) ∧ QQ ca n rm h ε ρ (k_ad0 ε ρ τ pg j u) := by
  unfold k_ad0
  by_cases q : u 7 j = 2 ∨ u 7 j = 3
  · rw [if_pos q]
    obtain ⟨S1, H1⟩ := SQ_te (τ := τ) hn hp hj (cl (u 121 j)) u S H
    exact ⟨SC_gi hn S1 hj, H1.nf (fun f hf => gi_ne (by omega))⟩
  · rw [if_neg q]; exact ⟨S, H⟩
theorem SQ_ad3 {ca : Nat → Nat → Nat} {n pg rm c j : Nat} {h : xH} {ε : Nat → ED} {ρ : Nat → Nat → Option Nat} {τ : (Nat → Nat → Int64)} {u : (Nat → Nat → Int32)} (hn : n ≤ 4) (hp : pg ≤ 16) (hj : j < n) (S : SC n pg rm c u) (H : QQ ca n rm h ε ρ u) : SC n pg rm c (k_ad3 τ pg j u) ∧ QQ ca n rm h ε ρ (k_ad3 τ pg j u) ∧ w_F j u (k_ad3 τ pg j u) ∧ (k_ad3 τ pg j u 106 j = 0 ∨ (nb (k_ad3 τ pg j u 107 j) 32 ∧ m_irq (u2 u 20 j 0) j = false ∧ k_isOut (u2 u 20 j 0) pg j = true)) := by
  obtain ⟨k1, k2, k3, k4⟩ := KH_ms (υ := τ) (S.2.1 j hj) hp (by omega)
  have hb := k1.Y
  refine ⟨⟨KD_by S.1 hb (fun F hF => wF_ne k2 (by omega)), fun t ht => ?_, fun t ht => ?_, KS_nf S.2.2.2 (fun f hf => wF_ne k2 (by omega))⟩, H.nf (fun f hf => wF_ne k2 (by omega)), k2, k4⟩
  · by_cases q : t = j
    · subst q; exact k1
    · exact KH_F (by omega) (S.2.1 t ht) k2 q hb
  · by_cases q : t = j
    · subst q; exact k3
    · rcases k2 20 t with e | e
      · show k_ms (u2 u 20 j 0) τ pg j 20 t = 0 ∨ k_ms (u2 u 20 j 0) τ pg j 20 t = 1
        rw [e]; exact S.2.2.1 t ht
      · have h1 : 1 * j ≤ t := e.2.1
        have h2 : t < 1 * j + 1 := e.2.2
        exact absurd (by omega) q
