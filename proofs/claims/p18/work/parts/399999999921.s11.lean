def FRQ (n rm : Nat) (ρ : Nat → Nat → Option Nat) (u : (Nat → Nat → Int32)) (a : Nat) : Prop := (∀ j i, j < n → i < cl (u 121 j) → ρ j (k_wr 512 (cl (u 120 j) + i)) ≠ some a) ∧ (∀ i, i < cl (u 133 0) → ρ 4 (k_wr rm (cl (u 132 0) + i)) ≠ some a) ∧ (∀ i, i < cl (u 135 0) → ρ 5 (k_wr rm (cl (u 134 0) + i)) ≠ some a)
theorem QC.fr {ca : Nat → Nat → Nat} {n q L f z a : Nat} {h : xH} {ε : Nat → ED} {ρ : Nat → Nat → Option Nat} (H : QC ca n h ε ρ q L f z) (ha : h a = none) (i : Nat) (hi : i < z) : ρ q (k_wr L (f + i)) ≠ some a := fun q => by
  obtain ⟨b, e, x⟩ := H i hi
  rw [q] at e; cases e; exact x.ne ha rfl
theorem QQ.fr {ca : Nat → Nat → Nat} {n rm a : Nat} {h : xH} {ε : Nat → ED} {ρ : Nat → Nat → Option Nat} {u : (Nat → Nat → Int32)} (H : QQ ca n rm h ε ρ u) (ha : h a = none) : FRQ n rm ρ u a :=
  ⟨fun j i hj hi => (H.1 j hj).2.2.fr ha i hi, fun i hi => H.2.1.fr ha i hi, fun i hi => H.2.2.fr ha i hi⟩
theorem EK_0 {ct : Int64} {lf : Int32} : EK (0, 0, none, ct, lf) := ⟨fun q => absurd q (show ¬ (0 : Int32) = 1 by decide), fun q => absurd q (show ¬ (0 : Int32) = 2 by decide), fun q => absurd q (show ¬ (0 : Int32) = 4 by decide), fun _ _ => rfl⟩
theorem EA_of {ca : Nat → Nat → Nat} {n a : Nat} {h : xH} {d : ED} (x : EN1 ca n h a d.1 d.2.1 d.2.2.1 d.2.2.2.1 d.2.2.2.2) (k : EK d) : EA ca n h a d := ⟨⟨x, k.bo⟩, k⟩
theorem lvP_v {u : (Nat → Nat → Int32)} {j F : Nat} (h : F = 113 ∨ F = 114 ∨ F = 115 ∨ F = 116) : k_lvP u j F j = 0 := by
  unfold k_lvP
  rcases h with e | e | e | e <;> subst e
  · rw [u2_ss]
  · rw [u2_ne (by decide), u2_ss]
  · rw [u2_ne (by decide), u2_ne (by decide), u2_ne (by decide), u2_ss]
  · rw [u2_ne (by decide), u2_ne (by decide), u2_ss]
theorem gi_v {u : (Nat → Nat → Int32)} {j : Nat} (q : u 7 j = 3 ∧ u 121 j = 0) : k_gi u j 7 j = 1 ∧ ∀ F, F = 113 ∨ F = 114 ∨ F = 115 ∨ F = 116 → k_gi u j F j = 0 := by
  have e : ∀ F, F ≠ 72 ∧ F ≠ 73 ∧ F ≠ 112 ∧ F ≠ 38 → F < 125 → k_gi u j F = k_go1 u j F := fun F h1 h2 => by
    unfold k_gi
    rw [if_pos q]; unfold k_go
    by_cases r : k_kop (k_go1 u j) j (cl (u 112 j)) (cl (u 38 j)) = false ∧ u 27 j = 1
    · rw [if_pos r, k_dap_ne (Or.inl h2), k_la_ne h1 (Or.inl h2)]
    · rw [if_neg r, k_la_ne h1 (Or.inl h2)]
  refine ⟨?_, fun F hF => ?_⟩
  · rw [e 7 (by decide) (by decide)]; unfold k_go1; rw [k_lvP_ne (by decide), u2_ss]
  · rw [e F (by omega) (by omega)]; unfold k_go1; exact lvP_v hF
theorem gi_n {u : (Nat → Nat → Int32)} {j : Nat} (q : ¬ (u 7 j = 3 ∧ u 121 j = 0)) : k_gi u j = u := by unfold k_gi; rw [if_neg q]
theorem ad0_1 {ε : Nat → ED} {ρ : Nat → Nat → Option Nat} {τ : (Nat → Nat → Int64)} {pg j : Nat} {u : (Nat → Nat → Int32)} (h : u 7 j = 1) : k_ad0 ε ρ τ pg j u = u := by unfold k_ad0; rw [if_neg (by rw [h]; decide)]
theorem ad0_v {ε : Nat → ED} {ρ : Nat → Nat → Option Nat} {τ : (Nat → Nat → Int64)} {pg j : Nat} {u : (Nat → Nat → Int32)} (h1 : ¬ u 7 j = 1) (h2 : k_ad0 ε ρ τ pg j u 7 j = 1) : k_ad0 ε ρ τ pg j u 115 j = 0 := by
  unfold k_ad0 at h2 ⊢
  by_cases q : u 7 j = 2 ∨ u 7 j = 3
  · rw [if_pos q] at h2 ⊢
    by_cases r : k_te ε ρ τ pg j (cl (u 121 j)) u 7 j = 3 ∧ k_te ε ρ τ pg j (cl (u 121 j)) u 121 j = 0
    · exact (gi_v r).2 115 (by omega)
    · rw [gi_n r, te_ne (by decide) (by decide)] at h2; exact absurd h2 h1
  · rw [if_neg q] at h2; exact absurd h2 h1
def StX (n pg rm j : Nat) (X : Nat → (Nat → Nat → Int32) → (Nat → Nat → Int64) → (Nat → Nat → Option Nat) → (Nat → ED) → Prop) (t : Nat) (u : (Nat → Nat → Int32)) (υ : (Nat → Nat → Int64)) (ϱ : Nat → Nat → Option Nat) (η : Nat → ED) : Prop :=
  (k_adG n pg j (k_ad0 η ϱ υ pg j u) → k_ad3 υ pg j (k_ad0 η ϱ υ pg j u) 106 j = 0 → X (t + 1) (k_ad3 υ pg j (k_ad0 η ϱ υ pg j u)) (t2 υ 19 j (υ 19 j + 1)) ϱ η) ∧
  (k_adG n pg j (k_ad0 η ϱ υ pg j u) → ¬ k_ad3 υ pg j (k_ad0 η ϱ υ pg j u) 106 j = 0 → (k_ad3 υ pg j (k_ad0 η ϱ υ pg j u) 7 j = 1 → k_ad3 υ pg j (k_ad0 η ϱ υ pg j u) 115 j = 0) → X (t + 1) (k_hd0 (k_ad4 υ pg j (k_ad0 η ϱ υ pg j u)) j) (t2 υ 19 j (υ 19 j + 1)) ϱ η) ∧
  (k_adG n pg j (k_ad0 η ϱ υ pg j u) → ¬ k_ad3 υ pg j (k_ad0 η ϱ υ pg j u) 106 j = 0 → k_ad3 υ pg j (k_ad0 η ϱ υ pg j u) 7 j = 1 → ¬ k_ad3 υ pg j (k_ad0 η ϱ υ pg j u) 115 j = 0 → ∀ a, FRQ n rm ϱ (k_ad0 η ϱ υ pg j u) a → X (t + 1) (k_icS (k_kp (k_ad4 υ pg j (k_ad0 η ϱ υ pg j u)) j) rm j) (t2 υ 19 j (υ 19 j + 1)) (k_icR ϱ (k_ad4 υ pg j (k_ad0 η ϱ υ pg j u)) rm j a) (eu η a (0, 0, none, t2 υ 19 j (υ 19 j + 1) 19 j, k_ad4 υ pg j (k_ad0 η ϱ υ pg j u) 37 j - k_kp (k_ad4 υ pg j (k_ad0 η ϱ υ pg j u)) j 38 j)))
set_option maxHeartbeats 1000000 in
theorem cr_run {G : xG} {ro : xR} {sv : Nat → Value} (hG : x_Good G ro sv) {d t0 c : Nat} {ca : Nat → Nat → Nat} {n pg rm : Nat} {σ : Nat → Nat → Int32} {τ : Nat → Nat → Int64} {ρ : Nat → Nat → Option Nat} {h : xH} {Q : xQ} {ε : Nat → ED} {i s : Int32} {fb : Nat → Int32} (hs0 : sv 0 = .ref t0) (hro : ro t0 = some (7, fb)) (hfb : ∀ c, c < 7 → fb c = x_bits c) (hC : RepC ca n pg rm σ τ ρ h) (hp4 : 4 ≤ pg) (hr1 : 1 ≤ rm) (hc : c ≤ 511) (S : SC n pg rm c σ) (H : QQ ca n rm h ε ρ σ)
    (hQ0 : (¬ ∃ j N, j < n ∧ N ≤ 2000 ∧ i = nI j ∧ s = nI N) → Q (some (.int (-1))) h)
    (hQ1 : ∀ j N, j < n → N ≤ 2000 → i = nI j → s = nI N → ∃ X : Nat → (Nat → Nat → Int32) → (Nat → Nat → Int64) → (Nat → Nat → Option Nat) → (Nat → ED) → Prop, X 0 σ τ ρ ε ∧ (∀ t u υ ϱ η hx, t < N → X t u υ ϱ η → SC n pg rm c u → QQ ca n rm hx η ϱ u → StX n pg rm j X t u υ ϱ η ∧ (¬ k_adG n pg j (k_ad0 η ϱ υ pg j u) → ∀ ς h', k_adE n j (k_ad0 η ϱ υ pg j u) ς → RepC ca n pg rm ς υ ϱ h' → SC n pg rm c ς → QQ ca n rm h' η ϱ ς → CX ca n h h' → Q (some (.int (nI t))) h')) ∧ (∀ u υ ϱ η h', X N u υ ϱ η → RepC ca n pg rm u υ ϱ h' → SC n pg rm c u → QQ ca n rm h' η ϱ u → CX ca n h h' → Q (some (.int (nI N))) h')) : G (d + 8) n_X11_run 600 3000 0 [(0, .ref (ca 0 0)), (1, .int i), (2, .int s)] [] h 0 0 Q := by
  have hn4 := hC.2.2.1
  have hp16 := hC.2.2.2.1
  have hr := hC.2.2.2.2
  refine kk_run6 hG hC hQ0 (fun j N hj hN e1 e2 => ?_)
  obtain ⟨X, X0, X1, X2⟩ := hQ1 j N hj hN e1 e2
  refine ⟨fun t e hx => ∃ u υ ϱ η, RepC ca n pg rm u υ ϱ hx ∧ SC n pg rm c u ∧ QQ ca n rm hx η ϱ u ∧ CX ca n h hx ∧ X t u υ ϱ η ∧ (e : Int) - (u 114 j).toInt ≤ c ∧ (e = 0 ∨ u 7 j = 1), fun t hx => ∃ u υ ϱ η ς h0, t < N ∧ X t u υ ϱ η ∧ SC n pg rm c u ∧ QQ ca n rm h0 η ϱ u ∧ ¬ k_adG n pg j (k_ad0 η ϱ υ pg j u) ∧ k_adE n j (k_ad0 η ϱ υ pg j u) ς ∧ RepC ca n pg rm ς υ ϱ hx ∧ SC n pg rm c ς ∧ QQ ca n rm hx η ϱ ς ∧ CX ca n h hx, ?_, ?_, ?_, ?_, ?_⟩
  · exact ⟨σ, τ, ρ, ε, hC, S, H, CX.rf, X0, by have := (S.2.2.2.2.2.2.2.2 j hj).1; omega, Or.inl rfl⟩
  · rintro t e hx ⟨u, υ, ϱ, η, R, S1, H1, f1, x1, b1, b2⟩
    refine ⟨by have := (S1.2.2.2.2.2.2.2.2 j hj).2; omega, c_obj (k := 0) R Nat.zero_lt_one rfl rfl⟩
  · rintro t e hx ht ⟨u, υ, ϱ, η, R, S1, H1, f1, x1, b1, b2⟩
    have l1 := S1.2.2.2.2.2.2.2.2 j hj
    obtain ⟨⟨y1, y2, y3⟩, y4⟩ := X1 t u υ ϱ η hx ht x1 S1 H1
    obtain ⟨S2, H2⟩ := SQ_ad0 (τ := υ) hn4 hp16 hj S1 H1
    obtain ⟨S3, H3, F3, o3⟩ := SQ_ad3 (τ := υ) hn4 hp16 hj S2 H2
    generalize hu1 : k_ad0 η ϱ υ pg j u = u1 at y1 y2 y3 y4 S2 H2 S3 H3 F3 o3
    have hG1 : KG (k_ad0 η ϱ υ pg j u) j := by rw [hu1]; exact (S2.2.1 j hj).G
    have hK3 : ¬ k_ad3 υ pg j u1 106 j = 0 → KD n (k_ad3 υ pg j u1) ∧ nb (k_ad3 υ pg j u1 107 j) 32 ∧ nb (k_ad3 υ pg j u1 132 0) (rm - 1) ∧ nb (k_ad3 υ pg j u1 133 0) rm := fun q => ⟨S3.1, (o3.resolve_left q).1, S3.2.2.2.2.1, S3.2.2.2.2.2.1⟩
    have e7 : ∀ f, f = 7 ∨ f = 114 ∨ f = 115 → k_ad3 υ pg j u1 f = u1 f := fun f hf => wF_ne F3 (by omega)
    have l2 := S2.2.2.2.2.2.2.2.2 j hj
    have bb : (e : Int) - (u1 114 j).toInt ≤ c ∧ (e = 0 ∨ u1 7 j = 1) := by
      by_cases q : u 7 j = 1
      · rw [← hu1, ad0_1 q]; exact ⟨b1, b2⟩
      · have e0 : e = 0 := b2.resolve_right q
        exact ⟨by omega, Or.inl e0⟩
    by_cases big : k_adG n pg j u1 ∧ ¬ k_ad3 υ pg j u1 106 j = 0 ∧ k_ad3 υ pg j u1 7 j = 1 ∧ ¬ k_ad3 υ pg j u1 115 j = 0
    · obtain ⟨g1, g2, g3, g4⟩ := big
      have q7 : u1 7 j = 1 := by rw [← e7 7 (by omega)]; exact g3
      have q115 : ¬ u1 115 j = 0 := by rw [← e7 115 (by omega)]; exact g4
      have hroom : k_room u1 j = true := by
        obtain ⟨-, i1, i2⟩ := o3.resolve_left g2
        have := g1.2.2
        rw [i1, i2] at this
        have e : k_room (u2 u1 20 j 0) j = k_room u1 j := by unfold k_room; rw [u2_ne (by decide), u2_ne (by decide), u2_ne (by decide)]
        rw [e] at this
        cases hh : k_room u1 j with
        | true => rfl
        | false => exact absurd ⟨hh, rfl⟩ this
      have hlt := room_lt S2.2.2.2 hr q115 hroom
      refine ⟨1, by omega, by omega, fun Q' hE hK => ?_⟩
      refine kk_adv1 hG hs0 hro hfb R hj hp4 S1.1 ((S1.2.1 j hj).R) (H1.I hj) hr1 S1.2.2.2.2.1 S1.2.2.2.2.2.1 hG1 ?_ ?_ ?_ ?_ ?_
      · rw [hu1]; exact hK3
      · rw [hu1]; exact fun q => absurd g1 q
      · rw [hu1]; exact fun _ q => absurd q g2
      · rw [hu1]; exact fun _ _ q => absurd (q g3) g4
      · rw [hu1]
        intro _ _ _ _ a h' ha Rx x fx
        have S4 : SC n pg rm c (k_ad4 υ pg j u1) := SC_u 37 hn4 S3 (by decide) (by decide)
        have e4 : ∀ f, f ≠ 37 → k_ad4 υ pg j u1 f = k_ad3 υ pg j u1 f := fun f hf => by unfold k_ad4; rw [u2_ne hf]
        have S5 : SC n pg rm c (k_kp (k_ad4 υ pg j u1) j) := SC_keep hn4 S4 (by rw [e4 107 (by decide)]; exact (o3.resolve_left g2).1) hj
        have e5 : ∀ f, f = 7 ∨ f = 114 ∨ f = 115 → k_kp (k_ad4 υ pg j u1) j f = u1 f := fun f hf => by rw [k_kp_ne (by omega), e4 f (by omega), e7 f hf]
        have S6 : SC n pg rm c (k_icS (k_kp (k_ad4 υ pg j u1) j) rm j) := SC_ic hn4 hr S5 (by rw [e5 114 (by omega)]; exact hlt)
        have H5 : QQ ca n rm hx η ϱ (k_kp (k_ad4 υ pg j u1) j) := H3.nf (fun f hf => by rw [k_kp_ne (by omega), e4 f (by omega)])
        have H6 := (H5.eu (d := (0, 0, none, t2 υ 19 j (υ 19 j + 1) 19 j, k_ad4 υ pg j u1 37 j - k_kp (k_ad4 υ pg j u1) j 38 j)) ha).cx fx
        have xa : EA ca n h' a (eu η a (0, 0, none, t2 υ 19 j (υ 19 j + 1) 19 j, k_ad4 υ pg j u1 37 j - k_kp (k_ad4 υ pg j u1) j 38 j) a) := by rw [eu_s]; exact EA_of (d := (0, 0, none, _, _)) x EK_0
        have H7 := QQ_ic (pg := pg) (j := j) hn4 hr1 hr S5.2.2.2 H6 xa
        have eR : k_icR ϱ (k_kp (k_ad4 υ pg j u1) j) rm j a = k_icR ϱ (k_ad4 υ pg j u1) rm j a := by unfold k_icR; rw [k_kp_ne (by decide), k_kp_ne (by decide), k_kp_ne (by decide)]
        rw [eR] at H7
        refine hK h' ⟨_, _, _, _, Rx, S6, H7, f1.tr fx, y3 g1 g2 g3 g4 a (H2.fr ha), ?_, Or.inr ?_⟩
        · rw [ic_114, u2_ss, e5 114 (by omega), i_inc hlt (by decide)]
          have := bb.1
          omega
        · rw [ic_ne (by decide) (by decide), e5 7 (by omega)]; exact q7
    · refine ⟨0, by omega, by omega, fun Q' hE hK => ?_⟩
      have hNo : k_adG n pg j u1 → ¬ k_ad3 υ pg j u1 106 j = 0 → ¬ (k_ad3 υ pg j u1 7 j = 1 ∧ ¬ k_ad3 υ pg j u1 115 j = 0) := fun a b cc => big ⟨a, b, cc.1, cc.2⟩
      refine kk_adv0 hG hs0 hro hfb R hj hp4 S1.1 ((S1.2.1 j hj).R) (H1.I hj) hr1 S1.2.2.2.2.1 S1.2.2.2.2.2.1 hG1 ?_ ?_ ?_ ?_ ?_
      · rw [hu1]; exact hK3
      · rw [hu1]
        intro g ς h' hadE Rx fx
        have Sς : SC n pg rm c ς := by
          rcases hadE with ⟨-, e⟩ | ⟨-, e⟩
          · rw [e]; exact S2
          · rw [e]
            have hb := S2.1.1.u2 (F := 20) (i := j) (v := 0) (fun q => absurd q (by decide))
            refine ⟨KD_u S2.1 (by decide), fun t ht => ?_, fun t ht => ?_, KS_nf S2.2.2.2 (fun f hf => u2_ne (by omega))⟩
            · by_cases q : t = j
              · subst q
                obtain ⟨s, W, hB, -, -⟩ := S2.2.1 t ht
                exact KH_of (by omega) (w_W_1 (v := 0) (w := 0) 20 W rfl rfl) (v_B_g hB (by decide) (fun q => absurd q (by decide)) (fun q => absurd q (by decide)) (fun q => absurd q (by decide)) (fun q => absurd q (by decide)) (fun q => absurd q (by decide)) (fun q => absurd q (by decide)))
              · refine KH_nf (by omega) (S2.2.1 t ht) hb (fun f x hf z1 z2 => ?_)
                by_cases q2 : f = 20
                · subst q2
                  have z1 : 1 * t ≤ x := z1
                  have z2 : x < 1 * t + 1 := z2
                  rw [u2_sn (by omega)]
                · rw [u2_ne q2]
            · by_cases q : t = j
              · subst q; rw [u2_ss]; exact Or.inl rfl
              · rw [u2_sn q]; exact S2.2.2.1 t ht
        have Hς : QQ ca n rm hx η ϱ ς := by
          rcases hadE with ⟨-, e⟩ | ⟨-, e⟩
          · rw [e]; exact H2
          · rw [e]; exact H2.nf (fun f hf => u2_ne (by omega))
        exact hE h' ⟨u, υ, ϱ, η, ς, hx, ht, x1, S1, H1, by rw [hu1]; exact g, by rw [hu1]; exact hadE, Rx, Sς, Hς.cx (CX.cf fx), f1.tr (CX.cf fx)⟩
      · rw [hu1]
        intro g1 g2 h' Rx fx
        refine hK h' ⟨_, _, _, _, Rx, S3, H3.cx (CX.cf fx), f1.tr (CX.cf fx), y1 g1 g2, ?_, ?_⟩
        · rw [e7 114 (by omega)]; exact bb.1
        · rw [e7 7 (by omega)]; exact bb.2
      · rw [hu1]
        intro g1 g2 g3 h' Rx fx
        have S4 : SC n pg rm c (k_ad4 υ pg j u1) := SC_u 37 hn4 S3 (by decide) (by decide)
        have e4 : ∀ f, f ≠ 37 → k_ad4 υ pg j u1 f = k_ad3 υ pg j u1 f := fun f hf => by unfold k_ad4; rw [u2_ne hf]
        have hd : SC n pg rm c (k_hd0 (k_ad4 υ pg j u1) j) ∧ ∀ f, f = 7 ∨ f = 114 ∨ f = 115 ∨ f = 120 ∨ f = 121 ∨ f = 132 ∨ f = 133 ∨ f = 134 ∨ f = 135 → k_hd0 (k_ad4 υ pg j u1) j f = k_ad3 υ pg j u1 f := by
          unfold k_hd0
          by_cases q : k_ad4 υ pg j u1 7 j = 1
          · rw [if_pos q]; exact ⟨SC_lv hn4 S4, fun f hf => by rw [k_lv_ne (by omega) (by omega), e4 f (by omega)]⟩
          · rw [if_neg q]; exact ⟨SC_keep hn4 S4 (by rw [e4 107 (by decide)]; exact (o3.resolve_left g2).1) hj, fun f hf => by rw [k_kp_ne (by omega), e4 f (by omega)]⟩
        refine hK h' ⟨_, _, _, _, Rx, hd.1, (H3.nf (fun f hf => hd.2 f (by omega))).cx (CX.cf fx), f1.tr (CX.cf fx), y2 g1 g2 g3, ?_, ?_⟩
        · rw [hd.2 114 (by omega), e7 114 (by omega)]; exact bb.1
        · rw [hd.2 7 (by omega), e7 7 (by omega)]; exact bb.2
      · rw [hu1]; exact hNo
  · rintro t h' ht ⟨u, υ, ϱ, η, ς, h0, -, x1, S1, H1, g, hadE, Rx, Sς, Hς, fx⟩
    exact (X1 t u υ ϱ η h0 ht x1 S1 H1).2 g ς h' hadE Rx Sς Hς fx
  · rintro e h' ⟨u, υ, ϱ, η, R, S1, H1, f1, x1, -, -⟩
    exact X2 u υ ϱ η h' x1 R S1 H1 f1
