theorem go1_o {u : (Nat → Nat → Int32)} {j f : Nat} (h1 : f ≠ 7) (h2 : f < 113 ∨ 116 < f) : k_go1 u j f = u f := by unfold k_go1; rw [k_lvP_ne h2, u2_ne h1]
theorem go1_h {u : (Nat → Nat → Int32)} {j f x : Nat} (h : x ≠ j) : k_go1 u j f x = u f x := by
  unfold k_go1 k_lvP
  rw [u2_x h, u2_x h, u2_x h, u2_x h, u2_x h]
theorem go0_h {s : (Nat → Nat → Int32)} {j f x : Nat} (h : x ≠ j) : m_go0 s j f x = s f x := by
  unfold m_go0
  rw [u2_x h, u2_x h, u2_x h, u2_x h]
theorem go0_v {s : (Nat → Nat → Int32)} {j : Nat} : m_go0 s j 7 j = 1 ∧ m_go0 s j 11 j = 0 ∧ m_go0 s j 12 j = 0 ∧ m_go0 s j 8 j = -1 := by
  unfold m_go0
  exact ⟨by rw [u2_ne (by decide), u2_ne (by decide), u2_ne (by decide), u2_ss], by rw [u2_ne (by decide), u2_ne (by decide), u2_ss], by rw [u2_ne (by decide), u2_ss], by rw [u2_ss]⟩
theorem RR_go0 {n pg rm c j : Nat} {z : CZ} {y : RZ} (hp16 : pg ≤ 16) (hn4 : n ≤ 4) (hc : c ≤ 512) (Vh : ∀ h, h < n → Hw pg c y.1 h) (H : RR n pg rm c z y) (hj : j < n) (h7 : y.1 7 j = 3) (he : cl (y.1 58 j) = cl (y.1 59 j)) (hxN : EX n c (m_go0 y.1 j)) : RR n pg rm c (k_go1 z.1 j, z.2) (m_go0 y.1 j, y.2) := by
  obtain ⟨hg, hh, hp, hd', hx, ht, hm⟩ := H
  have ez : ∀ f, f ≠ 7 → f < 113 ∨ 116 < f → k_go1 z.1 j f = z.1 f := fun f a b => go1_o a b
  have zh : ∀ f x, x ≠ j → k_go1 z.1 j f x = z.1 f x := fun f x a => go1_h a
  have z7 : k_go1 z.1 j 7 j = 1 := by unfold k_go1; rw [k_lvP_ne (by decide), u2_ss]
  have zv : ∀ F, F = 113 ∨ F = 114 ∨ F = 115 ∨ F = 116 → k_go1 z.1 j F j = 0 := fun F hF => by unfold k_go1; exact lvP_v hF
  have es : ∀ f, f ≠ 7 → f ≠ 8 → f ≠ 11 → f ≠ 12 → m_go0 y.1 j f = y.1 f := fun f a b c d => m_go0_ne a c d b
  have eh : ∀ f x, x ≠ j → m_go0 y.1 j f x = y.1 f x := fun f x a => go0_h a
  obtain ⟨s7, s11, s12, -⟩ := go0_v (s := y.1) (j := j)
  generalize k_go1 z.1 j = U at *
  generalize m_go0 y.1 j = s' at *
  have ag : AgE y.1 s' y.2 y.2 := AgE_ne (fun f h1 h2 => es f (by omega) (by omega) (by omega) (by omega)) rfl
  have hD : ∀ h, nI h = s' 61 0 → nI h = y.1 61 0 ∧ ∀ p, p < pg → s' 63 p = y.1 63 p := fun h w => ⟨by rw [← es 61 (by decide) (by decide) (by decide) (by decide)]; exact w, fun p _ => by rw [es 63 (by decide) (by decide) (by decide) (by decide)]⟩
  have noLK : ∀ l, l < 4 → ¬ LKl y.1 l := fun l hl q => absurd h7 ((hx.2.2.1 l hl q).2.2.2.1 j (by omega)).2.1
  refine ⟨RG_nf hg (fun f hf => ez f (by omega) (by omega)) (fun f hf => es f (by omega) (by omega) (by omega) (by omega)), fun h hhn => ?_, ?_, RD_fr hd' (fun f h1 h2 => ez f (by omega) (by omega)) (fun f h1 h2 => es f (by omega) (by omega) (by omega) (by omega)), hxN, ?_, CM_nf hm (fun f hf => es f (by omega) (by omega) (by omega) (by omega))⟩
  · by_cases x : h = j
    · subst x
      obtain ⟨ra, rt⟩ := hh h hhn
      have f1 := rt.2.2.2.2.2.1
      have i121 := (f1.2.2.1 (Or.inr h7)).2
      have n23 : ¬ (s' 7 h = 2 ∨ s' 7 h = 3) := by rw [s7]; decide
      refine ⟨RA_nf ra (fun f hf => es f (by omega) (by omega) (by omega) (by omega)) (fun f hf => ez f (by omega) (by omega)) (hD h), ?_, rt.2.1, ?_, ?_, ?_, ⟨fun _ => ⟨?_, ?_, ?_, fun _ => ⟨zv 114 (by omega), zv 113 (by omega)⟩, fun w => absurd s11 w⟩, fun w => absurd s7 w, fun w => absurd w n23, fun w => absurd (Or.inl s7) w⟩, fun w => absurd w n23, ?_⟩
      · show U 37 h = s' 37 h; rw [ez 37 (by decide) (by decide), es 37 (by decide) (by decide) (by decide) (by decide)]; exact rt.1
      · show U 7 h = s' 7 h; rw [z7, s7]
      · show U 10 h = s' 10 h; rw [ez 10 (by decide) (by decide), es 10 (by decide) (by decide) (by decide) (by decide)]; exact rt.2.2.2.1
      · show U 111 h = _; rw [ez 111 (by decide) (by decide)]; exact rt.2.2.2.2.1
      · show U 115 h = s' 11 h; rw [zv 115 (by omega), s11]
      · show U 116 h = s' 12 h; rw [zv 116 (by omega), s12]
      · show U 121 h = 0; rw [ez 121 (by decide) (by decide), i121, he, Nat.sub_self]; rfl
      · have f3 := rt.2.2.2.2.2.2.2.1 (Or.inr (Or.inr h7))
        refine ⟨fun _ => ?_, fun w => absurd (Or.inl s7) w⟩
        show U 38 h = s' 38 h ∧ ∀ i, i < cl (s' 38 h) → KE s' U h i
        unfold KE k_sl at f3 ⊢
        rw [ez 38 (by decide) (by decide), ez 112 (by decide) (by decide), ez 117 (by decide) (by decide), es 38 (by decide) (by decide) (by decide) (by decide), es 39 (by decide) (by decide) (by decide) (by decide), es 43 (by decide) (by decide) (by decide) (by decide), es 31 (by decide) (by decide) (by decide) (by decide)]
        exact f3
    · refine RH_frw (Vh h hhn) hp16 (by omega) (hh h hhn) ⟨fun f i hf hi => ?_, rfl, fun _ => rfl, fun _ _ _ _ => rfl⟩ ⟨⟨fun f i hf hi => ?_, rfl⟩, fun i _ => ?_⟩ ag (hD h)
      · show U f _ = z.1 f _
        by_cases y1 : f = 7 ∨ f = 113 ∨ f = 114 ∨ f = 115 ∨ f = 116
        · have e1 : zS f = 1 := by rcases y1 with e | e | e | e | e <;> subst e <;> rfl
          rw [e1] at hi ⊢
          rw [zh f _ (by omega)]
        · rw [ez f (by omega) (by omega)]
      · show s' f _ = y.1 f _
        by_cases y1 : f = 7 ∨ f = 8 ∨ f = 11 ∨ f = 12
        · have e1 : h_s f = 1 := by rcases y1 with e | e | e | e <;> subst e <;> rfl
          rw [e1] at hi ⊢
          rw [eh f _ (by omega)]
        · rw [es f (by omega) (by omega) (by omega) (by omega)]
      · show s' 43 _ = y.1 43 _
        rw [es 43 (by decide) (by decide) (by decide) (by decide)]
  · rcases hp with ⟨p0, p1, p2, p3, p4⟩ | ⟨l, hl, lk, -⟩
    · refine Or.inl ⟨fun l hl w => ?_, ?_, ?_, ?_, ?_⟩
      · have w' : ¬ s' 11 l = 0 ∧ s' 12 l = 0 := w
        by_cases x : l = j
        · subst x; exact w'.1 s11
        · rw [eh 11 l x, eh 12 l x] at w'; exact p0 l hl w'
      · show U 122 0 = -1; rw [ez 122 (by decide) (by decide)]; exact p1
      · show U 123 0 = -1; rw [ez 123 (by decide) (by decide)]; exact p2
      · show U 133 0 = 0; rw [ez 133 (by decide) (by decide)]; exact p3
      · show U 135 0 = 0; rw [ez 135 (by decide) (by decide)]; exact p4
    · exact absurd lk (noLK l (by omega))
  · show TK pg c s'
    obtain ⟨t, P, t1, t2, t3⟩ := ht
    refine ⟨t, P, fun h hh4 g w => t1 h hh4 ?_ (fun o w1 w2 w3 => ?_), ?_, ?_⟩
    · by_cases x : h = j
      · subst x; exact Or.inr (Or.inr h7)
      · unfold gst at g ⊢; rw [eh 7 h x] at g; exact g
    · refine w o (by rw [es 65 (by decide) (by decide) (by decide) (by decide)]; exact w1) (by rw [es 66 (by decide) (by decide) (by decide) (by decide)]; exact w2) ?_
      rw [es 67 (by decide) (by decide) (by decide) (by decide), es 68 (by decide) (by decide) (by decide) (by decide), es 10 (by decide) (by decide) (by decide) (by decide)]; exact w3
    · rw [es 65 (by decide) (by decide) (by decide) (by decide), es 66 (by decide) (by decide) (by decide) (by decide), es 5 (by decide) (by decide) (by decide) (by decide)]; exact t2
    · rw [es 60 (by decide) (by decide) (by decide) (by decide), pgc_e (s := y.1) pg (fun i _ => by rw [es 63 (by decide) (by decide) (by decide) (by decide)])]; exact t3
theorem kop_e {s u : (Nat → Nat → Int32)} {j c f : Nat} (hf : cl (u 112 j) = f) (ke : ∀ i, i < c → u 117 (k_sl u j i) = s 39 (128 * j + i) + 1) (k3 : ∀ i, i < c → s 39 (128 * j + i) = 0 ∨ s 39 (128 * j + i) = 1 ∨ s 39 (128 * j + i) = 2) : ∀ i, i ≤ c → k_kop u j f i = m_kop s j i
  | 0, _ => rfl
  | i + 1, h => by
    have ih := kop_e hf ke k3 i (by omega)
    have e := ke i (by omega)
    unfold k_sl at e
    rw [hf] at e
    unfold k_kop m_kop
    rw [ih, e]
    rcases k3 i (by omega) with q | q | q <;> rw [q] <;> rfl
theorem gow_v {σ : (Nat → Nat → Int32)} {j P : Nat} : ∀ n q x, x < 64 → n ≤ 64 → m_gow σ j P n 71 (64 * q + x) = if q = P ∧ x < n then (σ 31 (64 * j + x)).toInt8.toInt32 else σ 71 (64 * q + x)
  | 0, q, x, _, _ => by rw [if_neg (by omega)]; rfl
  | n + 1, q, x, hx, hn => by
    unfold m_gow
    by_cases e : q = P ∧ x = n
    · rw [e.1, e.2, u2_ss, if_pos ⟨rfl, by omega⟩]
    · rw [u2_sn (by omega), gow_v n q x hx (by omega)]
      by_cases h : q = P ∧ x < n
      · rw [if_pos h, if_pos (by omega)]
      · rw [if_neg h, if_neg (by omega)]
theorem RR_gow {n pg rm c j : Nat} {z : CZ} {L : (Nat → Nat → Int32)} {τ : (Nat → Nat → Int64)} {k b : Int32} (hp16 : pg ≤ 16) (hn4 : n ≤ 4) (hc : c ≤ 512) (Vh : ∀ h, h < n → Hw pg c L h) (R1 : RR n pg rm c z (L, τ)) (hj : j < n) (l7 : L 7 j = 1) (nwL : NW j L) (h27 : L 27 j = 1) (b66 : nb (L 66 0) 4000) (h65 : cl (L 65 0) ≤ cl (L 66 0)) (hby : BYa L) (ek : k = L 28 j) (eb : b = L 29 j) : RR n pg rm c (k_dap z.1 j, z.2) (m_oper (m_gow L j (cl (L 66 0)) 64) j (cl (L 66 0)) k b, τ) := by
  subst ek; subst eb
  refine RR_op (z := z) (y := (L, τ)) (s' := m_oper (m_gow L j (cl (L 66 0)) 64) j (cl (L 66 0)) (L 28 j) (L 29 j)) hp16 hn4 hc Vh R1 hj (Or.inl l7) nwL h27 b66 h65 (fun f hf => ?_) ?_ (fun x => ?_) (fun x => ?_) (fun x => ?_) (fun x => ?_) (fun p x hx => ?_)
  · rw [m_oper_ne (by omega) (by omega) (by omega) (by omega) (by omega), m_gow_ne (by omega)]
  · unfold m_oper; rw [u2_ss, m_gow_ne (by decide)]
  · unfold m_oper; rw [u2_ne (by decide), u2_ne (by decide), u2_ne (by decide), u2_ne (by decide), u2_i, m_gow_ne (by decide)]
  · unfold m_oper; rw [u2_ne (by decide), u2_ne (by decide), u2_ne (by decide), u2_i, u2_ne (by decide), m_gow_ne (by decide), m_gow_ne (by decide)]
  · unfold m_oper; rw [u2_ne (by decide), u2_ne (by decide), u2_i, u2_ne (by decide), u2_ne (by decide), m_gow_ne (by decide)]
  · unfold m_oper; rw [u2_ne (by decide), u2_i, u2_ne (by decide), u2_ne (by decide), u2_ne (by decide), m_gow_ne (by decide)]
  · rw [m_oper_ne (by decide) (by decide) (by decide) (by decide) (by decide), gow_v 64 p x hx (by omega)]
    by_cases qq : p = cl (L 66 0)
    · rw [if_pos ⟨qq, hx⟩, if_pos qq]; exact hby 31 _ (Or.inr (Or.inl rfl))
    · rw [if_neg (fun a => qq a.1), if_neg qq]
theorem RR_go {n pg rm c M j : Nat} {l : Nat → Nat} {z : CZ} {y : RZ} (hp16 : pg ≤ 16) (hn4 : n ≤ 4) (hc : c ≤ 512) (hM : M < 2147480000) (hj : j < n) (S : SC n pg rm c z.1) (Vh : ∀ h, h < n → Hw pg c y.1 h) (H : RR n pg rm c z y) (h7 : y.1 7 j = 3) (he : cl (y.1 58 j) = cl (y.1 59 j)) (hI : HI (256 * pg) M l y.1 y.2 j) (h10 : nb (y.1 10 j) c) (O : OI (c + 1) l y.1) (oj : OJ c j y.1) (hxN : EX n c (m_go0 y.1 j)) : RR n pg rm c (k_go z.1 j, z.2) (m_goLive y.1 j (cl (y.1 38 j)), y.2) := by
  have R0 := RR_go0 hp16 hn4 hc Vh H hj h7 he hxN
  have n0 : ∀ f, f ≠ 7 → f ≠ 8 → f ≠ 11 → f ≠ 12 → m_go0 y.1 j f = y.1 f := fun f a b c d => m_go0_ne a c d b
  have e7 : m_go0 y.1 j 7 j = 1 := go0_v.1
  have n1 : ¬ y.1 7 j = 1 := by rw [h7]; decide
  have h100 := hI.2.2.2.2.2.2.1.2
  have nw : NW j y.1 := by
    intro o h1 h2 ⟨h3, h4⟩
    obtain ⟨h, a, b1, b2, b3, b4, b5, b6⟩ := O.2.2 o h1 h2
    have : h = j := nIv_inj (b2.symm.trans h3) (by omega) (by omega)
    subst this
    have ea : a = cl (y.1 10 h) := by
      have q : nI a = nI (cl (y.1 10 h)) := by rw [← b4, h4]; exact h10.1
      have := h10.2
      exact nIv_inj q (by omega) (by omega)
    exact n1 (b6 ea).1
  have O0 : OI (c + 1) l (m_go0 y.1 j) := by
    refine OI_st O (Nat.le_refl _) (fun f h1 h2 => n0 f (by omega) (by omega) (by omega) (by omega)) (fun h _ => by rw [n0 10 (by omega) (by omega) (by omega) (by omega)]) ?_
    intro h _ y1 y2
    have hh : h ≠ j := by intro e; subst e; exact n1 y1
    rw [go0_h hh, n0 27 (by omega) (by omega) (by omega) (by omega), n0 28 (by omega) (by omega) (by omega) (by omega), n0 37 (by omega) (by omega) (by omega) (by omega), n0 38 (by omega) (by omega) (by omega) (by omega)]
    exact ⟨y1, y2, rfl, id⟩
  have oj0 : OJ c j (m_go0 y.1 j) := OJ_st oj (fun f h1 h2 => n0 f (by omega) (by omega) (by omega) (by omega)) (by rw [n0 10 (by omega) (by omega) (by omega) (by omega)])
  have H0 : HI (256 * pg) M l (m_go0 y.1 j) y.2 j := HI_nf hI (fun f hf => n0 f (by omega) (by omega) (by omega) (by omega)) rfl
  have Vh0 : ∀ h, h < n → Hw pg c (m_go0 y.1 j) h := fun h hh => Hw_nf (Vh h hh) (fun f hf => n0 f (by omega) (by omega) (by omega) (by omega))
  have S0 : SC n pg rm c (k_go1 z.1 j) := SC_lvP hn4 (SC_u 7 hn4 S (by decide) (by decide))
  have h100' : nb (m_go0 y.1 j 10 j) c := by rw [n0 10 (by omega) (by omega) (by omega) (by omega)]; exact h10
  have e38 : m_go0 y.1 j 38 = y.1 38 := n0 38 (by omega) (by omega) (by omega) (by omega)
  have R1 := RR_la (z := (k_go1 z.1 j, z.2)) (y := (m_go0 y.1 j, y.2)) hp16 hn4 hc hM hj S0 Vh0 R0 e7 H0 h100' O0 oj0
  dsimp only at R1
  rw [e38] at R1
  have ra := (H.2.1 j hj).1
  have f3 := (H.2.1 j hj).2.2.2.2.2.2.2.2.1 (Or.inr (Or.inr h7))
  have z27 : z.1 27 j = y.1 27 j := w_g1 27 ra.1 rfl
  have kp : k_kop (k_go1 z.1 j) j (cl (z.1 112 j)) (cl (z.1 38 j)) = m_kop y.1 j (cl (y.1 38 j)) := by
    rw [f3.1]
    refine kop_e (c := cl (y.1 38 j)) (by rw [go1_o (by decide) (by decide)]) (fun i hi => ?_) (fun i hi => (hI.2.2.2.2.2.2.2 i hi).2.1) _ (Nat.le_refl _)
    unfold k_sl
    rw [go1_o (by decide) (by decide), go1_o (by decide) (by decide)]
    exact (f3.2 i hi).1
  unfold k_go m_goLive
  by_cases q : y.1 27 j = 1 ∧ m_kop y.1 j (cl (y.1 38 j)) = false
  · rw [if_pos q, if_pos ⟨kp.trans q.2, z27.trans q.1⟩]
    have nk := kop_no _ q.2
    have nL : ∀ f, f < 38 ∨ (43 < f ∧ f < 66) ∨ 73 < f → m_lall (m_go0 y.1 j) j (cl (y.1 38 j)) f = m_go0 y.1 j f := fun f hf => m_lall_ne (by omega) (by omega) (by omega) (by omega) (by omega) (by omega) (by omega) (by omega) (by omega) (by omega) (by omega) (by omega) (by omega) (by omega) _ _
    have nO : ∀ f, 65 ≤ f → f ≤ 71 → m_lall (m_go0 y.1 j) j (cl (y.1 38 j)) f = y.1 f := fun f h1 h2 => by
      rw [lall_no _ _ (fun i hi => ?_) f h1 h2, n0 f (by omega) (by omega) (by omega) (by omega)]
      rw [n0 39 (by omega) (by omega) (by omega) (by omega)]
      rcases (hI.2.2.2.2.2.2.2 i hi).2.1 with w | w | w
      · exact Or.inl w
      · exact Or.inr w
      · exact absurd w (nk i hi)
    have Vh1 : ∀ h, h < n → Hw pg c (m_lall (m_go0 y.1 j) j (cl (y.1 38 j))) h := fun h hh => Hw_lall _ h100 _ (Vh0 h hh)
    have l7 : m_lall (m_go0 y.1 j) j (cl (y.1 38 j)) 7 j = 1 := by rw [nL 7 (by omega)]; exact e7
    have lf : ∀ f, f < 38 → f ≠ 7 → f ≠ 8 → f ≠ 11 → f ≠ 12 → m_lall (m_go0 y.1 j) j (cl (y.1 38 j)) f = y.1 f := fun f h a b c d => by rw [nL f (by omega), n0 f a b c d]
    generalize m_lall (m_go0 y.1 j) j (cl (y.1 38 j)) = L at *
    have hby : BYa L := fun f i hf => by rw [lf f (by omega) (by omega) (by omega) (by omega) (by omega)]; exact hI.1.2.2.2.2.2.2.2.2 f i hf
    have nwL : NW j L := by
      unfold NW
      rw [nO 65 (by omega) (by omega), nO 66 (by omega) (by omega), nO 67 (by omega) (by omega), nO 68 (by omega) (by omega), lf 10 (by omega) (by omega) (by omega) (by omega) (by omega)]
      exact nw
    have b66 : nb (L 66 0) 4000 := by rw [nO 66 (by omega) (by omega)]; exact nb_up O.2.1 (by omega)
    have h65 : cl (L 65 0) ≤ cl (L 66 0) := by rw [nO 65 (by omega) (by omega), nO 66 (by omega) (by omega)]; exact O.1.2
    exact RR_gow (z := (k_la (k_go1 z.1 j) j, z.2)) hp16 hn4 hc Vh1 R1 hj l7 nwL (by rw [lf 27 (by omega) (by omega) (by omega) (by omega) (by omega)]; exact q.1) b66 h65 hby (by rw [lf 28 (by omega) (by omega) (by omega) (by omega) (by omega)]) (by rw [lf 29 (by omega) (by omega) (by omega) (by omega) (by omega)])
  · rw [if_neg q, if_neg (fun w => q ⟨z27.symm.trans w.2, kp.symm.trans w.1⟩)]
    exact R1
