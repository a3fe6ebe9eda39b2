theorem pgc_le {s s' : (Nat → Nat → Int32)} (h : ∀ i, s' 63 i = s 63 i ∨ s' 63 i = 1) : ∀ p, pgc s' p ≤ pgc s p
  | 0 => Nat.le_refl _
  | p + 1 => by
    unfold pgc
    rcases h p with e | e
    · rw [e]; exact Nat.add_le_add (pgc_le h p) (Nat.le_refl _)
    · rw [e, if_neg (by decide)]; exact Nat.add_le_add (pgc_le h p) (Nat.zero_le _)
theorem TK_63 {pg c d : Nat} {s s' : (Nat → Nat → Int32)} (H : TK pg c s) (hc : c ≤ d) (e : ∀ f, f = 5 ∨ f = 7 ∨ f = 10 ∨ f = 60 ∨ f = 65 ∨ f = 66 ∨ f = 67 ∨ f = 68 → s' f = s f) (e63 : ∀ i, s' 63 i = s 63 i ∨ s' 63 i = 1) : TK pg d s' := by
  obtain ⟨t, P, h1, h2, h3⟩ := H
  refine ⟨t, P, fun h hh g w => h1 h hh ?_ ?_, ?_, ?_⟩
  · unfold gst at g ⊢; rw [e 7 (by omega)] at g; exact g
  · unfold NW at w ⊢; rw [e 65 (by omega), e 66 (by omega), e 67 (by omega), e 68 (by omega), e 10 (by omega)] at w; exact w
  · rw [e 65 (by omega), e 66 (by omega), e 5 (by omega)]; exact h2
  · rw [e 60 (by omega)]
    have := pgc_le e63 pg
    by_cases q : s 60 0 = -1
    · rw [if_pos q] at h3 ⊢; omega
    · rw [if_neg q] at h3 ⊢; omega
def EDk (s : (Nat → Nat → Int32)) (D kd N : Nat) (k v : Int32) (b : Option (Nat × (Nat → Int32))) : Prop := k = nI ((kd + 1) % 5) ∧ (kd = 0 → v = s 51 D &&& 255) ∧ (kd = 1 → (1 ≤ N ∧ N ≤ 32) ∧ ∃ f, b = some (N, f) ∧ ∀ i, i < N → f i = s 51 (D + i) ∧ byt (f i)) ∧ (kd = 3 → (N = 64 → ∃ f, b = some (64, f) ∧ ∀ i, i < 64 → f i = s 51 (D + i)) ∧ (¬ N = 64 → b = none)) ∧ (¬ kd = 1 → ¬ kd = 3 → b = none)
theorem ER_of {s s' : (Nat → Nat → Int32)} {T' : (Nat → Nat → Int64)} {e D kd N : Nat} {k v : Int32} {b : Option (Nat × (Nat → Int32))} {ct : Int64} {lf : Int32} (H : EDk s D kd N k v b) (e45 : s' 45 e = nI kd) (e47 : s' 47 e = nI N) (e48 : cl (s' 48 e) = D) (e51 : s' 51 = s 51) (hk : kd ≤ 4) (hN : N ≤ 64) (h49 : ct = T' 49 e) (h46 : lf = s' 46 e) : ER s' T' e (k, v, b, ct, lf) := by
  unfold ER
  rw [e45, e47, e48, e51, cl_nI (by omega), cl_nI (by omega)]
  exact ⟨H.1, H.2.1, H.2.2.1, H.2.2.2.1, H.2.2.2.2, h49, h46⟩
theorem RA_ev {pg j e : Nat} {s L s' u : (Nat → Nat → Int32)} {T' : (Nat → Nat → Int64)} {d : ED} (ra : RA pg j s u) (hby : BY u) (hB : v_B (256 * pg) j s) (hp : pg ≤ 16) (eL : ∀ f, f ≤ 43 ∨ f = 61 ∨ f = 63 → L f = s f) (ok : EvOK L j e) (er : ER L T' e d) (h28 : cl (L 45 e) = 3 → L 28 j = 1 → cl (L 47 e) = 64) (es : ∀ f, f ≤ 36 ∨ f = 61 ∨ f = 63 → s' f = m_ev L j e f) : RA pg j s' (k_rcv u pg j d.1 d.2.1 d.2.2.1) ∧ w_F j u (k_rcv u pg j d.1 d.2.1 d.2.2.1) := by
  have W0 : w_W pg j u s u := ⟨ra.1, ra.2.1, ra.2.2.1, ra.2.2.2.1, ra.2.2.2.2, hby, fun f i => Or.inl rfl⟩
  have W1 : w_W pg j u L u := w_W_s W0 (fun f hf => eL f (by omega))
  have W2 := w_ev W1 (v_B_nf hB (fun f hf => eL f (by omega))) hp ok er h28
  have W3 := w_W_s W2 es
  exact ⟨⟨W3.1, W3.2.1, W3.2.2.1, W3.2.2.2.1, W3.2.2.2.2.1⟩, W3.2.2.2.2.2.2⟩
theorem wF_lo {j f i : Nat} {u u' : (Nat → Nat → Int32)} (F : w_F j u u') (h : f < 15 ∨ (37 < f ∧ f < 100) ∨ 108 < f) : u' f i = u f i := by
  rcases F f i with e | ⟨r, -⟩
  · exact e
  · omega
theorem wF_h {j h f i : Nat} {u u' : (Nat → Nat → Int32)} (F : w_F j u u') (hh : h ≠ j) (hi : i < zS f) : u' f (zS f * h + i) = u f (zS f * h + i) := by
  rcases F f (zS f * h + i) with e | ⟨r, w1, w2⟩
  · exact e
  · have e : zS f = w_s f := by unfold zS; rw [if_neg (by omega), if_neg (by omega)]
    rw [e] at w1 w2 hi
    exact absurd (sl_ne hi w1 w2) hh
theorem vF_43 {j h i : Nat} {s t : (Nat → Nat → Int32)} (F : v_F j s t) (hh : h ≠ j) (hi : i < 8192) : t 43 (8192 * h + i) = s 43 (8192 * h + i) := F_h F hh (by decide) (by decide) (show i < v_s 43 from hi)
theorem ev_63 {j : Nat} {s t : (Nat → Nat → Int32)} (F : v_F j s t) (i : Nat) : t 63 i = s 63 i ∨ t 63 i = 1 := by
  rcases F 63 i with e | e | e | e
  · exact Or.inl e
  · exact absurd e (by decide)
  · obtain ⟨_, r, _⟩ := e; omega
  · exact Or.inr e.2.2
theorem comes_e {s : (Nat → Nat → Int32)} {j kd N : Nat} (hk : kd ≤ 4) (hN : N ≤ 64) : (s 11 j = 0 → m_comes s j kd N = u2 (u2 (m_ev (m_entry s j (cl (s 44 0)) (nI kd) (nI N)) j (cl (s 44 0))) 44 0 (nI (cl (s 44 0)))) 50 0 (nI (cl (s 50 0)))) ∧ (¬ s 11 j = 0 → ¬ s 3 0 ≤ s 55 j → m_comes s j kd N = m_ev (lg s j (nI kd) (nI N)) j (cl (s 44 0))) := by
  have en : ∀ f, f < 44 ∨ f = 49 ∨ f = 51 ∨ 51 < f → m_entry s j (cl (s 44 0)) (nI kd) (nI N) f = s f := fun f hf => m_entry_ne (by omega) (by omega) (by omega) (by omega) (by omega) (by omega)
  refine ⟨fun h => ?_, fun h q => ?_⟩
  · unfold m_comes
    rw [if_neg (fun w => w h)]
    unfold m_comesU m_ev
    rw [en 33 (by omega), en 35 (by omega), en 30 (by omega), m_entry_48, m_entry_45, m_entry_47, cl_nI (by omega), cl_nI (by omega)]
  · unfold m_comes
    rw [if_pos h, if_neg q]
    unfold m_comesB m_ev
    show m_event (lg s j (nI kd) (nI N)) j _ _ _ _ _ _ _ = _
    rw [lg_nf (f := 33) (by omega), lg_nf (f := 35) (by omega), lg_nf (f := 30) (by omega), lg_en (f := 48) (by omega), lg_en (f := 45) (by omega), lg_en (f := 47) (by omega), m_entry_48, m_entry_45, m_entry_47, cl_nI (by omega), cl_nI (by omega)]
def CmQ (s : (Nat → Nat → Int32)) (j kd N : Nat) : Prop := kd ≤ 3 ∧ N ≤ 64 ∧ (kd = 0 → cl (s 33 j) < 16 ∧ 1 ≤ N) ∧ (kd = 1 → cl (s 35 j) < 4 ∧ N ≤ 32) ∧ (kd = 3 → s 28 j = 1 → N = 64)
theorem RG_nf {pg rm : Nat} {z z' : CZ} {y y' : RZ} (H : RG pg rm z y) (ez : ∀ f, f ≤ 6 ∨ f = 13 ∨ f = 14 ∨ f = 62 ∨ f = 64 → z'.1 f = z.1 f) (ey : ∀ f, f ≤ 6 ∨ f = 13 ∨ f = 14 ∨ f = 62 ∨ f = 64 → y'.1 f = y.1 f) : RG pg rm z' y' := by
  unfold RG at H ⊢
  rw [ez 5 (by omega), ez 6 (by omega), ez 13 (by omega), ez 14 (by omega), ez 62 (by omega), ez 64 (by omega), ez 2 (by omega), ez 3 (by omega), ey 5 (by omega), ey 6 (by omega), ey 13 (by omega), ey 14 (by omega), ey 62 (by omega), ey 64 (by omega)]
  exact H
theorem EvOK_new {n pg rm c M E q j kd N : Nat} {l : Nat → Nat} {s L : (Nat → Nat → Int32)} {T : (Nat → Nat → Int64)} (inv : INV n pg rm c M E q l s T) (hj : j < 4) (hE : E ≤ 23999) (hc : c ≤ 600) (Q : CmQ s j kd N) (v45 : L 45 (cl (s 44 0)) = nI kd) (v47 : L 47 (cl (s 44 0)) = nI N) (v48 : L 48 (cl (s 44 0)) = s 50 0) (eL : ∀ f, f < 44 → L f = s f) : EvOK L j (cl (s 44 0)) := by
  obtain ⟨p1, p2, p3, p4, p5⟩ := Q
  have a1 := (inv.2.1 j hj).1
  have n44 := inv.1.2.1
  have n50 := inv.1.2.2.1
  have hE2 := n44.2
  have hD2 := n50.2
  unfold EvOK
  rw [v45, v47, v48, eL 33 (by omega), eL 35 (by omega), eL 28 (by omega), eL 30 (by omega), cl_nI (by omega), cl_nI (by omega)]
  exact ⟨by omega, nb_n (by omega) (by omega), nb_mono n50 (by omega), nb_n p2 (by omega), fun h => (p4 h).2, a1.1.2.2.2.1, fun h => (p3 h).1, a1.1.2.2.2.2.1, fun h => (p4 h).1, fun _ _ => nb_mono a1.1.2.2.2.2.2.2.1 (by have := a1.1.2.2.1; omega)⟩
theorem cm_ev {n j e : Nat} {s L s' : (Nat → Nat → Int32)} (H : CM n s) (eL : ∀ f, f < 44 ∨ 64 < f → L f = s f) (es : ∀ f, f < 44 ∨ 64 < f → s' f = m_ev L j e f) (hj : ∀ i, i ≠ j → s' 27 i = L 27 i) : CM n s' := by
  refine CM_27 H (fun f hf => ?_) (fun i => ?_)
  · rw [es f (by omega), m_ev_ne (by omega) (by omega) (by omega) (by omega) (by omega) (by omega) (by omega) (by omega) (by omega), eL f (by omega)]
  · by_cases q : i = j
    · subst q
      rw [es 27 (by omega)]
      by_cases w : cl (L 45 e) = 3
      · exact Or.inr (ev_27.1 w)
      · rw [ev_27.2 w, eL 27 (by omega)]; exact Or.inl rfl
    · rw [hj i q, eL 27 (by omega)]; exact Or.inl rfl
theorem vF_27 {j i : Nat} {s t : (Nat → Nat → Int32)} (F : v_F j s t) (h : i ≠ j) : t 27 i = s 27 i := by
  have := F_h (f := 27) (i := 0) F h (by decide) (by decide) (by decide)
  have e : v_s 27 * i + 0 = i := by show 1 * i + 0 = i; omega
  rwa [e] at this
theorem RR_comU {n pg rm c j kd N a : Nat} {z : CZ} {y : RZ} {k v : Int32} {b : Option (Nat × (Nat → Int32))} (S : SC n pg rm c z.1) (V : CV n pg rm c y.1 y.2) (hc : c ≤ 511) (H : RR n pg rm c z y) (hj : j < n) (h7 : y.1 7 j = 1) (h11 : y.1 11 j = 0) (D : EDk y.1 (cl (y.1 50 0)) kd N k v b) (Q : CmQ y.1 j kd N) (fr : FRQ n rm z.2.2.1 z.1 a) : RR n pg rm (c + 1) (evZ pg rm j a k v b z.1 z) (m_comes y.1 j kd N, m_comesT y.1 y.2 j) := by
  obtain ⟨l, inv⟩ := id V
  have hn4 := V.g.1.2.2.2.2.2.2.1
  have hp16 : pg ≤ 16 := V.g.1.2.2.2.2.2.2.2.2.1
  have hj4 : j < 4 := by omega
  obtain ⟨hg, hh, hp, hd', hx, ht, hm⟩ := H
  have hHj := inv.2.1 j hj4
  have n44 := inv.1.2.1
  have n50 := inv.1.2.2.1
  have Q0 := Q
  obtain ⟨p1, p2, p3, p4, p5⟩ := Q
  obtain ⟨ra, rt⟩ := hh j hj
  have u115 : z.1 115 j = 0 := by rw [(rt.2.2.2.2.2.1.1 h7).1]; exact h11
  have es := (comes_e (s := y.1) (j := j) (kd := kd) (N := N) (by omega) p2).1 h11
  have eT : m_comesT y.1 y.2 j = t2 y.2 49 (cl (y.1 44 0)) (y.2 19 j) := by unfold m_comesT; rw [if_neg (fun w => w h11)]
  rw [es, eT]
  have eS : k_brS z.1 pg rm j k v b = k_rcv z.1 pg j k v b := by unfold k_brS; rw [if_pos u115]
  have eR : k_brR z.2.2.1 z.1 rm j a = z.2.2.1 := by unfold k_brR; rw [if_pos u115]
  unfold evZ
  rw [eS, eR]
  have v45 : m_entry y.1 j (cl (y.1 44 0)) (nI kd) (nI N) 45 (cl (y.1 44 0)) = nI kd := m_entry_45
  have v46 : m_entry y.1 j (cl (y.1 44 0)) (nI kd) (nI N) 46 (cl (y.1 44 0)) = y.1 37 j - y.1 38 j := m_entry_46
  have v47 : m_entry y.1 j (cl (y.1 44 0)) (nI kd) (nI N) 47 (cl (y.1 44 0)) = nI N := m_entry_47
  have v48 : m_entry y.1 j (cl (y.1 44 0)) (nI kd) (nI N) 48 (cl (y.1 44 0)) = y.1 50 0 := m_entry_48
  have eL : ∀ f, f < 44 ∨ f = 49 ∨ f = 51 ∨ 51 < f → m_entry y.1 j (cl (y.1 44 0)) (nI kd) (nI N) f = y.1 f := fun f hf => m_entry_ne (by omega) (by omega) (by omega) (by omega) (by omega) (by omega)
  have old : ∀ f e, 45 ≤ f → f ≤ 48 → e ≠ cl (y.1 44 0) → m_entry y.1 j (cl (y.1 44 0)) (nI kd) (nI N) f e = y.1 f e := by
    intro f e h1 h2 he
    have := lg_old (σ := y.1) (j := j) (k := nI kd) (n := nI N) h1 h2 he
    rwa [lg_en (by omega)] at this
  generalize m_entry y.1 j (cl (y.1 44 0)) (nI kd) (nI N) = L at *
  have ok := EvOK_new inv hj4 (by omega) (by omega) Q0 v45 v47 v48 (fun f hf => eL f (by omega))
  have gj := hh j hj
  have e37 : z.1 37 j = y.1 37 j := rt.1
  have e38 : z.1 38 j = y.1 38 j := (rt.2.2.2.2.2.2.2.1 (Or.inl h7)).1
  have e19 : z.2.1 19 j = y.2 19 j := rt.2.1
  have er : ER L (t2 y.2 49 (cl (y.1 44 0)) (y.2 19 j)) (cl (y.1 44 0)) (k, v, b, z.2.1 19 j, z.1 37 j - z.1 38 j) := ER_of D v45 v47 (by rw [v48]) (eL 51 (by omega)) (by omega) p2 (by rw [t2_49s, e19]) (by rw [v46, e37, e38])
  generalize hy' : u2 (u2 (m_ev L j (cl (y.1 44 0))) 44 0 (nI (cl (y.1 44 0)))) 50 0 (nI (cl (y.1 50 0))) = s'
  have ev : ∀ f, f ≠ 44 → f ≠ 50 → s' f = m_ev L j (cl (y.1 44 0)) f := fun f h1 h2 => by rw [← hy', u2_ne h2, u2_ne h1]
  have ne : ∀ f, f < 15 ∨ (36 < f ∧ f < 44) ∨ f = 49 ∨ 50 < f → f ≠ 63 → s' f = y.1 f := fun f h1 h2 => by rw [ev f (by omega) (by omega), evne (by omega) h2, eL f (by omega)]
  obtain ⟨raN, wF⟩ := RA_ev (s' := s') ra S.1.1 hHj.1.1 hp16 (fun f hf => eL f (by omega)) ok er (fun q1 q2 => by rw [v45, cl_nI (by omega)] at q1; rw [eL 28 (by omega)] at q2; rw [v47, cl_nI (by omega)]; exact p5 q1 q2) (fun f hf => ev f (by omega) (by omega))
  have vR := ev_R (v_B_nf hHj.1.1 (fun f hf => eL f (by omega))) (by rw [eL 38 (by omega)]; exact nb_mono hHj.1.2.2.2.2.2.2.1 (by omega)) ok
  have vF := vR.1
  have ag : AgE y.1 s' y.2 (t2 y.2 49 (cl (y.1 44 0)) (y.2 19 j)) := by
    refine ⟨?_, ?_, fun e he => ⟨fun f h1 h2 => ?_, ?_⟩, fun i hi => ?_⟩
    · rw [← hy', u2_ne (by decide), u2_ss, cl_nI (by have := n44.2; omega)]; exact Nat.le_refl _
    · rw [← hy', u2_ss, cl_nI (by have := n50.2; omega)]; exact Nat.le_refl _
    · rw [ev f (by omega) (by omega), evne (by omega) (by omega), old f e h1 h2 (by omega)]
    · exact t2_49n (by omega)
    · rw [ne 51 (by omega) (by omega)]
  have t19 : ∀ h, t2 y.2 49 (cl (y.1 44 0)) (y.2 19 j) 19 h = y.2 19 h := fun h => by rw [t2_4919]
  have zlo : ∀ f, f < 15 ∨ (37 < f ∧ f < 100) ∨ 108 < f → k_rcv z.1 pg j k v b f = z.1 f := fun f hf => funext fun i => wF_lo wF hf
  have z37 : k_rcv z.1 pg j k v b 37 = z.1 37 := k_rcv_ne (by omega)
  have epe : ∀ q, ∀ x, ((∃ i, q < n ∧ i < cl (z.1 121 q) ∧ z.2.2.1 q (k_wr 512 (cl (z.1 120 q) + i)) = some x) ∨ (∃ i, i < cl (z.1 133 0) ∧ z.2.2.1 4 (k_wr rm (cl (z.1 132 0) + i)) = some x) ∨ (∃ i, i < cl (z.1 135 0) ∧ z.2.2.1 5 (k_wr rm (cl (z.1 134 0) + i)) = some x)) → eu z.2.2.2 a (k, v, b, z.2.1 19 j, z.1 37 j - z.1 38 j) x = z.2.2.2 x := fun q x w => by
    refine eu_n (fun e => ?_)
    subst e
    rcases w with ⟨i, w1, w2, w3⟩ | ⟨i, w2, w3⟩ | ⟨i, w2, w3⟩
    · exact fr.1 q i w1 w2 w3
    · exact fr.2.1 i w2 w3
    · exact fr.2.2 i w2 w3
  refine ⟨?_, fun h hhn => ?_, ?_, ?_, ?_, ?_, ?_⟩
  · exact RG_nf hg (fun f hf => zlo f (by omega)) (fun f hf => ne f (by omega) (by omega))
  · by_cases x : h = j
    · subst x
      refine ⟨raN, RT_fr hHj (by omega) rt ⟨fun f i hf hi => ?_, rfl, fun _ => rfl, fun i x w1 w2 => epe h x (Or.inl ⟨i, hj, w1, w2⟩)⟩ ⟨fun f i hf hi => ?_, t19 h, fun x _ => ?_⟩ ag⟩
      · have w := of_decide_eq_true hf
        show k_rcv z.1 pg h k v b f _ = z.1 f _
        by_cases q : f = 37
        · subst q; rw [z37]
        · rw [zlo f (by omega)]
      · have w := of_decide_eq_true hf
        show s' f _ = y.1 f _
        by_cases q : f = 31
        · subst q
          rw [ev 31 (by decide) (by decide), m_ev_ne (by decide) (by decide) (by decide) (by decide) (by decide) (by decide) (by decide) (by decide) (by decide), eL 31 (by omega)]
        · rw [ne f (by omega) (by omega)]
      · show s' 43 _ = y.1 43 _
        rw [ne 43 (by omega) (by omega)]
    · refine RH_fr (inv.2.1 h (by omega)) rfl hp16 (by omega) (hh h hhn) ⟨fun f i hf hi => wF_h wF x hi, rfl, fun _ => rfl, fun i x w1 w2 => epe h x (Or.inl ⟨i, hhn, w1, w2⟩)⟩ ⟨⟨fun f i hf hi => ?_, t19 h⟩, fun i hi => ?_⟩ ag (fun w => ?_)
      · have q := of_decide_eq_true hf
        show s' f _ = y.1 f _
        by_cases q2 : f < 44
        · rw [ev f (by omega) (by omega)]
          have := (sm_F (τ := y.2) (υ := y.2) vF x rfl).1 f i hf hi
          rw [this, eL f (by omega)]
        · rw [ne f (by omega) (by omega)]
      · show s' 43 _ = y.1 43 _
        rw [ne 43 (by omega) (by omega)]
      · have w' : nI h = s' 61 0 := w
        rw [ne 61 (by omega) (by omega)] at w'
        refine ⟨w', fun p _ => ?_⟩
        show s' 63 p = _
        rw [ev 63 (by decide) (by decide), F_63 vF (fun q => ?_), eL 63 (by omega)]
        rw [eL 61 (by omega), ← w'] at q
        exact x (nIv_inj q (by omega) (by omega)).symm
  · exact RP_fr hp (fun f hf => zlo f (by omega)) (fun _ => ⟨rfl, rfl⟩) (fun i x w1 w2 => epe 0 x (Or.inr (Or.inl ⟨i, w1, w2⟩))) (fun i x w1 w2 => epe 0 x (Or.inr (Or.inr ⟨i, w1, w2⟩))) (fun f hf => ne f (by omega) (by omega)) ag
  · exact RD_fr hd' (fun f h1 h2 => zlo f (by omega)) (fun f h1 h2 => ne f (by omega) (by omega))
  · exact EX_nf hx (by omega) (fun f hf => ne f (by omega) (by omega))
  · refine TK_63 ht (by omega) (fun f hf => ne f (by omega) (by omega)) (fun i => ?_)
    show s' 63 i = _ ∨ s' 63 i = 1
    rw [ev 63 (by decide) (by decide)]
    have := ev_63 vF i
    rw [eL 63 (by omega)] at this
    exact this
  · show CM n s'
    exact cm_ev (L := L) hm (fun f hf => eL f (by omega)) (fun f hf => ev f (by omega) (by omega)) (fun i hi => by rw [ev 27 (by decide) (by decide)]; exact vF_27 vF hi)
