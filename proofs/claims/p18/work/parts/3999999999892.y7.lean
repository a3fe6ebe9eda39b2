theorem RR_51 {n pg rm c : Nat} {z : CZ} {y : RZ} {s1 : (Nat → Nat → Int32)} (V : CV n pg rm c y.1 y.2) (hc : c ≤ 4000) (H : RR n pg rm c z y) (e : ∀ f, f ≠ 51 → s1 f = y.1 f) (e51 : ∀ i, i < cl (y.1 50 0) → s1 51 i = y.1 51 i) : RR n pg rm c z (s1, y.2) := by
  obtain ⟨hg, hh, hp, hd', hx, ht, hm⟩ := H
  have hn4 := V.g.1.2.2.2.2.2.2.1
  have ag : AgE y.1 s1 y.2 y.2 := ⟨by rw [e 44 (by decide)]; exact Nat.le_refl _, by rw [e 50 (by decide)]; exact Nat.le_refl _, fun x _ => ⟨fun f h1 h2 => by rw [e f (by omega)], rfl⟩, e51⟩
  refine ⟨RG_nf hg (fun _ _ => rfl) (fun f hf => e f (by omega)), fun j hj => ?_, RP_fr hp (fun _ _ => rfl) (fun _ => ⟨rfl, rfl⟩) (fun _ _ _ _ => rfl) (fun _ _ _ _ => rfl) (fun f hf => e f (by omega)) ag, RD_fr hd' (fun _ _ _ => rfl) (fun f h1 h2 => e f (by omega)), EX_nf hx (Nat.le_refl _) (fun f hf => e f (by omega)), TK_nf ht (Nat.le_refl _) (fun f hf => e f (by omega)), CM_nf hm (fun f hf => e f (by omega))⟩
  refine RH_frV V (by omega) (by omega) (hh j hj) (CS.nf (fun _ _ => rfl) rfl) (RS.nf (fun f hf => e f ?_) rfl) ag (fun q => ⟨by rw [← e 61 (by decide)]; exact q, fun p _ => by show s1 63 p = _; rw [e 63 (by decide)]⟩)
  rintro rfl; exact absurd hf (by decide)
theorem CV_51 {n pg rm c : Nat} {s s1 : (Nat → Nat → Int32)} {τ : (Nat → Nat → Int64)} (V : CV n pg rm c s τ) (hc : c ≤ 511) (e : ∀ f, f ≠ 51 → s1 f = s f) (e51 : ∀ i, i < cl (s 50 0) → s1 51 i = s 51 i) : CV n pg rm c s1 τ := by
  obtain ⟨l, inv⟩ := V
  exact ⟨l, INV_51 inv (by omega) (by omega) e e51⟩
theorem lv_hd {n pg rm c j : Nat} {z : CZ} {y : RZ} (H : RR n pg rm c z y) (hj : j < n) : k_hd z.1 j ↔ m_isLv y.1 j := by
  obtain ⟨-, rt⟩ := H.2.1 j hj
  unfold k_hd m_isLv
  rw [rt.2.2.1]
  constructor
  · rintro ⟨a, b⟩; exact ⟨a, by rw [← (rt.2.2.2.2.2.1.1 a).2.1]; exact b⟩
  · rintro ⟨a, b⟩; exact ⟨a, by rw [(rt.2.2.2.2.2.1.1 a).2.1]; exact b⟩
theorem room_e {n pg rm c j : Nat} {z : CZ} {y : RZ} (V : CV n pg rm c y.1 y.2) (H : RR n pg rm c z y) (hj : j < n) (h7 : y.1 7 j = 1) : k_room z.1 j = m_comesR y.1 j := by
  obtain ⟨-, rt⟩ := H.2.1 j hj
  obtain ⟨i115, i116, i121, i0, i1⟩ := rt.2.2.2.2.2.1.1 h7
  have z3 : z.1 3 0 = nI rm := H.1.2.2.2.2.2.2.2
  have y3 : y.1 3 0 = nI rm := V.g.1.2.2.2.1
  unfold k_room m_comesR
  rw [i115, z3, y3]
  by_cases q : y.1 11 j = 0
  · rw [decide_eq_false (fun w => w.1 q), decide_eq_false (fun w => w.1 q)]
  · rw [(i1 q).2]
theorem RR_com {n pg rm c j kd N a : Nat} {z : CZ} {y : RZ} {k v : Int32} {b : Option (Nat × (Nat → Int32))} (S : SC n pg rm c z.1) (V : CV n pg rm c y.1 y.2) (hc : c ≤ 511) (H : RR n pg rm c z y) (hj : j < n) (lv : m_isLv y.1 j) (hr : m_comesR y.1 j = true) (D : EDk y.1 (cl (y.1 50 0)) kd N k v b) (Q : CmQ y.1 j kd N) (fr : FRQ n rm z.2.2.1 z.1 a) : RR n pg rm (c + 1) (evZ pg rm j a k v b z.1 z) (m_comes y.1 j kd N, m_comesT y.1 y.2 j) := by
  by_cases q : y.1 11 j = 0
  · exact RR_comU S V hc H hj lv.1 q D Q fr
  · refine RR_comP S V hc H hj lv.1 q lv.2 (fun w => ?_) D Q fr
    unfold m_comesR at hr
    rw [decide_eq_true ⟨q, w⟩] at hr
    exact absurd hr (by decide)
theorem evt_0 {n pg rm : Nat} {k v : Int32} {bo : Option (Nat × (Nat → Int32)) → Prop} {full : Nat → Prop} {bad : Prop} {z z' : CZ} {r : Int32} (o : oEv n pg rm k v bo full bad z z' r) (h : (∀ j, j < n → ¬ k_hd z.1 j) ∨ bad ∨ ∃ j, j < n ∧ k_hd z.1 j ∧ (∀ i, i < j → ¬ k_hd z.1 i) ∧ full j) : z' = z ∧ r = 0 := by
  rcases o with ⟨e1, e2, -⟩ | ⟨-, nb, j, a, b, hj, q1, q2, q3, q4, -⟩
  · exact ⟨e2, e1⟩
  · rcases h with h | h | ⟨i, h1, h2, h3, h4⟩
    · exact absurd q1 (h j hj)
    · exact absurd h nb
    · have : i = j := by
        rcases Nat.lt_trichotomy i j with w | w | w
        · exact absurd h2 (q2 i w)
        · exact w
        · exact absurd q1 (h3 j w)
      subst this; exact absurd h4 q4
theorem evt_1 {n pg rm j : Nat} {k v : Int32} {bo : Option (Nat × (Nat → Int32)) → Prop} {full : Nat → Prop} {bad : Prop} {z z' : CZ} {r : Int32} (o : oEv n pg rm k v bo full bad z z' r) (hj : j < n) (h1 : k_hd z.1 j) (h2 : ∀ i, i < j → ¬ k_hd z.1 i) (hb : ¬ bad) (hf : ¬ full j) : (z' = z ∧ r = 0 ∧ k_room z.1 j = false) ∨ ∃ a b, k_room z.1 j = true ∧ bo b ∧ FRQ n rm z.2.2.1 z.1 a ∧ z' = evZ pg rm j a k v b z.1 z ∧ r = 1 := by
  have uq : ∀ i, i < n → k_hd z.1 i → (∀ x, x < i → ¬ k_hd z.1 x) → i = j := fun i hi w1 w2 => by
    rcases Nat.lt_trichotomy i j with w | w | w
    · exact absurd w1 (h2 i w)
    · exact w
    · exact absurd h1 (w2 j w)
  rcases o with ⟨e1, e2, q | q | ⟨i, hi, q1, q2, q3⟩⟩ | ⟨e1, -, i, a, b, hi, q1, q2, q3, q4, q5, q6, q7⟩
  · exact absurd h1 (q j hj)
  · exact absurd q hb
  · have := uq i hi q1 q2
    subst this
    rcases q3 with q3 | q3
    · exact Or.inl ⟨e2, e1, q3⟩
    · exact absurd q3 hf
  · have := uq i hi q1 q2
    subst this
    exact Or.inr ⟨a, b, q3, q5, q6, q7, e1⟩
theorem RR_evt {n pg rm c kd N j : Nat} {k v : Int32} {bo : Option (Nat × (Nat → Int32)) → Prop} {full : Nat → Prop} {bad : Prop} {z z' : CZ} {y y' : RZ} {r r' : Int32} {s1 : (Nat → Nat → Int32)} (S : SC n pg rm c z.1) (V : CV n pg rm c y.1 y.2) (hc : c ≤ 511) (H : RR n pg rm c z y) (o : oEv n pg rm k v bo full bad z z' r) (e : ∀ f, f ≠ 51 → s1 f = y.1 f) (e51 : ∀ i, i < cl (y.1 50 0) → s1 51 i = y.1 51 i) (hb : ¬ bad) (hf : ¬ full j) (D : ∀ b, bo b → EDk s1 (cl (y.1 50 0)) kd N k v b) (Q : CmQ y.1 j kd N) (hj : j < n) (lv : m_isLv y.1 j) (fi : ∀ i, i < j → ¬ m_isLv y.1 i) (ey : y' = (m_comes s1 j kd N, m_comesT s1 y.2 j)) (er : r' = cond (m_comesR s1 j) 1 0) : RR n pg rm (c + 1) z' y' ∧ r = r' := by
  have H1 := RR_51 V (by omega) H e e51
  have V1 : CV n pg rm c s1 y.2 := CV_51 V hc e e51
  have lv1 : m_isLv s1 j := by unfold m_isLv; rw [e 7 (by decide), e 12 (by decide)]; exact lv
  have hr := room_e (y := (s1, y.2)) V1 H1 hj lv1.1
  have hr' : k_room z.1 j = m_comesR s1 j := hr
  have Q1 : CmQ s1 j kd N := by unfold CmQ; rw [e 33 (by decide), e 35 (by decide), e 28 (by decide)]; exact Q
  rcases evt_1 o hj ((lv_hd H hj).mpr lv) (fun i hi w => fi i hi ((lv_hd H (by omega)).mp w)) hb hf with ⟨e1, e2, e3⟩ | ⟨a, b, e1, e2, e3, e4, e5⟩
  · rw [e1, e2, ey, er, ← hr', e3]
    refine ⟨?_, rfl⟩
    rw [hr'] at e3
    unfold m_comesR at e3
    have w : ¬ s1 11 j = 0 ∧ s1 3 0 ≤ s1 55 j := by
      by_cases w : ¬ s1 11 j = 0 ∧ s1 3 0 ≤ s1 55 j
      · exact w
      · rw [decide_eq_false w] at e3; exact absurd e3 (by decide)
    have c1 : m_comes s1 j kd N = s1 := by unfold m_comes; rw [if_pos w.1, if_pos w.2]
    have c2 : m_comesT s1 y.2 j = y.2 := by unfold m_comesT; rw [if_pos w.1, if_pos w.2]
    rw [c1, c2]
    exact RR_up V1 (by omega) H1 (by omega)
  · rw [e4, e5, ey, er, ← hr', e1]
    refine ⟨?_, rfl⟩
    exact RR_com (y := (s1, y.2)) S V1 hc H1 hj lv1 (by rw [← hr']; exact e1) (by show EDk s1 (cl (s1 50 0)) kd N k v b; rw [e 50 (by decide)]; exact D b e2) Q1 e3
theorem RR_evt0 {n pg rm c : Nat} {k v : Int32} {bo : Option (Nat × (Nat → Int32)) → Prop} {full : Nat → Prop} {bad : Prop} {z z' : CZ} {y y' : RZ} {r r' : Int32} (V : CV n pg rm c y.1 y.2) (hc : c ≤ 511) (H : RR n pg rm c z y) (o : oEv n pg rm k v bo full bad z z' r) (h : (∀ j, j < n → ¬ m_isLv y.1 j) ∨ bad ∨ ∃ j, j < n ∧ m_isLv y.1 j ∧ (∀ i, i < j → ¬ m_isLv y.1 i) ∧ full j) (ey : y' = y) (er : r' = 0) : RR n pg rm (c + 1) z' y' ∧ r = r' := by
  have h' : (∀ j, j < n → ¬ k_hd z.1 j) ∨ bad ∨ ∃ j, j < n ∧ k_hd z.1 j ∧ (∀ i, i < j → ¬ k_hd z.1 i) ∧ full j := by
    rcases h with h | h | ⟨j, hj, h1, h2, h3⟩
    · exact Or.inl (fun j hj w => h j hj ((lv_hd H hj).mp w))
    · exact Or.inr (Or.inl h)
    · exact Or.inr (Or.inr ⟨j, hj, (lv_hd H hj).mpr h1, fun i hi w => h2 i hi ((lv_hd H (by omega)).mp w), h3⟩)
  obtain ⟨e1, e2⟩ := evt_0 o h'
  rw [e1, e2, ey, er]
  exact ⟨RR_up V (by omega) H (by omega), rfl⟩
theorem RR_tick {n pg rm c : Nat} {z z' : CZ} {y y' : RZ} {r r' : Int32} (S : SC n pg rm c z.1) (V : CV n pg rm c y.1 y.2) (hc : c ≤ 511) (H : RR n pg rm c z y) (o : oTick n pg rm z z' r) (p : pTick n y y' r') : RR n pg rm (c + 1) z' y' ∧ r = r' := by
  rcases p with ⟨q, ey, er⟩ | ⟨j, hj, q1, q2, ey, er⟩
  · exact RR_evt0 V hc H o (Or.inl q) ey er
  · refine RR_evt S V hc H o (fun _ _ => rfl) (fun _ _ => rfl) (fun w => w) (fun w => w) (fun b hb => ?_) ⟨by omega, by omega, fun w => absurd w (by omega), fun w => absurd w (by omega), fun w => absurd w (by omega)⟩ hj q1 q2 ey er
    exact ⟨rfl, fun w => absurd w (by omega), fun w => absurd w (by omega), fun w => absurd w (by omega), fun _ _ => hb⟩
theorem nb_16 {x : Int32} {b m : Nat} (H : nb x b) (hm : m < 2147483648) (hb : b < 2147483648) : cl x = m ↔ x = nI m := by
  constructor
  · intro e; rw [H.1, e]
  · intro e; rw [e, cl_nI (by omega)]
theorem RR_key {n pg rm c : Nat} {b : Int32} {z z' : CZ} {y y' : RZ} {r r' : Int32} (S : SC n pg rm c z.1) (V : CV n pg rm c y.1 y.2) (hc : c ≤ 511) (H : RR n pg rm c z y) (o : oKey n pg rm b z z' r) (p : pKey n b y y' r') : RR n pg rm (c + 1) z' y' ∧ r = r' := by
  rcases p with ⟨q, ey, er⟩ | ⟨j, hj, q1, q2, ⟨q3, ey, er⟩ | ⟨q3, ey, er⟩⟩
  · exact RR_evt0 V hc H o (Or.inl q) ey er
  · refine RR_evt0 V hc H o (Or.inr (Or.inr ⟨j, hj, q1, q2, ?_⟩)) ey er
    have e := w_g1 33 (H.2.1 j hj).1.1 rfl
    show cl (z.1 33 j) = 16
    rw [e, q3]; rfl
  · have hn4 := V.g.1.2.2.2.2.2.2.1
    have b33 := (CV_h V (show j < 4 by omega)).1.2.2.2.1
    have n16 : ¬ cl (y.1 33 j) = 16 := fun w => q3 ((nb_16 b33 (by decide) (by decide)).mp w)
    refine RR_evt S V hc H o (s1 := m_data1 y.1 b) (fun f hf => by unfold m_data1; rw [u2_ne hf]) (fun i hi => by unfold m_data1; rw [u2_sn (by omega)]) (fun w => w) (fun w => ?_) (fun x hx => ?_) ⟨by omega, by omega, fun _ => ⟨by have := b33.2; omega, by omega⟩, fun w => absurd w (by omega), fun w => absurd w (by omega)⟩ hj q1 q2 ey er
    · have w' : cl (z.1 33 j) = 16 := w
      rw [w_g1 33 (H.2.1 j hj).1.1 rfl] at w'; exact n16 w'
    · refine ⟨rfl, fun _ => ?_, fun w => absurd w (by omega), fun w => absurd w (by omega), fun _ _ => hx⟩
      show b &&& 255 = m_data1 y.1 b 51 (cl (y.1 50 0)) &&& 255
      unfold m_data1; rw [u2_ss, byte_and]
theorem pkl_v {σ : (Nat → Nat → Int32)} {D : Nat} {a b c d : Int64} : ∀ n i, i < n → m_pkl σ D a b c d n 51 (D + i) = k_pkf a b c d i
  | 0, i, h => absurd h (by omega)
  | n + 1, i, h => by
    unfold m_pkl
    by_cases q : i = n
    · rw [q, u2_ss]; rfl
    · rw [u2_sn (by omega)]; exact pkl_v n i (by omega)
theorem RR_pkt {n pg rm c : Nat} {w : Int32} {a b e f : Int64} {z z' : CZ} {y y' : RZ} {r r' : Int32} (S : SC n pg rm c z.1) (V : CV n pg rm c y.1 y.2) (hc : c ≤ 511) (H : RR n pg rm c z y) (o : oPkt n pg rm w a b e f z z' r) (p : pPkt n w a b e f y y' r') : RR n pg rm (c + 1) z' y' ∧ r = r' := by
  rcases p with ⟨q, ey, er⟩ | ⟨j, N, hj, q1, q2, hN1, hN2, ew, ⟨q3, ey, er⟩ | ⟨q3, ey, er⟩⟩
  · exact RR_evt0 V hc H o (q.elim Or.inl (fun q => Or.inr (Or.inl q))) ey er
  · refine RR_evt0 V hc H o (Or.inr (Or.inr ⟨j, hj, q1, q2, ?_⟩)) ey er
    have e := w_g1 35 (H.2.1 j hj).1.1 rfl
    show cl (z.1 35 j) = 4
    rw [e, q3]; rfl
  · have hn4 := V.g.1.2.2.2.2.2.2.1
    have b35 := (CV_h V (show j < 4 by omega)).1.2.2.2.2.1
    have n4 : ¬ cl (y.1 35 j) = 4 := fun w => q3 ((nb_16 b35 (by decide) (by decide)).mp w)
    refine RR_evt S V hc H o (s1 := m_pkl y.1 (cl (y.1 50 0)) a b e f N) (fun g hg => m_pkl_ne hg N) (fun i hi => m_pkl_lo hi N) (fun w => w ?_) (fun w => ?_) (fun x hx => ?_) ⟨by omega, by omega, fun w => absurd w (by omega), fun _ => ⟨by have := b35.2; omega, hN2⟩, fun w => absurd w (by omega)⟩ hj q1 q2 ey er
    · rw [ew]; exact PkIn_of hN1 hN2
    · have w' : cl (z.1 35 j) = 4 := w
      rw [w_g1 35 (H.2.1 j hj).1.1 rfl] at w'; exact n4 w'
    · obtain ⟨N', g, x1, x2, x3, x4, x5⟩ := hx
      have eN : N' = N := nIv_inj (x4.symm.trans ew) (by omega) (by omega)
      subst eN
      refine ⟨rfl, fun w => absurd w (by omega), fun _ => ⟨⟨hN1, hN2⟩, g, x1, fun i hi => ⟨?_, ?_⟩⟩, fun w => absurd w (by omega), fun w => absurd rfl w⟩
      · rw [pkl_v N' i hi]; exact x5 i hi
      · unfold byt; rw [x5 i hi]; exact k_pkf_b _ _ _ _ _
