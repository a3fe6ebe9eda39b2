theorem HI_m {S M j : Nat} {l : Nat → Nat} {σ ς : (Nat → Nat → Int32)} {τ : (Nat → Nat → Int64)} (H : HI S M l σ τ j) (e : ∀ f, f = 4 ∨ (16 ≤ f ∧ f ≤ 42) → ς f = σ f) (hb : BYa ς) : HI S M l ς τ j := by
  obtain ⟨a1, a2, a3, a4, a5, a6, a7, a8⟩ := H
  refine ⟨?_, a2, a3, ?_⟩
  · obtain ⟨b1, b2, b3, b4, b5, b6, b7, b9, b8⟩ := a1
    exact ⟨by rw [e 4 (by omega)]; exact b1, b2, b3, by rw [e 33 (by omega)]; exact b4, by rw [e 35 (by omega)]; exact b5, by rw [e 34 (by omega)]; exact b6, by rw [e 30 (by omega)]; exact b7, by rw [e 29 (by omega)]; exact b9, hb⟩
  · unfold KI
    rw [e 37 (by omega), e 38 (by omega), e 39 (by omega), e 40 (by omega), e 41 (by omega), e 42 (by omega), e 27 (by omega), e 28 (by omega), e 29 (by omega)]
    exact ⟨a4, a5, a6, a7, a8⟩
theorem bootl_by {σ : (Nat → Nat → Int32)} (H : BYa σ) : ∀ k, BYa (m_bootl σ k)
  | 0 => H
  | k + 1 => by
    intro f i hf
    unfold m_bootl
    by_cases e : f = 15
    · subst e
      by_cases e2 : i = k
      · subst e2; rw [u2_ss]; exact byt_n _
      · rw [u2_sn e2]; exact bootl_by H k 15 i hf
    · rw [u2_ne e]; exact bootl_by H k f i hf
theorem bootl_hi {σ : (Nat → Nat → Int32)} {x : Nat} : ∀ k, k ≤ x → m_bootl σ k 15 x = σ 15 x
  | 0, _ => rfl
  | k + 1, h => by unfold m_bootl; rw [u2_sn (by omega), bootl_hi k (by omega)]
theorem CV_boot {n pg rm c : Nat} {σ : (Nat → Nat → Int32)} {τ : (Nat → Nat → Int64)} (hc : c ≤ 511) (H : CV n pg rm c σ τ) (h5 : σ 5 0 = 0) : CV n pg rm (c + 1) (m_boot σ) τ := by
  obtain ⟨l, H⟩ := H
  have H0 := H
  obtain ⟨g, hs, ho, hri⟩ := H
  obtain ⟨a1, a2, a3, a4, a5, a6, a0⟩ := hs 0 (by decide)
  obtain ⟨h60, hub⟩ := g.2.2.2.2.2.2 h5
  have nlv : ∀ h, h < 4 → ¬ σ 7 h = 1 := by
    intro h hh q
    have := (hub h hh).1
    rw [q] at this; exact absurd this (by decide)
  unfold m_boot
  generalize hZ : u2 (m_bootl (u2 σ 5 0 1) 4096) 7 0 1 = Z
  have e : ∀ f, f ≠ 5 → f ≠ 7 → f ≠ 15 → Z f = σ f := fun f q1 q2 q3 => by rw [← hZ, u2_ne q2, m_bootl_ne q3, u2_ne q1]
  have z7 : Z 7 0 = 1 := by rw [← hZ, u2_ss]
  have z5 : Z 5 0 = 1 := by rw [← hZ, u2_ne (by decide), m_bootl_ne (by decide), u2_ss]
  have hbZ : BYa Z := by
    intro f i hf
    rw [← hZ, u2_ne (by omega)]
    exact bootl_by (fun f i hf => by rw [u2_ne (by omega)]; exact INV_by H0 f i hf) 4096 f i hf
  have sZ : ∀ h, h ≠ 0 → Sm h σ Z τ τ := by
    intro h hh
    refine ⟨?_, rfl⟩
    intro f i hf hi
    by_cases q : f = 7
    · subst q
      have hi : i < 1 := hi
      rw [show h_s 7 = 1 from rfl, ← hZ, u2_sn (by omega), m_bootl_ne (by decide), u2_ne (by decide)]
    by_cases q2 : f = 15
    · subst q2
      rw [show h_s 15 = 4096 from rfl, ← hZ, u2_ne (by decide), bootl_hi _ (by omega), u2_ne (by decide)]
    · rw [e f (by intro e; subst e; cases hf) q q2]
  have z11 : Z 11 0 = 0 := by rw [e 11 (by decide) (by decide) (by decide)]; exact (hub 0 (by decide)).2.1
  refine ⟨l, INV_host H0 (by decide) (fun h _ hh => sZ h hh) (AgE_ne (fun f x y => e f (by omega) (by omega) (by omega)) rfl) (by rw [e 4 (by decide) (by decide) (by decide)]) hbZ (fun _ _ => rfl) (by omega) (by omega) (by omega) (by omega) ?_ ?_ ?_ ?_ ?_⟩
  · have nh : HI (256 * pg) (2000 * c) l Z τ 0 := HI_m a1 (fun f hf => e f (by omega) (by omega) (by omega)) hbZ
    refine ⟨⟨nh.1, nh.2.1, by have := nh.2.2.1; omega, nh.2.2.2⟩, fun h => absurd z11 h, ?_, ?_, ?_, ?_, fun _ => z11⟩
    · intro _ _; rw [e 38 (by decide) (by decide) (by decide)]; exact (hub 0 (by decide)).2.2
    · rw [z7]; intro h; exact absurd h (by decide)
    · rw [e 10 (by decide) (by decide) (by decide)]; exact nb_mono a5 (by omega)
    · have : CB c Z 0 := CB_nf a6 (fun f x y => e f (by omega) (by omega) (by omega))
      exact ⟨nb_mono this.1 (by omega), nb_mono this.2.1 (by omega), this.2.2⟩
  · intro b _ _ _ li; exact absurd z11 li.2.1
  · obtain ⟨g1, g2, g3, g4, g5, g6, g7⟩ := g
    refine ⟨?_, by rw [e 44 (by decide) (by decide) (by decide)]; exact nb_mono g2 (by omega), by rw [e 50 (by decide) (by decide) (by decide)]; exact nb_mono g3 (by omega), by rw [e 72 (by decide) (by decide) (by decide)]; exact g4, by rw [e 74 (by decide) (by decide) (by decide)]; exact g5, by unfold PartOK; rw [e 8 (by decide) (by decide) (by decide)]; exact g6, ?_⟩
    · unfold RB; rw [e 0 (by decide) (by decide) (by decide), e 1 (by decide) (by decide) (by decide), e 2 (by decide) (by decide) (by decide), e 3 (by decide) (by decide) (by decide), e 4 (by decide) (by decide) (by decide)]; exact g1
    · rw [z5]; intro h; exact absurd h (by decide)
  · refine OI_st ho (by omega) (fun f x y => e f (by omega) (by omega) (by omega)) (fun h _ => by rw [e 10 (by decide) (by decide) (by decide)]) (fun h hh x _ => absurd x (nlv h hh))
  · left
    rw [e 60 (by decide) (by decide) (by decide), e 61 (by decide) (by decide) (by decide)]
    rcases hri with q | ⟨r, s, t, x1, x2, _⟩
    · exact q
    · have hn := g.1.2.2.2.2.2.2.1
      exact absurd x2 (nlv s (by have := t.2.2.2.1; omega))
theorem CV_dlv {n pg rm c b v : Nat} {σ : (Nat → Nat → Int32)} {τ : (Nat → Nat → Int64)} (hc : c ≤ 511) (H : CV n pg rm c σ τ) (hb4 : b < 4) (hv4 : v < 4) (hA : DvAt σ b v) : CV n pg rm (c + 1) (m_dlv σ b v) τ ∧ nb (σ 53 v) 64 ∧ nb (σ 59 b) 4199 := by
  obtain ⟨l, H⟩ := H
  have H0 := H
  obtain ⟨g, hs, ho, hri⟩ := H
  have hrm : rm ≤ 32 := g.1.2.2.2.2.2.2.2.2.2.2
  obtain ⟨h7, lo, h53⟩ := hA
  obtain ⟨a1, a2, a3, a4, a5, a6, a0⟩ := hs b hb4
  obtain ⟨d1, d2, d3, d4, d5, d6, d0⟩ := hs v hv4
  obtain ⟨e11, b1, b2, b3, b4, b5, X, W, kb, b6, b7, b8, b9⟩ := a4 (.inl h7)
  obtain ⟨c1, c2, c3, c4, c5, c6, c7⟩ := d2 lo.2.1
  have hU := c2.2
  have hC := c1.2
  have hA1 := c3.2
  have bv : b ≠ v := by intro e; subst e; exact lo.2.1 e11
  have hC1 : 1 ≤ cl (σ 53 v) := by
    have : cl (σ 53 v) ≠ 0 := by intro e; apply h53; rw [c1.1, e]; rfl
    omega
  refine ⟨?_, nb_mono c1 (by omega), nb_mono b2 (by omega)⟩
  unfold m_dlv
  generalize hZ : u2 (m_sh (u2 (u2 (u2 σ 57 (4200 * b + cl (σ 59 b)) (σ 52 (64 * v))) 59 b (nI (cl (σ 59 b)) + 1)) 53 v (nI (cl (σ 53 v) - 1))) 52 v (cl (σ 53 v) - 1)) 56 v (σ 56 v + 1) = Z
  have e : ∀ f, f ≠ 52 → f ≠ 53 → f ≠ 56 → f ≠ 57 → f ≠ 59 → Z f = σ f := fun f q1 q2 q3 q4 q5 => by rw [← hZ, u2_ne q3, m_sh_ne q1, u2_ne q2, u2_ne q5, u2_ne q4]
  have e' : ∀ f, f < 52 ∨ f = 54 ∨ f = 55 ∨ f = 58 ∨ 59 < f → Z f = σ f := fun f hf => e f (by omega) (by omega) (by omega) (by omega) (by omega)
  have z56 : Z 56 v = nI (cl (σ 56 v) + 1) := by rw [← hZ, u2_ss]; exact (cl_inc c3 (by omega)).1
  have z53 : Z 53 v = nI (cl (σ 53 v) - 1) := by rw [← hZ, u2_ne (by decide), m_sh_ne (by decide), u2_ss]
  have z59 : Z 59 b = nI (cl (σ 59 b) + 1) := by rw [← hZ, u2_ne (by decide), m_sh_ne (by decide), u2_ne (by decide), u2_ss, nIv_inc]
  have z57 : ∀ x, Z 57 x = if x = 4200 * b + cl (σ 59 b) then σ 52 (64 * v) else σ 57 x := by
    intro x
    rw [← hZ, u2_ne (by decide), m_sh_ne (by decide), u2_ne (by decide), u2_ne (by decide)]
    by_cases q : x = 4200 * b + cl (σ 59 b)
    · subst q; rw [u2_ss, if_pos rfl]
    · rw [u2_sn q, if_neg q]
  have z52 : ∀ i, i < cl (σ 53 v) - 1 → Z 52 (64 * v + i) = σ 52 (64 * v + (i + 1)) := by
    intro i hi
    rw [← hZ, u2_ne (by decide), sh_lo, if_pos hi, u2_ne (by decide), u2_ne (by decide), u2_ne (by decide)]; rfl
  have sZ : ∀ h, h ≠ b → h ≠ v → h < 4 → Sm h σ Z τ τ := by
    intro h hh hv' h4
    refine ⟨?_, rfl⟩
    intro f i hf hi
    unfold h_f at hf
    have hf := of_decide_eq_true hf
    have b2' := b2.2
    by_cases q : f < 52 ∨ f = 54 ∨ f = 55 ∨ f = 58
    · rw [e' f (by omega)]
    have : f = 52 ∨ f = 53 ∨ f = 56 ∨ f = 57 ∨ f = 59 := by omega
    rcases this with q | q | q | q | q <;> subst q
    · have hi : i < 64 := hi
      rw [show h_s 52 = 64 from rfl, ← hZ, u2_ne (by decide), sh_out hv' hi _ (by omega), u2_ne (by decide), u2_ne (by decide), u2_ne (by decide)]
    · have hi : i < 1 := hi
      rw [show h_s 53 = 1 from rfl, ← hZ, u2_ne (by decide), m_sh_ne (by decide), u2_sn (by omega), u2_ne (by decide), u2_ne (by decide)]
    · have hi : i < 1 := hi
      rw [show h_s 56 = 1 from rfl, ← hZ, u2_sn (by omega), m_sh_ne (by decide), u2_ne (by decide), u2_ne (by decide), u2_ne (by decide)]
    · have hi : i < 4200 := hi
      rw [show h_s 57 = 4200 from rfl, z57, if_neg (by omega)]
    · have hi : i < 1 := hi
      rw [show h_s 59 = 1 from rfl, ← hZ, u2_ne (by decide), m_sh_ne (by decide), u2_ne (by decide), u2_sn (by omega), u2_ne (by decide)]
  have ag : AgE σ Z τ τ := AgE_ne (fun f x y => e' f (by omega)) rfl
  have hbZ : BYa Z := fun f i hf => by rw [e' f (by omega)]; exact INV_by H0 f i hf
  have hvs : ∀ h, hv (256 * pg) l Z τ h = hv (256 * pg) l σ τ h := fun h => hv_nf (fun f x y => e' f (by omega)) rfl
  have los : ∀ x y, isLO Z x y → isLO σ x y := fun x y => isLO_s2 (fun f hf => by rw [e' f (by omega)]; exact ⟨rfl, rfl⟩)
  have chs : ∀ h, h ≠ v → cl (σ 53 h) ≤ 63 → h < 4 → chL Z h = chL σ h := by
    intro h hh hle h4
    by_cases q : h = b
    · subst q
      have q1 : Z 53 h = σ 53 h := by rw [← hZ, u2_ne (by decide), m_sh_ne (by decide), u2_sn hh, u2_ne (by decide), u2_ne (by decide)]
      unfold chL
      rw [q1]
      exact map_eq fun i hi => by rw [← hZ, u2_ne (by decide), sh_out hh (by omega) _ (by omega), u2_ne (by decide), u2_ne (by decide), u2_ne (by decide)]
    · exact chL_sm (sZ h q hh h4) (by omega)
  refine ⟨l, ?_, ?_, ?_, ?_⟩
  · refine GI_st g hb4 (.inr (.inl h7)) (fun f i hf => by rw [e' f (by omega)]) ?_ ?_ ?_ ?_
    · rw [e' 44 (by omega)]; exact nb_mono g.2.1 (by omega)
    · rw [e' 50 (by omega)]; exact nb_mono g.2.2.1 (by omega)
    · rw [e' 72 (by omega)]; exact g.2.2.2.1
    · rw [e' 74 (by omega)]; exact g.2.2.2.2.1
  · intro h h4
    by_cases hb' : h = b
    · subst hb'
      have nh : HI (256 * pg) (2000 * c) l Z τ h := HI_nf a1 (fun f hf => e' f (by omega)) rfl
      have b2' := b2.2
      have cbn : ∀ i, cl (σ 58 h) ≤ i → i < cl (σ 59 h) + 1 → nb (Z 57 (4200 * h + i)) 23999 := by
        intro i h1 h2
        rw [z57]
        by_cases q : i = cl (σ 59 h)
        · rw [if_pos (by omega)]; have := c4 0 (by omega); rwa [Nat.add_zero] at this
        · rw [if_neg (by omega)]; exact b4 i h1 (by omega)
      refine ⟨⟨nh.1, nh.2.1, by have := nh.2.2.1; omega, nh.2.2.2⟩, ?_, ?_, ?_, ?_, ?_, ?_⟩
      · rw [e' 11 (by omega)]; exact fun q => absurd e11 q
      · rw [e' 7 (by omega), h7]; intro q; exact absurd q (by decide)
      · intro _
        rw [e' 11 (by omega)]
        refine ⟨e11, ?_⟩
        unfold BI
        rw [e' 58 (by omega), z59, cl_nI (by omega), e' 7 (by omega), e' 38 (by omega), hvs]
        refine ⟨nb_mono b1 (by omega), nb_n (by omega) (by omega), by omega, cbn, fun _ => by omega, (List.range (cl (σ 53 v) - 1)).map (fun i => cl (σ 52 (64 * v + (i + 1)))), W, kb, b6, b7, ?_, ?_⟩
        · obtain ⟨x1, x2⟩ := b9 v hv4 lo
          have ecm : cmL Z h = cmL σ h ++ [cl (σ 52 (64 * v))] := by
            unfold cmL
            rw [e' 58 (by omega), z59, cl_nI (by omega)]
            have : cl (σ 59 h) + 1 - cl (σ 58 h) = (cl (σ 59 h) - cl (σ 58 h)) + 1 := by omega
            rw [this, List.range_succ, List.map_append]
            congr 1
            · exact map_eq fun i hi => by rw [z57, if_neg (by omega)]
            · rw [List.map_cons, List.map_nil, z57, if_pos (by omega)]
          have ech : chL σ v = cl (σ 52 (64 * v)) :: (List.range (cl (σ 53 v) - 1)).map (fun i => cl (σ 52 (64 * v + (i + 1)))) := by
            unfold chL
            have : cl (σ 53 v) = (cl (σ 53 v) - 1) + 1 := by omega
            rw [this, List.range_succ_eq_map, List.map_cons, List.map_map]
            congr 1
          have eq : cmL Z h ++ (List.range (cl (σ 53 v) - 1)).map (fun i => cl (σ 52 (64 * v + (i + 1)))) = cmL σ h ++ X := by
            rw [ecm, x1, ech, List.append_assoc]; rfl
          rw [eq]
          exact ch_ag ag (by omega) (HI_vok a1) (ch_mono (by omega) b8)
        · intro i hi li
          have li' := los _ _ li
          have : i = v := nIv_inj (li'.1.symm.trans lo.1) (by omega) (by omega)
          subst this
          obtain ⟨x1, x2⟩ := b9 i hi li'
          refine ⟨?_, by rw [hvs]; exact x2⟩
          unfold chL
          rw [z53, cl_nI (by omega)]
          exact (map_eq fun k hk => by rw [z52 k hk]).symm
      · rw [e' 10 (by omega)]; exact nb_mono a5 (by omega)
      · unfold CB
        rw [e' 58 (by omega), z59, cl_nI (by omega)]
        exact ⟨nb_mono b1 (by omega), nb_n (by omega) (by omega), by omega, cbn⟩
      · rw [e' 11 (by omega)]; exact fun _ => e11
    · by_cases hv' : h = v
      · subst hv'
        have nh : HI (256 * pg) (2000 * c) l Z τ h := HI_nf d1 (fun f hf => e' f (by omega)) rfl
        have w57 : ∀ i, i < 4200 → Z 57 (4200 * h + i) = σ 57 (4200 * h + i) := fun i hi => by rw [z57, if_neg (by have := b2.2; omega)]
        have w59 : Z 59 h = σ 59 h := by rw [← hZ, u2_ne (by decide), m_sh_ne (by decide), u2_ne (by decide), u2_sn hb', u2_ne (by decide)]
        refine ⟨⟨nh.1, nh.2.1, by have := nh.2.2.1; omega, nh.2.2.2⟩, ?_, ?_, ?_, ?_, ?_, ?_⟩
        · intro _
          unfold CI
          rw [z53, z56, cl_nI (by omega), cl_nI (by omega), e' 55 (by omega), e' 54 (by omega), e' 44 (by omega), e' 12 (by omega), e' 38 (by omega)]
          have cs := c6 lo.2.2.1
          refine ⟨nb_n (by omega) (by omega), c2, nb_n (by omega) (by omega), ?_, c5, ?_, fun q => absurd lo.2.2.1 q⟩
          · intro i hi; rw [z52 i hi]; exact c4 (i + 1) (by omega)
          · intro _
            refine ⟨by omega, ?_⟩
            rw [← cs.2]
            exact cnt_eq _ (fun x hx => by rw [e' 45 (by omega), e' 54 (by omega)])
        · rw [e' 11 (by omega)]; exact fun _ q => absurd q lo.2.1
        · rw [e' 7 (by omega)]; exact fun q => absurd (d4 q).1 lo.2.1
        · rw [e' 10 (by omega)]; exact nb_mono d5 (by omega)
        · obtain ⟨y1, y2, y3, y4⟩ := d6
          unfold CB
          rw [e' 58 (by omega), w59]
          exact ⟨nb_mono y1 (by omega), nb_mono y2 (by omega), y3, fun i p1 p2 => by rw [w57 i (by have := y2.2; omega)]; exact y4 i p1 p2⟩
        · rw [e' 7 (by omega), e' 11 (by omega)]; exact d0
      · refine HH_sm (hs h h4) (sZ h hb' hv' h4) ag (by rw [e' 4 (by omega)]) hbZ rfl (by omega) (by omega) (by omega) (by omega) hrm ?_
        intro q7 X' W' kb' x1 x2
        refine ⟨X', W', x1, ?_⟩
        intro i hi li
        have li' := los _ _ li
        have iv : i ≠ v := by
          intro q; subst q
          have : h = b := nIv_inj (li'.2.2.2.1.symm.trans lo.2.2.2.1) (by omega) (by omega)
          exact hb' this
        obtain ⟨y1, y2⟩ := x2 i hi li'
        have ci := (hs i hi).2.1 li'.2.1
        rw [chs i iv (by have := ci.1.2; have := ci.2.1.2; omega) hi, hvs]
        exact ⟨y1, y2⟩
  · have := OI_nf (ς := Z) ho (fun f hf => e' f (by omega))
    exact ⟨this.1, nb_mono this.2.1 (by omega), this.2.2⟩
  · exact RI_nf hri (fun f hf => e' f (by omega))
