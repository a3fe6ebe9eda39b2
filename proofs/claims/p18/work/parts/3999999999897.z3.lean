theorem RR_crash {n pg rm c : Nat} {i : Int32} {z z' : CZ} {y y' : RZ} {r r' : Int32} (S : SC n pg rm c z.1) (V : CV n pg rm c y.1 y.2) (hc : c ≤ 511) (H : RR n pg rm c z y) (o : oCra n i z z' r) (p : pCra n i y y' r') : RR n pg rm (c + 1) z' y' ∧ r = r' := by
  have hn4 := V.g.1.2.2.2.2.2.2.1
  have inj : ∀ a b, a < n → b < n → i = nI a → i = nI b → a = b := fun a b ha hb ea eb => nIv_inj (ea.symm.trans eb) (by omega) (by omega)
  have z7 : ∀ j, j < n → z.1 7 j = y.1 7 j := fun j hj => (H.2.1 j hj).2.2.2.1
  obtain ⟨l0, inv⟩ := id V
  have hx := H.2.2.2.2.1
  rcases p with ⟨q, ey, er⟩ | ⟨j, hj, ei, n6, er, pc⟩
  · rcases o with ⟨e1, e2, -⟩ | ⟨-, j, hj, ei, n6, -⟩ | ⟨-, j, t, hj, -, ei, h1, -⟩
    · rw [e1, e2, ey, er]; exact ⟨RR_up V (by omega) H (by omega), rfl⟩
    · exact absurd (by rw [z7 j hj]; exact q j hj ei) n6
    · rw [z7 j hj, q j hj ei] at h1; exact absurd h1 (by decide)
  · rcases o with ⟨-, -, w⟩ | ⟨e1, j', hj', ei', -, w, e2⟩ | ⟨e1, j', t, hj', ht, ei', h1, h4, fi, e2⟩
    · exact absurd ⟨j, hj, ei, by rw [z7 j hj]; exact n6⟩ w
    · have := inj j' j hj' hj ei' ei
      subst this
      rcases pc with ⟨pr, ey⟩ | ⟨t, tr, ey⟩ | ⟨l, tr, ey⟩
      · rw [e1, e2, ey, er]
        refine ⟨RR_cr S V hc H hj (Or.inr rfl) (fun _ _ => rfl) (fun f a b _ _ => (cr1_e).1 f a b) (fun h => ?_) (fun h _ x => Or.inl ⟨rfl, ?_⟩) ?_ (Or.inl ⟨by rw [(cr1_e).1 60 (by decide) (by decide)], by rw [(cr1_e).1 61 (by decide) (by decide)]⟩) (EX_crash1 hx V hj pr), rfl⟩
        · unfold m_cr1; rw [u2_i, u2_ne (by decide)]
        · rw [(cr1_e).2, if_neg x]
        · rw [(cr1_e).2, if_pos rfl]
      · obtain ⟨a1, a2, -⟩ := TrAt_R inv tr
        rcases w with w | w
        · exact absurd (by rw [z7 j' hj]; exact a2) w
        · exact absurd (by rw [z7 t tr.2.2.1]; exact a1) (w t tr.2.2.1)
      · rw [e1, e2, ey, er]
        have cR : ∀ f, f ≠ 60 → f ≠ 61 → m_crR y.1 f = y.1 f := fun f a b => by unfold m_crR; rw [u2_ne b, u2_ne a]
        refine ⟨RR_cr S V hc H hj (Or.inr rfl) (fun _ _ => rfl) (fun f a b a2 b2 => ?_) (fun h => ?_) (fun h _ x => Or.inl ⟨rfl, ?_⟩) ?_ (Or.inr ⟨?_, ?_⟩) (EX_crash3 hx V hj tr), rfl⟩
        · rw [(cr1_e).1 f a b, cR f a2 b2]
        · unfold m_cr1; rw [u2_i, u2_ne (by decide), cR 10 (by decide) (by decide)]
        · rw [(cr1_e).2, if_neg x, cR 7 (by decide) (by decide)]
        · rw [(cr1_e).2, if_pos rfl]
        · rw [(cr1_e).1 60 (by decide) (by decide)]; unfold m_crR; rw [u2_ne (by decide), u2_ss]
        · rw [(cr1_e).1 61 (by decide) (by decide)]; unfold m_crR; rw [u2_ss]
    · have := inj j' j hj' hj ei' ei
      subst this
      rw [z7 j' hj] at h1
      rw [z7 t ht] at h4
      have t60 : y.1 60 0 = nI t := hx.2.2.2.2.2.2.1 t (by omega) h4
      have n60 : ¬ y.1 60 0 = -1 := by rw [t60]; exact nI_m1 (by omega)
      have t61 : y.1 61 0 = nI j' := hx.2.2.2.2.2.2.2.1 n60 j' (by omega) h1
      rcases pc with ⟨pr, ey⟩ | ⟨t', tr, ey⟩ | ⟨l, tr, ey⟩
      · rcases pr with pr | pr
        · exact absurd pr n60
        · have ne : j' ≠ t := fun e => by rw [e, h4] at h1; exact absurd h1 (by decide)
          exact absurd rfl (pr t j' ⟨t60, t61, ht, hj, ne⟩).2
      · have et : t' = t := nIv_inj (tr.1.symm.trans t60) (by have := tr.2.2.1; omega) (by omega)
        subst et
        rw [e1, e2, ey, er]
        refine ⟨?_, rfl⟩
        have cS : ∀ f, f ≠ 7 → f ≠ 60 → f ≠ 61 → m_crS y.1 t' f = y.1 f := fun f a b c => by unfold m_crS; rw [u2_ne c, u2_ne b, u2_ne a]
        have cS7 : ∀ h, m_crS y.1 t' 7 h = if h = t' then 0 else y.1 7 h := fun h => by unfold m_crS; rw [u2_ne (by decide), u2_ne (by decide), u2_i]
        have G := RR_cr (u := u2 z.1 7 t' 0) (s' := m_cr1 (m_crS y.1 t') j') S V hc H hj (Or.inr rfl) (fun f hf => u2_ne hf) (fun f a b a2 b2 => by rw [(cr1_e).1 f a b, cS f a a2 b2]) (fun h => by unfold m_cr1; rw [u2_i, u2_ne (by decide), cS 10 (by decide) (by decide) (by decide)]) (fun h _ x => ?_) (by rw [(cr1_e).2, if_pos rfl]) (Or.inr ⟨by rw [(cr1_e).1 60 (by decide) (by decide)]; unfold m_crS; rw [u2_ne (by decide), u2_ss], by rw [(cr1_e).1 61 (by decide) (by decide)]; unfold m_crS; rw [u2_ss]⟩) (EX_crash2 hx V hj tr)
        · rw [u2_ne (by decide), u2_ne (by decide)] at G; exact G
        · by_cases xt : h = t'
          · subst xt
            exact Or.inr ⟨h4, u2_ss, by rw [(cr1_e).2, if_neg x, cS7, if_pos rfl]⟩
          · exact Or.inl ⟨u2_sn xt, by rw [(cr1_e).2, if_neg x, cS7, if_neg xt]⟩
      · have := (TrAt_R inv tr).1
        rw [this] at h1; exact absurd h1 (by decide)
theorem fgt_v {u : (Nat → Nat → Int32)} : k_fgt u 122 0 = -1 ∧ k_fgt u 123 0 = -1 ∧ k_fgt u 133 0 = 0 ∧ k_fgt u 135 0 = 0 := by
  unfold k_fgt
  exact ⟨by rw [u2_ne (by decide), u2_ss], by rw [u2_ss], by rw [u2_ne (by decide), u2_ne (by decide), u2_ne (by decide), u2_ne (by decide), u2_ss], by rw [u2_ne (by decide), u2_ne (by decide), u2_ss]⟩
theorem RR_rep {n pg rm c : Nat} {i : Int32} {z z' : CZ} {y y' : RZ} {r r' : Int32} (V : CV n pg rm c y.1 y.2) (hc : c ≤ 511) (H : RR n pg rm c z y) (o : oRep n i z z' r) (p : pRep n i y y' r') : RR n pg rm (c + 1) z' y' ∧ r = r' := by
  have hn4 := V.g.1.2.2.2.2.2.2.1
  have inj : ∀ a b, a < n → b < n → i = nI a → i = nI b → a = b := fun a b ha hb ea eb => nIv_inj (ea.symm.trans eb) (by omega) (by omega)
  have z7 : ∀ j, j < n → z.1 7 j = y.1 7 j := fun j hj => (H.2.1 j hj).2.2.2.1
  rcases p with ⟨q, ey, er⟩ | ⟨j, hj, ei, h65, ey, er⟩
  · rcases o with ⟨e1, e2, -⟩ | ⟨-, j, hj, ei, w, -⟩
    · rw [e1, e2, ey, er]; exact ⟨RR_up V (by omega) H (by omega), rfl⟩
    · rw [z7 j hj] at w; exact absurd w (q j hj ei)
  · rcases o with ⟨-, -, w⟩ | ⟨e1, j', hj', ei', -, e2⟩
    · exact absurd ⟨j, hj, ei, by rw [z7 j hj]; exact h65⟩ w
    · have := inj j' j hj' hj ei' ei
      subst this
      rw [e1, e2, ey, er]
      refine ⟨?_, rfl⟩
      obtain ⟨hg, hh, hp, hd', hx, ht, hm⟩ := H
      have hxn := EX_rep hx hj hn4 h65
      have ng : ¬ gst y.1 j' := by unfold gst; rcases h65 with q | q <;> rw [q] <;> decide
      have es : ∀ f, f ≠ 7 ∧ f ≠ 8 ∧ f ≠ 11 ∧ f ≠ 12 ∧ f ≠ 53 ∧ f ≠ 55 ∧ f ≠ 56 → m_rep y.1 j' f = y.1 f := fun f h => by
        unfold m_rep; rw [noCh_ne h.2.2.2.2.1 h.2.2.2.2.2.1 h.2.2.2.2.2.2, u2_ne h.2.1, u2_ne h.2.2.2.1, u2_ne h.2.2.1, u2_ne h.1]
      have eh : ∀ f x, x ≠ j' → m_rep y.1 j' f x = y.1 f x := fun f x hx => by
        unfold m_rep m_noCh; rw [u2_x hx, u2_x hx, u2_x hx, u2_x hx, u2_x hx, u2_x hx, u2_x hx]
      have s7 : m_rep y.1 j' 7 j' = 0 := by unfold m_rep; rw [noCh_ne (by decide) (by decide) (by decide), u2_ne (by decide), u2_ne (by decide), u2_ne (by decide), u2_ss]
      have s11 : m_rep y.1 j' 11 j' = 0 := by unfold m_rep; rw [noCh_ne (by decide) (by decide) (by decide), u2_ne (by decide), u2_ne (by decide), u2_ss]
      have zo : ∀ f, f ≠ 7 → f ≠ 122 ∧ f ≠ 123 ∧ (f < 132 ∨ 135 < f) → (if z.1 122 0 = i then k_fgt (u2 z.1 7 j' 0) else u2 z.1 7 j' 0) f = z.1 f := fun f h1 h2 => by
        split
        · rw [k_fgt_ne h2, u2_ne h1]
        · rw [u2_ne h1]
      have zi : ∀ h, (if z.1 122 0 = i then k_fgt (u2 z.1 7 j' 0) else u2 z.1 7 j' 0) 7 h = if h = j' then 0 else z.1 7 h := fun h => by
        split
        · rw [k_fgt_ne (by decide), u2_i]
        · rw [u2_i]
      have zn : ¬ z.1 122 0 = i → ∀ f, f ≠ 7 → (if z.1 122 0 = i then k_fgt (u2 z.1 7 j' 0) else u2 z.1 7 j' 0) f = z.1 f := fun q f hf => by rw [if_neg q, u2_ne hf]
      have zp : z.1 122 0 = i → ∀ f, (if z.1 122 0 = i then k_fgt (u2 z.1 7 j' 0) else u2 z.1 7 j' 0) f = k_fgt (u2 z.1 7 j' 0) f := fun q f => by rw [if_pos q]
      generalize (if z.1 122 0 = i then k_fgt (u2 z.1 7 j' 0) else u2 z.1 7 j' 0) = U at *
      generalize m_rep y.1 j' = s' at *
      have ag : AgE y.1 s' y.2 y.2 := AgE_ne (fun f h1 h2 => es f (by omega)) rfl
      have hD : ∀ h, nI h = s' 61 0 → nI h = y.1 61 0 ∧ ∀ p, p < pg → s' 63 p = y.1 63 p := fun h w => ⟨by rw [← es 61 (by decide)]; exact w, fun p _ => by rw [es 63 (by decide)]⟩
      have nL : ∀ l, LKl s' l → LKl y.1 l ∧ l ≠ j' := fun l w => by
        have x : l ≠ j' := fun e => by subst e; exact w.1 s11
        refine ⟨?_, x⟩
        unfold LKl at w ⊢; rw [eh 11 l x, eh 12 l x] at w; exact w
      refine ⟨RG_nf hg (fun f hf => zo f (by omega) (by omega)) (fun f hf => es f (by omega)), fun h hhn => ?_, ?_, RD_fr hd' (fun f h1 h2 => zo f (by omega) (by omega)) (fun f h1 h2 => es f (by omega)), hxn, ?_, CM_nf hm (fun f hf => es f (by omega))⟩
      · obtain ⟨ra, rt⟩ := hh h hhn
        by_cases x : h = j'
        · subst x
          refine RH_off (RA_nf ra (fun f hf => es f (by omega)) (fun f hf => zo f (by omega) (by omega)) (hD h)) ?_ rt.2.1 (v := 0) ?_ s7 (Or.inl rfl) ?_ ?_ (fun f hf => ?_)
          · show U 37 h = s' 37 h; rw [zo 37 (by decide) (by decide), es 37 (by decide)]; exact rt.1
          · show U 7 h = 0; rw [zi, if_pos rfl]
          · show U 10 h = s' 10 h; rw [zo 10 (by decide) (by decide), es 10 (by decide)]; exact rt.2.2.2.1
          · show U 111 h = _; rw [zo 111 (by decide) (by decide)]; exact rt.2.2.2.2.1
          · show U f h = 0; rw [zo f (by omega) (by omega)]; exact RTt_off rt ng f hf
        · refine RH_frV V (by omega) (by omega) (hh h hhn) ⟨fun f k hf hk => ?_, rfl, fun _ => rfl, fun _ _ _ _ => rfl⟩ ⟨⟨fun f k hf hk => ?_, rfl⟩, fun k _ => ?_⟩ ag (hD h)
          · show U f _ = z.1 f _
            have q := of_decide_eq_true hf
            by_cases y1 : f = 7
            · subst y1
              have hi1 : k < 1 := hk
              rw [zi, if_neg (by show ¬ 1 * h + k = j'; omega)]
            · rw [zo f y1 (by omega)]
          · show s' f _ = y.1 f _
            by_cases y1 : f = 7 ∨ f = 8 ∨ f = 11 ∨ f = 12 ∨ f = 53 ∨ f = 55 ∨ f = 56
            · have e1 : h_s f = 1 := by
                rcases y1 with e | e | e | e | e | e | e <;> subst e <;> rfl
              rw [e1] at hk ⊢
              rw [eh f _ (by omega)]
            · rw [es f (by omega)]
          · show s' 43 _ = y.1 43 _
            rw [es 43 (by decide)]
      · rcases hp with ⟨p0, p1, p2, p3, p4⟩ | ⟨l, hl, lk, c1, c2, c3, c4, c5, c6, c7⟩
        · have n1 : ¬ z.1 122 0 = i := by rw [p1, ei]; exact fun w => nI_m1 (by omega) w.symm
          refine Or.inl ⟨fun l hl w => p0 l hl (nL l w).1, ?_, ?_, ?_, ?_⟩
          · show U 122 0 = -1; rw [zn n1 122 (by decide)]; exact p1
          · show U 123 0 = -1; rw [zn n1 123 (by decide)]; exact p2
          · show U 133 0 = 0; rw [zn n1 133 (by decide)]; exact p3
          · show U 135 0 = 0; rw [zn n1 135 (by decide)]; exact p4
        · by_cases xl : l = j'
          · subst xl
            have y1 : z.1 122 0 = i := c1.trans ei.symm
            obtain ⟨v1, v2, v3, v4⟩ := fgt_v (u := u2 z.1 7 l 0)
            refine Or.inl ⟨fun l' hl' w => ?_, ?_, ?_, ?_, ?_⟩
            · obtain ⟨w1, w2⟩ := nL l' w
              exact w2 ((hx.2.2.1 l (by omega) lk).2.2.2.2 l' hl' w1)
            · show U 122 0 = -1; rw [zp y1]; exact v1
            · show U 123 0 = -1; rw [zp y1]; exact v2
            · show U 133 0 = 0; rw [zp y1]; exact v3
            · show U 135 0 = 0; rw [zp y1]; exact v4
          · have n1 : ¬ z.1 122 0 = i := by rw [c1, ei]; exact fun w => xl (nIv_inj w (by omega) (by omega))
            have e52 : s' 52 = y.1 52 := es 52 (by decide)
            have e54 : s' 54 = y.1 54 := es 54 (by decide)
            refine Or.inr ⟨l, hl, ?_, ?_, ?_, ?_, ?_, fun k hk => ?_, fun k hk => ?_, fun k hk => ?_⟩
            · show ¬ s' 11 l = 0 ∧ s' 12 l = 0
              rw [eh 11 l xl, eh 12 l xl]; exact lk
            · show U 122 0 = _; rw [zn n1 122 (by decide)]; exact c1
            · show U 123 0 = s' 8 l; rw [zn n1 123 (by decide), eh 8 l xl]; exact c2
            · show U 133 0 = s' 53 l; rw [zn n1 133 (by decide), eh 53 l xl]; exact c3
            · show U 135 0 = s' 56 l; rw [zn n1 135 (by decide), eh 56 l xl]; exact c4
            · have hk' : k < cl (s' 53 l) := hk
              rw [eh 53 l xl] at hk'
              obtain ⟨a, a1, a2⟩ := c5 k hk'
              refine ⟨a, ?_, ?_⟩
              · show z.2.2.1 4 (k_wr rm (cl (U 132 0) + k)) = some a
                rw [zn n1 132 (by decide)]; exact a1
              · show EV s' y.2 (cl (s' 52 (64 * l + k))) (z.2.2.2 a)
                rw [e52]; exact EV_ag ag a2
            · have hk' : k < cl (s' 56 l) := hk
              rw [eh 56 l xl] at hk'
              obtain ⟨a, a1, a2⟩ := c6 k hk'
              refine ⟨a, ?_, ?_⟩
              · show z.2.2.1 5 (k_wr rm (cl (U 134 0) + k)) = some a
                rw [zn n1 134 (by decide)]; exact a1
              · show EV s' y.2 (cl (s' 54 (64 * l + k))) (z.2.2.2 a)
                rw [e54]; exact EV_ag ag a2
            · have hk' : k < cl (s' 53 l) := hk
              rw [eh 53 l xl] at hk'
              show s' 54 (64 * l + (cl (s' 56 l) + k)) = s' 52 (64 * l + k)
              rw [e54, e52, eh 56 l xl]; exact c7 k hk'
      · show TK pg (c + 1) s'
        obtain ⟨t, P, t1, t2, t3⟩ := ht
        refine ⟨t, P, fun h hh4 g w => ?_, ?_, ?_⟩
        · by_cases x : h = j'
          · subst x; exact absurd g (off_ng s7 (by decide)).2
          · refine t1 h hh4 ?_ (fun o w1 w2 w3 => ?_)
            · unfold gst at g ⊢; rw [eh 7 h x] at g; exact g
            · refine w o (by rw [es 65 (by decide)]; exact w1) (by rw [es 66 (by decide)]; exact w2) ?_
              rw [es 67 (by decide), es 68 (by decide), es 10 (by decide)]; exact w3
        · rw [es 65 (by decide), es 66 (by decide), es 5 (by decide)]; exact t2
        · rw [es 60 (by decide), pgc_e (s := y.1) pg (fun k _ => by rw [es 63 (by decide)])]; omega
