theorem hrs_e {n pg rm c j : Nat} {z : CZ} {y : RZ} (H : RR n pg rm c z y) (hj : j < n) (a130 : z.1 130 (cl (z.1 124 0)) = y.1 68 (cl (y.1 65 0))) : k_hrs z.1 j = m_hears y.1 (cl (y.1 65 0)) j := by
  obtain ⟨ra, rt⟩ := H.2.1 j hj
  have e27 : z.1 27 j = y.1 27 j := w_g1 27 ra.1 rfl
  unfold k_hrs m_hears
  rw [rt.2.2.1, rt.2.2.2.1, e27, a130]
  congr 1
  exact propext ⟨fun w => ⟨w.1, w.2.1.symm, w.2.2⟩, fun w => ⟨w.1, w.2.1.symm, w.2.2⟩⟩
theorem FRQ_nf {n rm a : Nat} {ρ : Nat → Nat → Option Nat} {u u' : (Nat → Nat → Int32)} (H : FRQ n rm ρ u a) (e : ∀ f, f = 120 ∨ f = 121 ∨ (132 ≤ f ∧ f ≤ 135) → u' f = u f) : FRQ n rm ρ u' a := by
  unfold FRQ
  rw [e 120 (by omega), e 121 (by omega), e 132 (by omega), e 133 (by omega), e 134 (by omega), e 135 (by omega)]
  exact H
theorem RR_com2 {n pg rm c j kd N a : Nat} {z : CZ} {y : RZ} {k v : Int32} {b : Option (Nat × (Nat → Int32))} (S : SC n pg rm c z.1) (V : CV n pg rm c y.1 y.2) (hc : c ≤ 511) (H : RR n pg rm c z y) (hj : j < n) (h7 : y.1 7 j = 1) (hr : m_comesR y.1 j = true) (D : EDk y.1 (cl (y.1 50 0)) kd N k v b) (Q : CmQ y.1 j kd N) (fr : FRQ n rm z.2.2.1 z.1 a) : RR n pg rm (c + 1) (evZ pg rm j a k v b z.1 z) (m_comes y.1 j kd N, m_comesT y.1 y.2 j) := by
  have hn4 := V.g.1.2.2.2.2.2.2.1
  by_cases q : y.1 12 j = 0
  · exact RR_com S V hc H hj ⟨h7, q⟩ hr D Q fr
  · have h11 := (H.2.2.2.2.1.2.1 j (by omega) h7 q).1
    refine RR_comQ S V hc H hj h7 h11 q (fun w => ?_) D Q fr
    unfold m_comesR at hr
    rw [decide_eq_true ⟨h11, w⟩] at hr
    exact absurd hr (by decide)
theorem RR_disk {n pg rm c : Nat} {z z' : CZ} {y y' : RZ} {r r' : Int32} (S : SC n pg rm c z.1) (V : CV n pg rm c y.1 y.2) (hc : c ≤ 511) (H : RR n pg rm c z y) (o : oDisk n pg rm z z' r) (p : pDisk y y' r') : RR n pg rm (c + 1) z' y' ∧ r = r' := by
  have hn4 := V.g.1.2.2.2.2.2.2.1
  obtain ⟨d1, d2⟩ := RD_0 S V hc H.2.2.2.1
  rcases p with ⟨q, ey, er⟩ | ⟨hlt, j, B, hj, hB, e67, e70, pc⟩
  · have d0 : cl (z.1 125 0) = 0 := by rw [d1, q]; omega
    rcases o with ⟨e1, e2, -⟩ | ⟨-, w, -⟩ | ⟨-, w, -⟩
    · rw [e1, e2, ey, er]; exact ⟨RR_up V (by omega) H (by omega), rfl⟩
    · exact absurd d0 w
    · exact absurd d0 w
  obtain ⟨a126, a127, a129, a130, a131⟩ := d2 hlt
  have jn : m_hears y.1 (cl (y.1 65 0)) j = true → j < n := fun w => by
    rcases Nat.lt_or_ge j n with x | x
    · exact x
    · have := (H.2.2.2.2.1.2.2.2.2.2.2.2.2.1 j x hj).1
      have w1 := (of_decide_eq_true w).1
      rw [this] at w1; exact absurd w1 (by decide)
  have uq : ∀ i, i < n → z.1 129 (cl (z.1 124 0)) = nI i → i = j := fun i hi e => by
    rw [a129, e67] at e; exact (nIv_inj e (by omega) (by omega)).symm
  have d0 : ¬ cl (z.1 125 0) = 0 := by rw [d1]; omega
  have H1 := RR_pop S V hc H rfl hlt hB e70 hj e67
  rcases pc with ⟨w1, w2, w3, ey, er⟩ | ⟨w1, ey, er⟩ | ⟨w1, w2, ey, er⟩
  · have hjn := jn w1
    have hk := (hrs_e H hjn a130).trans w1
    have hr := room_e V H hjn (of_decide_eq_true w1).1
    have hr0 : k_room z.1 j = false := by rw [hr]; unfold m_comesR; rw [decide_eq_true ⟨w2, w3⟩]; rfl
    rcases o with ⟨e1, e2, -⟩ | ⟨-, -, w, -⟩ | ⟨-, -, i, a, b, hi, x1, x2, x3, -⟩
    · rw [e1, e2, ey, er]; exact ⟨RR_up V (by omega) H (by omega), rfl⟩
    · exact absurd ⟨j, hjn, by rw [a129]; exact e67, hk⟩ w
    · have := uq i hi x1
      subst this; rw [hr0] at x3; exact absurd x3 (by decide)
  · have nk : ∀ i, i < n → z.1 129 (cl (z.1 124 0)) = nI i → ¬ k_hrs z.1 i = true := fun i hi x1 x2 => by
      have := uq i hi x1
      subst this; rw [hrs_e H hi a130, w1] at x2; exact absurd x2 (by decide)
    rcases o with ⟨-, -, x | ⟨i, -, hi, x1, x2, -⟩⟩ | ⟨e1, -, -, e2⟩ | ⟨-, -, i, a, b, hi, x1, x2, -⟩
    · exact absurd x d0
    · exact absurd x2 (nk i hi x1)
    · rw [e1, e2, ey, er]
      refine ⟨?_, rfl⟩
      obtain ⟨l, inv⟩ := id V
      have V1 : CV n pg rm c (m_dk1 y.1 (cl (y.1 65 0)) B) y.2 := ⟨l, dk1_INV inv (by omega) (by omega) rfl hlt⟩
      exact RR_up (y := (m_dk1 y.1 (cl (y.1 65 0)) B, y.2)) V1 (by omega) H1 (by omega)
    · exact absurd x2 (nk i hi x1)
  · have hjn := jn w1
    obtain ⟨h7, h68, h27⟩ := of_decide_eq_true w1
    have hk := (hrs_e H hjn a130).trans w1
    have hr := room_e V H hjn h7
    have hr1 : m_comesR y.1 j = true := by unfold m_comesR; rw [decide_eq_false w2]; rfl
    obtain ⟨l, inv⟩ := id V
    have I1 := dk1_INV (O := cl (y.1 65 0)) (B := B) inv (by omega) (by omega) rfl hlt
    have V1 : CV n pg rm c (m_dk1 y.1 (cl (y.1 65 0)) B) y.2 := ⟨l, I1⟩
    have e : ∀ f, f ≠ 51 → m_dk2 y.1 (cl (y.1 65 0)) B f = m_dk1 y.1 (cl (y.1 65 0)) B f := fun f hf => m_dkd_ne hf _
    have e1 : ∀ f, f ≠ 64 → f ≠ 65 → m_dk1 y.1 (cl (y.1 65 0)) B f = y.1 f := fun f h1 h2 => m_dk1_ne h1 h2
    have e51 : ∀ i, i < cl (m_dk1 y.1 (cl (y.1 65 0)) B 50 0) → m_dk2 y.1 (cl (y.1 65 0)) B 51 i = m_dk1 y.1 (cl (y.1 65 0)) B 51 i := fun i hi => by
      rw [e1 50 (by decide) (by decide)] at hi
      exact m_dkd_lo hi _
    have e2 : ∀ f, f ≠ 51 → f ≠ 64 → f ≠ 65 → m_dk2 y.1 (cl (y.1 65 0)) B f = y.1 f := fun f h1 h2 h3 => by rw [e f h1, e1 f h2 h3]
    have H2 := RR_51 (y := (m_dk1 y.1 (cl (y.1 65 0)) B, y.2)) V1 (by omega) H1 e e51
    have V2 := CV_51 V1 hc e e51
    have hr2 : m_comesR (m_dk2 y.1 (cl (y.1 65 0)) B) j = true := by
      unfold m_comesR at hr1 ⊢
      rw [e2 11 (by decide) (by decide) (by decide), e2 3 (by decide) (by decide) (by decide), e2 55 (by decide) (by decide) (by decide)]; exact hr1
    rcases o with ⟨-, -, x | ⟨i, -, hi, x1, -, x3⟩⟩ | ⟨-, -, w, -⟩ | ⟨q1, -, i, a, b, hi, x1, x2, x3, x4, x5, x6⟩
    · exact absurd x d0
    · have := uq i hi x1
      subst this; rw [hr, hr1] at x3; exact absurd x3 (by decide)
    · exact absurd ⟨j, hjn, by rw [a129]; exact e67, hk⟩ w
    · have := uq i hi x1
      subst this
      rw [q1, x6, ey, er, hr2]
      refine ⟨?_, rfl⟩
      have ez : evZ pg rm i a 4 0 b (k_co z.1) z = evZ pg rm i a 4 0 b (k_co z.1) (k_co z.1, z.2) := by
        unfold evZ
        rw [show (k_co z.1, z.2).1 37 = z.1 37 from co_ne (by decide), show (k_co z.1, z.2).1 38 = z.1 38 from co_ne (by decide)]
      rw [ez]
      have kb : k_cob z.1 = B := by unfold k_cob; rw [a127, e70, n3_n hB]
      have hn64 : m_dkn y.1 (cl (y.1 65 0)) ≤ 64 := by unfold m_dkn; split <;> omega
      refine RR_com2 (z := (k_co z.1, z.2)) (y := (m_dk2 y.1 (cl (y.1 65 0)) B, y.2)) (SC_co hn4 S) V2 hc H2 hi (by show m_dk2 y.1 (cl (y.1 65 0)) B 7 i = 1; rw [e2 7 (by decide) (by decide) (by decide)]; exact h7) hr2 ?_ ?_ (FRQ_nf x5 (fun f hf => co_ne (by omega)))
      · show EDk (m_dk2 y.1 (cl (y.1 65 0)) B) (cl (m_dk2 y.1 (cl (y.1 65 0)) B 50 0)) 3 (m_dkn y.1 (cl (y.1 65 0))) 4 0 b
        rw [e2 50 (by decide) (by decide) (by decide)]
        refine ⟨rfl, fun w => absurd w (by omega), fun w => absurd w (by omega), fun _ => ⟨fun w => ?_, fun w => ?_⟩, fun _ w => absurd rfl w⟩
        · have w69 : y.1 69 (cl (y.1 65 0)) = 1 := by
            by_cases x : y.1 69 (cl (y.1 65 0)) = 1
            · exact x
            · unfold m_dkn at w; rw [if_neg x] at w; exact absurd w (by omega)
          rcases x4 with ⟨-, x⟩ | ⟨g, g1, -, g3⟩
          · rw [a126] at x; exact absurd w69 x
          · refine ⟨g, g1, fun t ht => ?_⟩
            rw [g3 t ht, kb]
            unfold m_dk2
            rw [w, dkd_v 64 t ht]
            have e64 : m_dk1 y.1 (cl (y.1 65 0)) B 64 = y.1 64 := by unfold m_dk1; rw [w69, if_neg (by decide), u2_ne (by decide)]
            rw [e64, ← H.1.2.2.2.2.2.1 _ (by omega)]
            exact (S.1.1 64 _ rfl).symm
        · have w69 : ¬ y.1 69 (cl (y.1 65 0)) = 1 := fun x => w (by unfold m_dkn; rw [if_pos x])
          rcases x4 with ⟨x, -⟩ | ⟨g, -, g2, -⟩
          · exact x
          · rw [a126] at g2; exact absurd g2 w69
      · refine ⟨by omega, hn64, fun w => absurd w (by omega), fun w => absurd w (by omega), fun _ w => ?_⟩
        have w' : m_dk2 y.1 (cl (y.1 65 0)) B 28 i = 1 := w
        rw [e2 28 (by decide) (by decide) (by decide)] at w'
        obtain ⟨h, a', b1, b2, b3, b4, b5, b6⟩ := inv.2.2.1.2.2 _ (Nat.le_refl _) hlt
        have eh : h = i := nIv_inj (b2.symm.trans e67) (by omega) (by omega)
        subst eh
        have hl10 := (inv.2.1 h b1).2.2.2.2.1
        have ea : a' = cl (y.1 10 h) := nIv_inj (by rw [← b4, h68]; exact hl10.1) (by have := hl10.2; omega) (by have := hl10.2; omega)
        obtain ⟨-, -, o3, -⟩ := b6 ea
        unfold m_dkn; rw [if_pos (by rw [o3, w'])]
