theorem dkw_v {σ : (Nat → Nat → Int32)} {B O : Nat} : ∀ k t, t < k → m_dkw σ B O k 64 (64 * B + t) = (σ 71 (64 * O + t)).toInt8.toInt32
  | 0, t, h => absurd h (by omega)
  | k + 1, t, h => by
    unfold m_dkw
    by_cases q : t = k
    · rw [q, u2_ss]
    · rw [u2_sn (by omega)]; exact dkw_v k t (by omega)
theorem dkw_o {σ : (Nat → Nat → Int32)} {B O x : Nat} : ∀ k, (x < 64 * B ∨ 64 * B + k ≤ x) → m_dkw σ B O k 64 x = σ 64 x
  | 0, _ => rfl
  | k + 1, h => by
    unfold m_dkw
    rw [u2_sn (by omega)]; exact dkw_o k (by omega)
theorem dkd_v {σ : (Nat → Nat → Int32)} {B D : Nat} : ∀ k t, t < k → m_dkd σ B D k 51 (D + t) = (σ 64 (64 * B + t)).toInt8.toInt32
  | 0, t, h => absurd h (by omega)
  | k + 1, t, h => by
    unfold m_dkd
    by_cases q : t = k
    · rw [q, u2_ss]
    · rw [u2_sn (by omega)]; exact dkd_v k t (by omega)
theorem n3_n {B : Nat} (h : B < 8) : m_n3 (nI B) = B := by
  have e := (m_n3_e (nI B)).symm.trans (i_and7 (show B < 32 by omega))
  have := nIv_inj e (by have := m_n3_lt (nI B); omega) (by omega)
  omega
theorem RD_0 {n pg rm c : Nat} {z : CZ} {y : RZ} (S : SC n pg rm c z.1) (V : CV n pg rm c y.1 y.2) (hc : c ≤ 511) (H : RD z y) : cl (z.1 125 0) = cl (y.1 66 0) - cl (y.1 65 0) ∧ (cl (y.1 65 0) < cl (y.1 66 0) → z.1 126 (cl (z.1 124 0)) = y.1 69 (cl (y.1 65 0)) ∧ z.1 127 (cl (z.1 124 0)) = y.1 70 (cl (y.1 65 0)) ∧ z.1 129 (cl (z.1 124 0)) = y.1 67 (cl (y.1 65 0)) ∧ z.1 130 (cl (z.1 124 0)) = y.1 68 (cl (y.1 65 0)) ∧ ∀ x, x < 64 → z.1 131 (64 * cl (z.1 124 0) + x) = y.1 71 (64 * cl (y.1 65 0) + x)) := by
  have b66 : cl (y.1 66 0) ≤ c := V.g.2.2.2.2.2.1.2
  have b124 : cl (z.1 124 0) ≤ 127 := S.1.2.1.2
  refine ⟨by rw [H.1, cl_nI (by omega)], fun q => ?_⟩
  have r := H.2 0 (by omega)
  unfold RDo at r
  rw [show (cl (z.1 124 0) + 0) % 128 = cl (z.1 124 0) by omega, Nat.add_zero] at r
  exact r
theorem RR_pop {n pg rm c O B j : Nat} {z : CZ} {y : RZ} (S : SC n pg rm c z.1) (V : CV n pg rm c y.1 y.2) (hc : c ≤ 511) (H : RR n pg rm c z y) (hO : O = cl (y.1 65 0)) (hlt : O < cl (y.1 66 0)) (hB : B < 8) (e70 : y.1 70 O = nI B) (hj : j < 4) (e67 : y.1 67 O = nI j) : RR n pg rm c (k_co z.1, z.2) (m_dk1 y.1 O B, y.2) := by
  subst hO
  obtain ⟨hg, hh, hp, hd', hx, ht, hm⟩ := H
  have hn4 := V.g.1.2.2.2.2.2.2.1
  have b66 : cl (y.1 66 0) ≤ c := V.g.2.2.2.2.2.1.2
  have b124 : cl (z.1 124 0) ≤ 127 := S.1.2.1.2
  obtain ⟨d1, d2⟩ := RD_0 S V hc hd'
  obtain ⟨a126, a127, a129, a130, a131⟩ := d2 hlt
  have kb : k_cob z.1 = B := by unfold k_cob; rw [a127, e70, n3_n hB]
  have ez : ∀ f, f ≠ 124 ∧ f ≠ 125 ∧ f ≠ 64 → k_co z.1 f = z.1 f := fun f hf => co_ne hf
  have ey : ∀ f, f ≠ 64 → f ≠ 65 → m_dk1 y.1 (cl (y.1 65 0)) B f = y.1 f := fun f h1 h2 => m_dk1_ne h1 h2
  have z124 : k_co z.1 124 0 = nI ((cl (z.1 124 0) + 1) % 128) := by
    unfold k_co
    split
    · unfold k_co1; rw [u2_ne (by decide), u2_ss]
    · rw [k_cp_ne (by decide)]; unfold k_co1; rw [u2_ne (by decide), u2_ss]
  have z125 : k_co z.1 125 0 = nI (cl (z.1 125 0) - 1) := by
    unfold k_co
    split
    · unfold k_co1; rw [u2_ss]
    · rw [k_cp_ne (by decide)]; unfold k_co1; rw [u2_ss]
  have y65 : cl (m_dk1 y.1 (cl (y.1 65 0)) B 65 0) = cl (y.1 65 0) + 1 := by rw [dk1_65, nIv_inc, cl_nI (by omega)]
  have e64 : ∀ i, i < 512 → k_co z.1 64 i = m_dk1 y.1 (cl (y.1 65 0)) B 64 i := fun i hi => by
    rcases hm.2 _ (Nat.le_refl _) hlt with w | w
    · unfold k_co m_dk1
      rw [a126, w, if_pos rfl, if_neg (by decide), k_co1_ne (by decide), u2_ne (by decide)]
      exact hg.2.2.2.2.2.1 i hi
    · unfold k_co m_dk1
      rw [a126, w, if_neg (by decide), if_pos rfl, kb]
      by_cases q : 64 * B ≤ i ∧ i < 64 * B + 64
      · have e : i = 64 * B + (i - 64 * B) := by omega
        rw [e, k_cp_in (by omega), dkw_v 64 _ (by omega), u2_ne (by decide), k_co1_ne (by decide), ← a131 _ (by omega)]
        exact (S.1.1 131 _ rfl).symm
      · rw [k_cp_out (by omega), dkw_o 64 (by omega), u2_ne (by decide), k_co1_ne (by decide)]
        exact hg.2.2.2.2.2.1 i hi
  generalize m_dk1 y.1 (cl (y.1 65 0)) B = s' at *
  generalize k_co z.1 = U at *
  have ag : AgE y.1 s' y.2 y.2 := AgE_ne (fun f h1 h2 => ey f (by omega) (by omega)) rfl
  refine ⟨?_, fun i hi => ?_, ?_, ?_, ?_, ?_, ?_⟩
  · obtain ⟨g1, g2, g3, g4, g5, g6, g7, g8⟩ := hg
    show U 5 0 = s' 5 0 ∧ (∀ i, i < 256 * pg → U 6 i = s' 6 i) ∧ U 13 0 = s' 13 0 ∧ U 14 0 = s' 14 0 ∧ U 62 0 = s' 62 0 ∧ (∀ i, i < 512 → U 64 i = s' 64 i) ∧ U 2 0 = nI pg ∧ U 3 0 = nI rm
    rw [ez 5 (by decide), ez 6 (by decide), ez 13 (by decide), ez 14 (by decide), ez 62 (by decide), ez 2 (by decide), ez 3 (by decide), ey 5 (by decide) (by decide), ey 6 (by decide) (by decide), ey 13 (by decide) (by decide), ey 14 (by decide) (by decide), ey 62 (by decide) (by decide)]
    exact ⟨g1, g2, g3, g4, g5, e64, g7, g8⟩
  · refine RH_frV V (by omega) (by omega) (hh i hi) (CS.nf (fun f hf => ez f ?_) rfl) (RS.nf (fun f hf => ey f ?_ ?_) rfl) ag (fun q => ⟨?_, fun p _ => ?_⟩)
    · refine ⟨?_, ?_, ?_⟩ <;> (rintro rfl; exact absurd hf (by decide))
    · rintro rfl; exact absurd hf (by decide)
    · rintro rfl; exact absurd hf (by decide)
    · have q' : nI i = s' 61 0 := q
      rw [ey 61 (by decide) (by decide)] at q'; exact q'
    · show s' 63 p = _
      rw [ey 63 (by decide) (by decide)]
  · exact RP_fr hp (fun f hf => ez f (by omega)) (fun _ => ⟨rfl, rfl⟩) (fun _ _ _ _ => rfl) (fun _ _ _ _ => rfl) (fun f hf => ey f (by omega) (by omega)) ag
  · have y66 : s' 66 = y.1 66 := ey 66 (by decide) (by decide)
    refine ⟨?_, fun i hi => ?_⟩
    · show U 125 0 = nI (cl (s' 66 0) - cl (s' 65 0))
      rw [z125, y66, y65, d1, Nat.sub_sub]
    · have hi' : i < cl (s' 66 0) - cl (s' 65 0) := hi
      rw [y66, y65] at hi'
      have r := hd'.2 (i + 1) (by omega)
      show U 126 ((cl (U 124 0) + i) % 128) = s' 69 (cl (s' 65 0) + i) ∧ U 127 ((cl (U 124 0) + i) % 128) = s' 70 (cl (s' 65 0) + i) ∧ U 129 ((cl (U 124 0) + i) % 128) = s' 67 (cl (s' 65 0) + i) ∧ U 130 ((cl (U 124 0) + i) % 128) = s' 68 (cl (s' 65 0) + i) ∧ ∀ x, x < 64 → U 131 (64 * ((cl (U 124 0) + i) % 128) + x) = s' 71 (64 * (cl (s' 65 0) + i) + x)
      rw [z124, y65, cl_nI (by omega), show ((cl (z.1 124 0) + 1) % 128 + i) % 128 = (cl (z.1 124 0) + (i + 1)) % 128 by omega, show cl (y.1 65 0) + 1 + i = cl (y.1 65 0) + (i + 1) by omega, ez 126 (by decide), ez 127 (by decide), ez 129 (by decide), ez 130 (by decide), ez 131 (by decide), ey 67 (by decide) (by decide), ey 68 (by decide) (by decide), ey 69 (by decide) (by decide), ey 70 (by decide) (by decide), ey 71 (by decide) (by decide)]
      exact r
  · exact EX_nf hx (Nat.le_refl _) (fun f hf => ey f (by omega) (by omega))
  · show TK pg c s'
    obtain ⟨t, P, t1, t2, t3⟩ := ht
    have y66 : s' 66 = y.1 66 := ey 66 (by decide) (by decide)
    refine ⟨fun h => if h = j then t h + 1 else t h, P, fun h hh2 g w => ?_, ?_, ?_⟩
    · show 1 ≤ if h = j then t h + 1 else t h
      by_cases x : h = j
      · rw [if_pos x]; omega
      · rw [if_neg x]
        refine t1 h hh2 ?_ (fun o q1 q2 q3 => ?_)
        · have g' : s' 7 h = 1 ∨ s' 7 h = 2 ∨ s' 7 h = 3 := g
          rw [ey 7 (by decide) (by decide)] at g'; exact g'
        · by_cases qo : o = cl (y.1 65 0)
          · rw [qo, e67] at q3
            exact x (nIv_inj q3.1 (by omega) (by omega)).symm
          · refine w o (by rw [y65]; omega) (by rw [y66]; exact q2) ?_
            rw [ey 67 (by decide) (by decide), ey 68 (by decide) (by decide), ey 10 (by decide) (by decide)]; exact q3
    · rw [y65, y66, ey 5 (by decide) (by decide)]
      show _ + ((if 0 = j then t 0 + 1 else t 0) + (if 1 = j then t 1 + 1 else t 1) + (if 2 = j then t 2 + 1 else t 2) + (if 3 = j then t 3 + 1 else t 3)) ≤ _
      have h4 : j = 0 ∨ j = 1 ∨ j = 2 ∨ j = 3 := by omega
      have : (if 0 = j then t 0 + 1 else t 0) + (if 1 = j then t 1 + 1 else t 1) + (if 2 = j then t 2 + 1 else t 2) + (if 3 = j then t 3 + 1 else t 3) = t 0 + t 1 + t 2 + t 3 + 1 := by
        rcases h4 with e | e | e | e <;> subst e
        · rw [if_pos rfl, if_neg (by decide), if_neg (by decide), if_neg (by decide)]; omega
        · rw [if_neg (by decide), if_pos rfl, if_neg (by decide), if_neg (by decide)]; omega
        · rw [if_neg (by decide), if_neg (by decide), if_pos rfl, if_neg (by decide)]; omega
        · rw [if_neg (by decide), if_neg (by decide), if_neg (by decide), if_pos rfl]; omega
      rw [this]
      omega
    · rw [ey 60 (by decide) (by decide), pgc_e (s := y.1) pg (fun i _ => by rw [ey 63 (by decide) (by decide)])]; exact t3
  · show CM n s'
    unfold CM
    rw [y65, ey 66 (by decide) (by decide), ey 27 (by decide) (by decide), ey 28 (by decide) (by decide), ey 69 (by decide) (by decide)]
    exact ⟨hm.1, fun o h1 h2 => hm.2 o (by omega) h2⟩
