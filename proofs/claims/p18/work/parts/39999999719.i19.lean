def lg (σ : (Nat → Nat → Int32)) (j : Nat) (k n : Int32) : (Nat → Nat → Int32) := m_sends (m_entry σ j (cl (σ 44 0)) k n) j (cl (σ 53 j)) (cl (σ 55 j)) (nI (cl (σ 44 0)))
theorem lg_nf {σ : (Nat → Nat → Int32)} {j f : Nat} {k n : Int32} (h : f < 44 ∨ f = 49 ∨ f = 51 ∨ 55 < f) : lg σ j k n f = σ f := by
  unfold lg; rw [m_sends_ne (by omega) (by omega) (by omega) (by omega), m_entry_ne (by omega) (by omega) (by omega) (by omega) (by omega) (by omega)]
theorem lg_en {σ : (Nat → Nat → Int32)} {j f : Nat} {k n : Int32} (h : f < 52) : lg σ j k n f = m_entry σ j (cl (σ 44 0)) k n f := by
  unfold lg; rw [m_sends_ne (by omega) (by omega) (by omega) (by omega)]
theorem lg_44 {σ : (Nat → Nat → Int32)} {j : Nat} {k n : Int32} : lg σ j k n 44 0 = σ 44 0 + 1 := by
  rw [lg_en (by decide)]; unfold m_entry
  rw [u2_ne (by decide), u2_ne (by decide), u2_ne (by decide), u2_ne (by decide), u2_ne (by decide), u2_ss]
theorem lg_50 {σ : (Nat → Nat → Int32)} {j : Nat} {k n : Int32} : lg σ j k n 50 0 = σ 50 0 + n := by
  rw [lg_en (by decide)]; unfold m_entry; rw [u2_ss]
theorem lg_old {σ : (Nat → Nat → Int32)} {j f e : Nat} {k n : Int32} (h1 : 45 ≤ f) (h2 : f ≤ 48) (he : e ≠ cl (σ 44 0)) : lg σ j k n f e = σ f e := by
  have q : ∀ {x : (Nat → Nat → Int32)} {F : Nat} {v : Int32}, u2 x F (cl (σ 44 0)) v f e = x f e := by
    intro x F v
    by_cases e : f = F
    · subst e; exact u2_sn he
    · rw [u2_ne e]
  rw [lg_en (by omega)]; unfold m_entry
  rw [u2_ne (by omega), q, q, q, q, u2_ne (by omega)]
theorem lg_53 {σ : (Nat → Nat → Int32)} {j : Nat} {k n : Int32} : lg σ j k n 53 j = nI (cl (σ 53 j) + 1) := by
  unfold lg m_sends; rw [u2_ne (by decide), u2_ne (by decide), u2_ss, nIv_inc]
theorem lg_55 {σ : (Nat → Nat → Int32)} {j : Nat} {k n : Int32} : lg σ j k n 55 j = nI (cl (σ 55 j) + 1) := by
  unfold lg m_sends; rw [u2_ss, nIv_inc]
theorem lg_52 {σ : (Nat → Nat → Int32)} {j i : Nat} {k n : Int32} : lg σ j k n 52 (64 * j + i) = if i = cl (σ 53 j) then nI (cl (σ 44 0)) else σ 52 (64 * j + i) := by
  unfold lg m_sends
  rw [u2_ne (by decide), u2_ne (by decide), u2_ne (by decide)]
  by_cases e : i = cl (σ 53 j)
  · subst e; rw [u2_ss, if_pos rfl]
  · rw [u2_sn (by omega), if_neg e, m_entry_ne (by omega) (by omega) (by omega) (by omega) (by omega) (by omega)]
theorem lg_54 {σ : (Nat → Nat → Int32)} {j i : Nat} {k n : Int32} : lg σ j k n 54 (64 * j + i) = if i = cl (σ 55 j) then nI (cl (σ 44 0)) else σ 54 (64 * j + i) := by
  unfold lg m_sends
  rw [u2_ne (by decide)]
  by_cases e : i = cl (σ 55 j)
  · subst e; rw [u2_ss, if_pos rfl]
  · rw [u2_sn (by omega), if_neg e, u2_ne (by decide), u2_ne (by decide), m_entry_ne (by omega) (by omega) (by omega) (by omega) (by omega) (by omega)]
theorem lg_sm {σ : (Nat → Nat → Int32)} {j h : Nat} {k n : Int32} {τ υ : (Nat → Nat → Int64)} (e : h ≠ j) (hC : cl (σ 53 j) < 64) (hU : cl (σ 55 j) < 64) (ht : υ 19 h = τ 19 h) : Sm h σ (lg σ j k n) τ υ := by
  refine ⟨?_, ht⟩
  intro f i hf hi
  unfold h_f at hf
  have hf := of_decide_eq_true hf
  by_cases e1 : f < 44 ∨ 55 < f
  · rw [lg_nf (by omega)]
  have : f = 52 ∨ f = 53 ∨ f = 54 ∨ f = 55 := by omega
  unfold lg m_sends
  rcases this with e2 | e2 | e2 | e2 <;> subst e2
  · have hi : i < 64 := hi
    rw [show h_s 52 = 64 from rfl, u2_ne (by decide), u2_ne (by decide), u2_ne (by decide), u2_sn (by omega), m_entry_ne (by omega) (by omega) (by omega) (by omega) (by omega) (by omega)]
  · have hi : i < 1 := hi
    rw [show h_s 53 = 1 from rfl, u2_ne (by decide), u2_ne (by decide), u2_sn (by omega), u2_ne (by decide), m_entry_ne (by omega) (by omega) (by omega) (by omega) (by omega) (by omega)]
  · have hi : i < 64 := hi
    rw [show h_s 54 = 64 from rfl, u2_ne (by decide), u2_sn (by omega), u2_ne (by decide), u2_ne (by decide), m_entry_ne (by omega) (by omega) (by omega) (by omega) (by omega) (by omega)]
  · have hi : i < 1 := hi
    rw [show h_s 55 = 1 from rfl, u2_sn (by omega), u2_ne (by decide), u2_ne (by decide), u2_ne (by decide), m_entry_ne (by omega) (by omega) (by omega) (by omega) (by omega) (by omega)]
theorem t2_49n {τ : (Nat → Nat → Int64)} {E e : Nat} {v : Int64} (h : e ≠ E) : t2 τ 49 E v 49 e = τ 49 e := by
  unfold t2 va_up vp_updL; rw [if_pos rfl, if_neg h]
theorem t2_49s {τ : (Nat → Nat → Int64)} {E : Nat} {v : Int64} : t2 τ 49 E v 49 E = v := by
  unfold t2 va_up vp_updL; rw [if_pos rfl, if_pos rfl]
theorem t2_4919 {τ : (Nat → Nat → Int64)} {E : Nat} {v : Int64} : t2 τ 49 E v 19 = τ 19 := by
  unfold t2 va_up; rw [if_neg (by decide)]
theorem nIv_add (a b : Nat) : nI a + nI b = nI (a + b) := by unfold nI; rw [Int32.ofNat_add]
theorem lg_ag {σ : (Nat → Nat → Int32)} {j n : Nat} {k : Int32} {τ υ : (Nat → Nat → Int64)} (hE : nb (σ 44 0) 24000) (hD : nb (σ 50 0) 300000) (hn : n ≤ 64) (hu : ∀ e, e ≠ cl (σ 44 0) → υ 49 e = τ 49 e) : AgE σ (lg σ j k (nI n)) τ υ ∧ cl (lg σ j k (nI n) 44 0) = cl (σ 44 0) + 1 ∧ cl (lg σ j k (nI n) 50 0) = cl (σ 50 0) + n := by
  have e44 : cl (lg σ j k (nI n) 44 0) = cl (σ 44 0) + 1 := by rw [lg_44, (cl_inc hE (by omega)).2]
  have e50 : cl (lg σ j k (nI n) 50 0) = cl (σ 50 0) + n := by
    rw [lg_50, hD.1, nIv_add, cl_nI (by have := hD.2; omega), cl_nI (by have := hD.2; omega)]
  refine ⟨⟨by omega, by omega, ?_, ?_⟩, e44, e50⟩
  · intro e he
    exact ⟨fun f h1 h2 => lg_old h1 h2 (by omega), hu e (by omega)⟩
  · intro i _; rw [lg_nf (by omega)]
theorem chL_lg {σ : (Nat → Nat → Int32)} {j : Nat} {k n : Int32} (hE : nb (σ 44 0) 24000) (hC : cl (σ 53 j) < 64) : chL (lg σ j k n) j = chL σ j ++ [cl (σ 44 0)] := by
  unfold chL
  rw [lg_53, cl_nI (by omega), List.range_succ, List.map_append]
  congr 1
  · exact map_eq fun i hi => by rw [lg_52, if_neg (by omega)]
  · rw [List.map_cons, List.map_nil, lg_52, if_pos rfl, cl_nI (by have := hE.2; omega)]
theorem lg_CI {rm j kd : Nat} {σ : (Nat → Nat → Int32)} {n : Int32} (hr : rm ≤ 32) (hk4 : kd ≤ 4) (hE : nb (σ 44 0) 23999) (c1 : nb (σ 53 j) (cl (σ 55 j))) (c2 : nb (σ 55 j) rm) (cr : cl (σ 55 j) < rm) (c3 : nb (σ 56 j) (cl (σ 55 j))) (c4 : ∀ i, i < cl (σ 53 j) → nb (σ 52 (64 * j + i)) 23999) (c5 : ∀ i, i < cl (σ 55 j) → nb (σ 54 (64 * j + i)) 23999 ∧ cl (σ 54 (64 * j + i)) < cl (σ 44 0)) (c6 : σ 12 j = 0 → cl (σ 56 j) + cl (σ 53 j) = cl (σ 55 j) ∧ cnt σ j (cl (σ 55 j)) + (if kd = 4 then 1 else 0) = cl (σ 38 j)) (c7 : ¬ σ 12 j = 0 → σ 56 j = 0 ∧ cl (σ 38 j) ≤ 33 + cl (σ 55 j)) : CI rm (lg σ j (nI kd) n) j := by
  have h44 : cl (lg σ j (nI kd) n 44 0) = cl (σ 44 0) + 1 := by rw [lg_44, (cl_inc hE (by omega)).2]
  have hC := c1.2
  have hEE := hE.2
  unfold CI
  rw [lg_53, lg_55, cl_nI (by omega), cl_nI (by omega), lg_nf (f := 56) (by omega), lg_nf (f := 12) (by omega), lg_nf (f := 38) (by omega), h44]
  refine ⟨nb_n (by omega) (by omega), nb_n (by omega) (by omega), nb_mono c3 (by omega), ?_, ?_, ?_, ?_⟩
  · intro i hi
    rw [lg_52]
    by_cases e : i = cl (σ 53 j)
    · rw [if_pos e]; exact nb_n (by omega) (by omega)
    · rw [if_neg e]; exact c4 i (by omega)
  · intro i hi
    rw [lg_54]
    by_cases e : i = cl (σ 55 j)
    · rw [if_pos e, cl_nI (by omega)]; exact ⟨nb_n (by omega) (by omega), by omega⟩
    · rw [if_neg e]; have := c5 i (by omega); exact ⟨this.1, by omega⟩
  · intro h
    obtain ⟨x1, x2⟩ := c6 h
    refine ⟨by omega, ?_⟩
    rw [← x2, cnt, cnt_eq (σ := σ) (h := j) (cl (σ 55 j)) ?_]
    · congr 1
      rw [lg_54, if_pos rfl, cl_nI (by omega)]
      have : lg σ j (nI kd) n 45 (cl (σ 44 0)) = nI kd := by
        rw [lg_en (by decide), m_entry_45]
      rw [this]
      by_cases e : kd = 4
      · subst e; rw [if_pos (by decide), if_pos rfl]
      · rw [if_neg e, if_neg (show ¬ nI kd = 4 from fun h => e (nIv_inj (b := 4) h (by omega) (by omega)))]
    · intro x hx
      rw [lg_54, if_neg (by omega)]
      exact lg_old (f := 45) (by decide) (by decide) (by have := (c5 x hx).2; omega)
  · intro h; have := c7 h; exact ⟨this.1, by omega⟩
theorem lg_at {S j kd n M : Nat} {l : Nat → Nat} {σ ς : (Nat → Nat → Int32)} {τ υ : (Nat → Nat → Int64)} {A : VW} (hk4 : kd ≤ 4) (hn : n ≤ 64) (hE : nb (σ 44 0) 23999) (hD : nb (σ 50 0) 40000) (hA : A = hv S l σ τ j) (HIj : HI S M l σ τ j) (hM : M < 2147480000) (hkept : cl (σ 38 j) ≤ 32) (es : ∀ f, f ≠ 74 → ς f = lg σ j (nI kd) (nI n) f) (hu : υ 49 (cl (σ 44 0)) = τ 19 j) (p1 : kd = 1 → n ≤ 32) (p2 : kd = 0 → cl (σ 33 j) < 16 ∧ 1 ≤ n) (p3 : kd = 1 → cl (σ 35 j) < 4) (p4 : kd = 3 → σ 28 j = 1 → n = 64) (p5 : kd = 3 → l j ≤ cl (σ 37 j) - cl (σ 38 j)) : EnAt ς υ M (cl (σ 44 0)) A := by
  subst hA
  obtain ⟨a1, a2, a3, a4, a5, a6, a7, a8⟩ := HIj
  have hE2 := hE.2
  have hD2 := hD.2
  have h37 := a4.2
  have h38 := a6.2
  obtain ⟨_, e44, e50⟩ := lg_ag (j := j) (n := n) (k := nI kd) (τ := τ) (υ := t2 τ 49 (cl (σ 44 0)) 0) (nb_mono hE (by omega)) (nb_mono hD (by omega)) hn (fun e he => t2_49n he)
  have v45 : ς 45 (cl (σ 44 0)) = nI kd := by rw [es 45 (by decide), lg_en (by decide), m_entry_45]
  have v46 : ς 46 (cl (σ 44 0)) = nI (cl (σ 37 j) - cl (σ 38 j)) := by
    rw [es 46 (by decide), lg_en (by decide), m_entry_46, a4.1, a7.1, cl_nI (by omega), cl_nI (by omega)]
    have : cl (σ 37 j) = (cl (σ 37 j) - cl (σ 38 j)) + cl (σ 38 j) := by omega
    rw [this, nI_sub1]; congr 1; omega
  have v47 : ς 47 (cl (σ 44 0)) = nI n := by rw [es 47 (by decide), lg_en (by decide), m_entry_47]
  have v48 : ς 48 (cl (σ 44 0)) = σ 50 0 := by rw [es 48 (by decide), lg_en (by decide), m_entry_48]
  have w44 : cl (ς 44 0) = cl (σ 44 0) + 1 := by rw [es 44 (by decide), e44]
  have w50 : cl (ς 50 0) = cl (σ 50 0) + n := by rw [es 50 (by decide), e50]
  have e1 : (hv S l σ τ j).1 = cv S j σ := rfl
  refine ⟨a3, by rw [hu]; exact a2, ?_, ?_, ?_, ?_, ?_⟩
  · unfold EvOK
    rw [mx_D (by omega), mx_D (by omega), mx_D (by omega), mx_V (by omega), mx_V (by omega), mx_V (by omega), mx_V (by omega), v45, v47, v48, e1, cv_1 rfl, cv_1 rfl, cv_1 rfl, cv_1 rfl, cl_nI (by omega), cl_nI (by omega)]
    exact ⟨by omega, nb_n (by omega) (by omega), nb_mono hD (by omega), nb_n hn (by omega), p1, a1.2.2.2.1, fun h => (p2 h).1, a1.2.2.2.2.1, p3, fun _ _ => nb_mono a1.2.2.2.2.2.2.1 (by have := a1.2.2.1; omega)⟩
  · unfold EvS
    rw [v45, v47, v48, w44, w50, cl_nI (by omega), cl_nI (by omega), e1, cv_1 rfl]
    exact ⟨by omega, by omega, fun h => (p2 h).2, p4⟩
  · rw [v46]; exact nb_n (by omega) (by omega)
  · rw [v46, cl_nI (by omega), ou_hv]; omega
  · rw [v45, v46, cl_nI (by omega), cl_nI (by omega)]; exact p5
