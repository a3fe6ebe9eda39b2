theorem RA_cp {pg h g : Nat} {s s' u u' : (Nat → Nat → Int32)} (hB : v_B (256 * pg) g s) (H : RA pg g s u) (H15 : ∀ i, i < 256 * pg → i < 4096 → u' 15 (4096 * h + i) = s' 15 (4096 * h + i)) (eu : ∀ f i, w_f f = true → f ≠ 15 → i < v_s f → u' f (v_s f * h + i) = u f (v_s f * g + i)) (eu2 : ∀ f i, 100 ≤ f → f ≤ 104 → i < w_s f → u' f (w_s f * h + i) = u f (w_s f * g + i)) (es : ∀ f i, 16 ≤ f → f ≤ 36 → f ≠ 19 → i < v_s f → s' f (v_s f * h + i) = s f (v_s f * g + i)) (hD : ¬ nI h = s' 61 0) : RA pg h s' u' := by
  obtain ⟨hE, ⟨k1, k2⟩, ⟨p1, p2⟩, ⟨a1, a2, a3⟩, -⟩ := H
  have c33 : cl (s 33 g) ≤ 16 := hB.2.2.2.1.2
  have c35 : cl (s 35 g) ≤ 4 := hB.2.2.2.2.1.2
  have one : ∀ f, 16 ≤ f → f ≤ 36 → f ≠ 19 → v_s f = 1 → s' f h = s f g := fun f x1 x2 x3 e => by
    have := es f 0 x1 x2 x3 (by omega)
    rwa [e, show 1 * h + 0 = h by omega, show 1 * g + 0 = g by omega] at this
  have e101 : u' 101 h = u 101 g := by
    have := eu2 101 0 (by omega) (by omega) (by decide)
    rwa [show w_s 101 = 1 from rfl, show 1 * h + 0 = h by omega, show 1 * g + 0 = g by omega] at this
  have e104 : u' 104 h = u 104 g := by
    have := eu2 104 0 (by omega) (by omega) (by decide)
    rwa [show w_s 104 = 1 from rfl, show 1 * h + 0 = h by omega, show 1 * g + 0 = g by omega] at this
  have s33 : s' 33 h = s 33 g := one 33 (by omega) (by omega) (by omega) rfl
  have s35 : s' 35 h = s 35 g := one 35 (by omega) (by omega) (by omega) rfl
  have s17 : s' 17 h = s 17 g := one 17 (by omega) (by omega) (by omega) rfl
  refine ⟨fun f i hf hi h15 => ?_, ⟨by rw [e101]; exact k1, fun i hi => ?_⟩, ⟨by rw [e104]; exact p1, fun i hi => ?_⟩, ⟨?_, ?_, ?_⟩, fun q => absurd q hD⟩
  · by_cases x : f = 15
    · subst x; exact H15 i (h15 rfl) hi
    · have r := wf_r hf
      rw [eu f i hf x hi, es f i (by omega) (by omega) (by omega) hi]
      exact hE f i hf hi (fun e => absurd e x)
  · rw [s33] at hi
    have c := eu2 100 ((cl (u 101 g) + i) % 16) (by omega) (by omega) (Nat.mod_lt _ (by decide))
    have r := es 32 i (by omega) (by omega) (by omega) (by show i < 16; omega)
    rw [e101]
    exact c.trans ((k2 i hi).trans r.symm)
  · rw [s35] at hi
    obtain ⟨q1, q2, q3⟩ := p2 i hi
    have c34 : cl (s 34 (4 * g + i)) ≤ 32 := (hB.2.2.2.2.2.1 i (by omega)).2
    have c := eu2 102 ((cl (u 104 g) + i) % 4) (by omega) (by omega) (Nat.mod_lt _ (by decide))
    have r : s' 34 (4 * h + i) = s 34 (4 * g + i) := es 34 i (by omega) (by omega) (by omega) (by show i < 4; omega)
    have m4 : (cl (u 104 g) + i) % 4 < 4 := Nat.mod_lt _ (by decide)
    rw [e104, r]
    refine ⟨c.trans q1, q2, fun t ht => ?_⟩
    have c2 := eu2 103 (32 * ((cl (u 104 g) + i) % 4) + t) (by omega) (by omega) (by show _ < 128; omega)
    have r2 := es 36 (32 * i + t) (by omega) (by omega) (by omega) (by show _ < 128; omega)
    exact c2.trans ((q3 t ht).trans r2.symm)
  · rw [s17]; exact a1
  · have r : s' 18 (7 * h + 2) = s 18 (7 * g + 2) := es 18 2 (by omega) (by omega) (by omega) (by decide)
    rw [r]; exact a2
  · have r : s' 18 (7 * h + 4) = s 18 (7 * g + 4) := es 18 4 (by omega) (by omega) (by omega) (by decide)
    rw [r]; exact a3
theorem pr_o {σ : (Nat → Nat → Int32)} {r l f : Nat} {v : Int32} (h : f ≠ 7 ∧ f ≠ 8 ∧ f ≠ 9 ∧ f ≠ 11 ∧ f ≠ 12 ∧ f ≠ 13 ∧ f ≠ 53 ∧ f ≠ 55 ∧ f ≠ 56 ∧ f ≠ 58 ∧ f ≠ 59 ∧ f ≠ 60 ∧ f ≠ 61) : m_pr2 (m_noCh (m_pr1 σ r l v) l) r f = σ f := by
  unfold m_pr2 m_noCh m_pr1
  rw [u2_ne (by omega), u2_ne (by omega), u2_ne (by omega), u2_ne (by omega), u2_ne (by omega), u2_ne (by omega), u2_ne (by omega), u2_ne (by omega), u2_ne (by omega), u2_ne (by omega), u2_ne (by omega), u2_ne (by omega), u2_ne (by omega), u2_ne (by omega), u2_ne (by omega), u2_ne (by omega), u2_ne (by omega)]
theorem pr_53 {σ : (Nat → Nat → Int32)} {r l h : Nat} {v : Int32} : m_pr2 (m_noCh (m_pr1 σ r l v) l) r 53 h = (if h = l then 0 else σ 53 h) ∧ m_pr2 (m_noCh (m_pr1 σ r l v) l) r 55 h = (if h = l then 0 else σ 55 h) ∧ m_pr2 (m_noCh (m_pr1 σ r l v) l) r 56 h = (if h = l then 0 else σ 56 h) := by
  unfold m_pr2 m_noCh m_pr1
  simp (disch := first | decide | omega) only [u2_ne, u2_i, and_self]
theorem pr_58 {σ : (Nat → Nat → Int32)} {r l h : Nat} {v : Int32} : m_pr2 (m_noCh (m_pr1 σ r l v) l) r 58 h = (if h = r then 0 else σ 58 h) ∧ m_pr2 (m_noCh (m_pr1 σ r l v) l) r 59 h = (if h = r then 0 else σ 59 h) := by
  unfold m_pr2 m_noCh m_pr1
  simp (disch := first | decide | omega) only [u2_ne, u2_i, and_self]
theorem cp_20 {σ : (Nat → Nat → Int32)} {s r : Nat} : m_copy σ s r 20 r = vp_nar .boolean (σ 20 s) := by simp [m_copy, m_c5, m_c4, m_c3, m_c2, m_c1, u2_app, cpi_app, cpb_app]
theorem cp_r {σ : (Nat → Nat → Int32)} {l r f i : Nat} (hlr : l ≠ r) (hb : BYa σ) (h20 : σ 20 l = 0 ∨ σ 20 l = 1) (h1 : 16 ≤ f) (h2 : f ≤ 36) (h3 : f ≠ 19) (hi : i < v_s f) : m_copy σ l r f (v_s f * r + i) = σ f (v_s f * l + i) := by
  by_cases a : f = 16 ∨ f = 18 ∨ f = 32 ∨ f = 34
  · exact cpv_i a hi
  by_cases b : f = 31 ∨ f = 36
  · exact cp_b hb b hi
  have e1 : v_s f = 1 := by
    rcases (by omega : f = 17 ∨ f = 20 ∨ f = 21 ∨ f = 22 ∨ f = 23 ∨ f = 24 ∨ f = 25 ∨ f = 26 ∨ f = 27 ∨ f = 28 ∨ f = 29 ∨ f = 30 ∨ f = 33 ∨ f = 35) with e | e | e | e | e | e | e | e | e | e | e | e | e | e <;> subst e <;> rfl
  rw [e1] at hi ⊢
  rw [show 1 * r + i = r by omega, show 1 * l + i = l by omega]
  by_cases c : f = 20
  · subst c
    rw [cp_20]
    rcases h20 with q | q <;> rw [q] <;> rfl
  · exact cpv_1 hlr (by omega)
theorem pgc_all {s : (Nat → Nat → Int32)} : ∀ n, (∀ i, i < n → s 63 i = 0) → pgc s n = n
  | 0, _ => rfl
  | n + 1, h => by
    unfold pgc
    rw [pgc_all n (fun i hi => h i (by omega)), if_pos (h n (by omega))]
theorem mp1_o {u : (Nat → Nat → Int32)} {l r f : Nat} (h : f ≠ 13 ∧ f ≠ 113 ∧ f ≠ 115 ∧ f ≠ 122 ∧ f ≠ 123 ∧ (f < 132 ∨ 135 < f)) : k_mp1 u l r f = u f := by
  unfold k_mp1
  rw [u2_ne (by omega), u2_ne (by omega), u2_ne (by omega), u2_ne (by omega), u2_ne (by omega), k_fgt_ne (by omega)]
theorem mp_o {u : (Nat → Nat → Int32)} {l r f : Nat} (h1 : f ≠ 7) (h2 : f ≠ 113) : k_mp u l r f = k_call (k_mp1 u l r) l r f := by unfold k_mp; rw [u2_ne h1, u2_ne h2]
theorem RR_pair {n pg rm c r l : Nat} {z : CZ} {y : RZ} (S : SC n pg rm c z.1) (V : CV n pg rm c y.1 y.2) (hc : c ≤ 511) (H : RR n pg rm c z y) (tr : TrAt y.1 n r l) (f63 : ∀ i, i < pg → y.1 63 i = 0) : RR n pg rm (c + 1) (k_mp z.1 l r, t2 z.2.1 19 r (z.2.1 19 l), z.2.2) (m_pair y.1 r l, t2 y.2 19 r (y.2 19 l)) := by
  have hn4 := V.g.1.2.2.2.2.2.2.1
  have hp16 : pg ≤ 16 := V.g.1.2.2.2.2.2.2.2.2.1
  obtain ⟨l0, inv⟩ := id V
  obtain ⟨hg, hh, hp, hd', hx, ht, hm⟩ := H
  obtain ⟨hxN, noLK, -⟩ := EX_pair hx V tr (by omega)
  obtain ⟨t60, t61, hr, hl, hlr⟩ := id tr
  obtain ⟨r7, l7, l11, -⟩ := TrAt_R inv tr
  have hBl := (inv.2.1 l (by omega)).1.1
  have hby : BYa y.1 := hBl.2.2.2.2.2.2.2.2
  have hpg4 : 4 ≤ pg := by have := hBl.2.1; omega
  have l12 : y.1 12 l = 0 := by
    by_cases q : y.1 12 l = 0
    · exact q
    · exact absurd l11 (hx.2.1 l (by omega) l7 q).1
  have e20 : z.1 20 l = y.1 20 l := w_g1 20 (hh l hl).1.1 rfl
  have h20 : y.1 20 l = 0 ∨ y.1 20 l = 1 := by rw [← e20]; exact S.2.2.1 l hl
  have vv : (if z.1 13 0 < z.1 14 0 then z.1 14 0 else z.1 13 0) + 1 = m_mx y.1 := by
    obtain ⟨b13, b14, -⟩ := hx.1
    have le : y.1 14 0 ≤ y.1 13 0 := by rw [b13.1, b14.1]; exact (nIv_le (by have := b14.2; have := b13.2; omega) (by have := b13.2; omega)).mpr b14.2
    unfold m_mx
    rw [hg.2.2.1, hg.2.2.2.1, if_pos le, if_neg (Int32.not_lt.mpr le)]
  have uo : ∀ f, f ≠ 7 ∧ f ≠ 13 ∧ f ≠ 113 ∧ f ≠ 115 ∧ f ≠ 122 ∧ f ≠ 123 ∧ (f < 132 ∨ 135 < f) ∧ (f < 16 ∨ 37 < f) ∧ (f < 100 ∨ 104 < f) → k_mp z.1 l r f = z.1 f := fun f h => by rw [mp_o (by omega) (by omega), call_ne (by omega), mp1_o (by omega)]
  have u13 : k_mp z.1 l r 13 0 = m_mx y.1 := by
    rw [mp_o (by decide) (by decide), call_ne (by decide)]; unfold k_mp1
    rw [u2_ne (by decide), u2_ne (by decide), u2_ne (by decide), u2_ne (by decide), u2_ss]; exact vv
  have u122 : k_mp z.1 l r 122 0 = nI l := by
    rw [mp_o (by decide) (by decide), call_ne (by decide)]; unfold k_mp1
    rw [u2_ne (by decide), u2_ne (by decide), u2_ne (by decide), u2_ss]; exact (hh l hl).2.2.2.2.2.1
  have u123 : k_mp z.1 l r 123 0 = nI r := by
    rw [mp_o (by decide) (by decide), call_ne (by decide)]; unfold k_mp1
    rw [u2_ne (by decide), u2_ne (by decide), u2_ss]; exact (hh r hr).2.2.2.2.2.1
  have u133 : k_mp z.1 l r 133 0 = 0 ∧ k_mp z.1 l r 135 0 = 0 := by
    rw [mp_o (by decide) (by decide), mp_o (by decide) (by decide), call_ne (by decide), call_ne (by decide)]; unfold k_mp1
    rw [u2_ne (by decide), u2_ne (by decide), u2_ne (by decide), u2_ne (by decide), u2_ne (by decide), u2_ne (by decide), u2_ne (by decide), u2_ne (by decide), u2_ne (by decide), u2_ne (by decide)]
    exact ⟨fgt_v.2.2.1, fgt_v.2.2.2⟩
  have u115 : ∀ h, k_mp z.1 l r 115 h = if h = l then 1 else z.1 115 h := fun h => by
    rw [mp_o (by decide) (by decide), call_ne (by decide)]; unfold k_mp1
    rw [u2_ne (by decide), u2_i, u2_ne (by decide), u2_ne (by decide), u2_ne (by decide), k_fgt_ne (by decide)]
  have u113 : ∀ h, k_mp z.1 l r 113 h = if h = r then m_mx y.1 else if h = l then m_mx y.1 else z.1 113 h := fun h => by
    unfold k_mp
    rw [u2_ne (by decide), u2_i, vv, call_ne (by decide)]
    unfold k_mp1
    rw [u2_i, vv, u2_ne (by decide), u2_ne (by decide), u2_ne (by decide), u2_ne (by decide), k_fgt_ne (by decide)]
  have u7 : ∀ h, k_mp z.1 l r 7 h = if h = r then 2 else z.1 7 h := fun h => by
    unfold k_mp
    rw [u2_i, u2_ne (by decide), call_ne (by decide), mp1_o (by decide)]
  have u37 : ∀ h, k_mp z.1 l r 37 h = if h = r then z.1 37 l else z.1 37 h := fun h => by
    rw [mp_o (by decide) (by decide), call_37 hlr, mp1_o (by decide)]
  have uE : ∀ f i, w_f f = true → f ≠ 15 → i < v_s f → k_mp z.1 l r f (v_s f * r + i) = z.1 f (v_s f * l + i) := fun f i hf x hi => by
    have := wf_r hf
    rw [mp_o (by omega) (by omega), call_e1 hlr hf x hi, mp1_o (by omega)]
  have uE2 : ∀ f i, 100 ≤ f → f ≤ 104 → i < w_s f → k_mp z.1 l r f (w_s f * r + i) = z.1 f (w_s f * l + i) := fun f i h1 h2 hi => by
    rw [mp_o (by omega) (by omega), call_e2 hlr h1 h2 hi, mp1_o (by omega)]
  have uO : ∀ h f i, h ≠ r → khf f = true → i < w_s f → k_mp z.1 l r f (w_s f * h + i) = z.1 f (w_s f * h + i) := fun h f i hne hf hi => by
    have w : (15 ≤ f ∧ f ≤ 35) ∨ (100 ≤ f ∧ f ≤ 104) := by
      unfold khf at hf
      rcases (Bool.or_eq_true _ _).mp hf with q | q
      · have := wf_r q; omega
      · have := of_decide_eq_true q; omega
    rw [mp_o (by omega) (by omega), call_oth hlr hne hf (by omega) (by omega), mp1_o (by omega)]
  have wsl : ∀ f, w_f f = true → w_s f = v_s f := fun f hf => by
    have := wf_r hf
    unfold w_s; rw [if_neg (by omega), if_neg (by omega), if_neg (by omega), if_neg (by omega), if_neg (by omega)]
  obtain ⟨w0, w13, w60, w61, w7, w9, w8, w11, w12⟩ := prv (σ := m_copy y.1 l r) (v := m_mx y.1) hlr
  have so : ∀ f, f ≠ 7 ∧ f ≠ 8 ∧ f ≠ 9 ∧ f ≠ 11 ∧ f ≠ 12 ∧ f ≠ 13 ∧ f ≠ 53 ∧ f ≠ 55 ∧ f ≠ 56 ∧ f ≠ 58 ∧ f ≠ 59 ∧ f ≠ 60 ∧ f ≠ 61 → m_pair y.1 r l f = m_copy y.1 l r f := fun f h => pr_o h
  have sn : ∀ f, f ≠ 7 ∧ f ≠ 8 ∧ f ≠ 9 ∧ f ≠ 11 ∧ f ≠ 12 ∧ f ≠ 13 ∧ f ≠ 53 ∧ f ≠ 55 ∧ f ≠ 56 ∧ f ≠ 58 ∧ f ≠ 59 ∧ f ≠ 60 ∧ f ≠ 61 ∧ (f < 16 ∨ 38 < f) → m_pair y.1 r l f = y.1 f := fun f h => by rw [so f (by omega), m_copy_ne (by omega)]
  have v7 : ∀ h, m_pair y.1 r l 7 h = if h = r then 2 else y.1 7 h := fun h => by have := w7 h; rw [m_copy_ne (by omega)] at this; exact this
  have v9 : ∀ h, m_pair y.1 r l 9 h = if h = l ∨ h = r then m_mx y.1 else y.1 9 h := fun h => by have := w9 h; rw [m_copy_ne (by omega)] at this; exact this
  have v8 : ∀ h, m_pair y.1 r l 8 h = if h = l then nI r else if h = r then nI l else y.1 8 h := fun h => by have := w8 h; rw [m_copy_ne (by omega)] at this; exact this
  have v11 : ∀ h, m_pair y.1 r l 11 h = if h = r then 0 else if h = l then 1 else y.1 11 h := fun h => by have := w11 h; rw [m_copy_ne (by omega)] at this; exact this
  have v12 : ∀ h, m_pair y.1 r l 12 h = if h = r then 0 else if h = l then 0 else y.1 12 h := fun h => by have := w12 h; rw [m_copy_ne (by omega)] at this; exact this
  have v13 : m_pair y.1 r l 13 0 = m_mx y.1 := w13
  have v60 : m_pair y.1 r l 60 0 = -1 := w60
  have v61 : m_pair y.1 r l 61 0 = -1 := w61
  have v53 : ∀ h, m_pair y.1 r l 53 h = (if h = l then 0 else y.1 53 h) ∧ m_pair y.1 r l 55 h = (if h = l then 0 else y.1 55 h) ∧ m_pair y.1 r l 56 h = (if h = l then 0 else y.1 56 h) := fun h => by
    have := pr_53 (σ := m_copy y.1 l r) (r := r) (l := l) (h := h) (v := m_mx y.1)
    rw [m_copy_ne (by omega), m_copy_ne (by omega), m_copy_ne (by omega)] at this; exact this
  have v58 : ∀ h, m_pair y.1 r l 58 h = (if h = r then 0 else y.1 58 h) ∧ m_pair y.1 r l 59 h = (if h = r then 0 else y.1 59 h) := fun h => by
    have := pr_58 (σ := m_copy y.1 l r) (r := r) (l := l) (h := h) (v := m_mx y.1)
    rw [m_copy_ne (by omega), m_copy_ne (by omega)] at this; exact this
  have sE : ∀ f i, 16 ≤ f → f ≤ 36 → f ≠ 19 → i < v_s f → m_pair y.1 r l f (v_s f * r + i) = y.1 f (v_s f * l + i) := fun f i h1 h2 h3 hi => by
    rw [so f (by omega)]; exact cp_r hlr hby h20 h1 h2 h3 hi
  have sO : ∀ h f i, h ≠ r → 15 ≤ f → f ≤ 38 → f ≠ 19 → i < v_s f → m_pair y.1 r l f (v_s f * h + i) = y.1 f (v_s f * h + i) := fun h f i hne h1 h2 h3 hi => by
    rw [so f (by omega)]; exact cp_h hne ⟨h1, h2, h3⟩ hi
  have s1 : ∀ f, f = 17 ∨ (21 ≤ f ∧ f ≤ 30) ∨ f = 33 ∨ f = 35 ∨ f = 37 → m_pair y.1 r l f r = y.1 f l := fun f hf => by rw [so f (by omega)]; exact cpv_1 hlr hf
  have s38 : m_pair y.1 r l 38 r = 0 := by rw [so 38 (by decide)]; exact cp_38
  generalize k_mp z.1 l r = U at *
  generalize m_pair y.1 r l = s' at *
  have sO1 : ∀ h f, h ≠ r → 15 ≤ f → f ≤ 38 → f ≠ 19 → v_s f = 1 → s' f h = y.1 f h := fun h f hne h1 h2 h3 e => by
    have := sO h f 0 hne h1 h2 h3 (by omega)
    rwa [e, show 1 * h + 0 = h by omega] at this
  have ag : AgE y.1 s' y.2 (t2 y.2 19 r (y.2 19 l)) := AgE_ne (fun f h1 h2 => sn f (by omega)) t2_49
  have nD : ∀ h, h < n → ¬ nI h = s' 61 0 := fun h hhn => by rw [v61]; exact nI_m1 (by omega)
  have ng : ¬ gst y.1 r := by unfold gst; rw [r7]; decide
  refine ⟨?_, fun h hhn => ?_, Or.inr ⟨l, hl, ?_, ?_, ?_, ?_, ?_, fun i hi => ?_, fun i hi => ?_, fun i hi => ?_⟩, RD_fr hd' (fun f h1 h2 => uo f (by omega)) (fun f h1 h2 => sn f (by omega)), hxN, ?_, ?_⟩
  · obtain ⟨g1, g2, g3, g4, g5, g6, g7, g8⟩ := hg
    show U 5 0 = s' 5 0 ∧ (∀ i, i < 256 * pg → U 6 i = s' 6 i) ∧ U 13 0 = s' 13 0 ∧ U 14 0 = s' 14 0 ∧ U 62 0 = s' 62 0 ∧ (∀ i, i < 512 → U 64 i = s' 64 i) ∧ U 2 0 = nI pg ∧ U 3 0 = nI rm
    rw [uo 5 (by decide), uo 6 (by decide), uo 14 (by decide), uo 62 (by decide), uo 64 (by decide), uo 2 (by decide), uo 3 (by decide), sn 5 (by decide), sn 6 (by decide), sn 14 (by decide), sn 62 (by decide), sn 64 (by decide), u13, v13]
    exact ⟨g1, g2, rfl, g4, g5, g6, g7, g8⟩
  · obtain ⟨ra, rt⟩ := hh h hhn
    by_cases x : h = r
    · subst x
      obtain ⟨raL, rtL⟩ := hh l hl
      have zoff := RTt_off rt ng
      have n1 : ¬ s' 7 h = 1 := by rw [v7, if_pos rfl]; decide
      have g2 : s' 7 h = 2 := by rw [v7, if_pos rfl]
      obtain ⟨e58, e59⟩ := v58 h
      rw [if_pos rfl] at e58 e59
      refine ⟨RA_cp hBl raL (fun i hi hi2 => ?_) uE uE2 sE (nD h hhn), ?_, ?_, ?_, ?_, ?_, ⟨fun w => absurd w n1, fun _ => ⟨?_, ?_, ?_⟩, fun _ => ⟨?_, ?_⟩, fun w => absurd (Or.inr (Or.inl g2)) w⟩, fun _ i hi => ?_, ⟨fun _ => ⟨?_, fun i hi => ?_⟩, fun w => absurd (Or.inr (Or.inl g2)) w⟩⟩
      · show U 15 _ = s' 15 _; rw [uo 15 (by decide), sn 15 (by decide)]; exact ra.1 15 i rfl hi2 (fun _ => hi)
      · show U 37 h = s' 37 h; rw [u37, if_pos rfl, s1 37 (by decide)]; exact rtL.1
      · show t2 z.2.1 19 h (z.2.1 19 l) 19 h = t2 y.2 19 h (y.2 19 l) 19 h; rw [t2_19s, t2_19s]; exact rtL.2.1
      · show U 7 h = s' 7 h; rw [u7, v7, if_pos rfl, if_pos rfl]
      · show U 10 h = s' 10 h; rw [uo 10 (by decide), sn 10 (by decide)]; exact rt.2.2.2.1
      · show U 111 h = _; rw [uo 111 (by decide)]; exact rt.2.2.2.2.1
      · show U 114 h = 0; rw [uo 114 (by decide)]; exact zoff 114 (by omega)
      · show U 115 h = 0; rw [u115, if_neg (Ne.symm hlr)]; exact zoff 115 (by omega)
      · show U 116 h = 0; rw [uo 116 (by decide)]; exact zoff 116 (by omega)
      · show U 113 h = s' 9 h; rw [u113, if_pos rfl, v9, if_pos (Or.inr rfl)]
      · show U 121 h = nI (cl (s' 59 h) - cl (s' 58 h)); rw [uo 121 (by decide), e58, e59]; exact zoff 121 (by omega)
      · have hi' : i < cl (s' 59 h) - cl (s' 58 h) := hi
        rw [e58, e59] at hi'
        exact absurd hi' (by rw [show cl (0 : Int32) = 0 from rfl]; omega)
      · show U 38 h = s' 38 h; rw [uo 38 (by decide), s38]; exact zoff 38 (by omega)
      · have hi' : i < cl (s' 38 h) := hi
        rw [s38] at hi'
        exact absurd hi' (by rw [show cl (0 : Int32) = 0 from rfl]; omega)
    · have raN : RA pg h s' U := RA_cp (inv.2.1 h (by omega)).1.1 ra (fun i hi hi2 => by rw [uo 15 (by decide), sn 15 (by decide)]; exact ra.1 15 i rfl hi2 (fun _ => hi)) (fun f i hf h15 hi => by rw [← wsl f hf] at hi ⊢; exact uO h f i x (by unfold khf; rw [hf]; rfl) hi) (fun f i h1 h2 hi => uO h f i x (by unfold khf; rw [decide_eq_true ⟨h1, h2⟩, Bool.or_true]) hi) (fun f i h1 h2 h3 hi => sO h f i x (by omega) (by omega) h3 hi) (nD h hhn)
      refine ⟨raN, ?_⟩
      have e38 : s' 38 h = y.1 38 h := sO1 h 38 x (by omega) (by omega) (by omega) rfl
      have e37 : s' 37 h = y.1 37 h := sO1 h 37 x (by omega) (by omega) (by omega) rfl
      by_cases xl : h = l
      · subst xl
        obtain ⟨i115, i116, i121, i11, -⟩ := rt.2.2.2.2.2.1.1 l7
        have g1 : s' 7 h = 1 := by rw [v7, if_neg x]; exact l7
        have n23 : ¬ (s' 7 h = 2 ∨ s' 7 h = 3) := by rw [g1]; decide
        have s11 : s' 11 h = 1 := by rw [v11, if_neg x, if_pos rfl]
        refine ⟨?_, ?_, ?_, ?_, ?_, ⟨fun _ => ⟨?_, ?_, ?_, fun w => ?_, fun _ => ⟨?_, ?_⟩⟩, fun w => absurd g1 w, fun w => absurd w n23, fun w => absurd (Or.inl g1) w⟩, fun w => absurd w n23, ⟨fun _ => ?_, fun w => absurd (Or.inl g1) w⟩⟩
        · show U 37 h = s' 37 h; rw [u37, if_neg x, e37]; exact rt.1
        · show t2 z.2.1 19 r (z.2.1 19 h) 19 h = t2 y.2 19 r (y.2 19 h) 19 h; rw [t2_19 x, t2_19 x]; exact rt.2.1
        · show U 7 h = s' 7 h; rw [u7, v7, if_neg x, if_neg x]; exact rt.2.2.1
        · show U 10 h = s' 10 h; rw [uo 10 (by decide), sn 10 (by decide)]; exact rt.2.2.2.1
        · show U 111 h = _; rw [uo 111 (by decide)]; exact rt.2.2.2.2.1
        · show U 115 h = s' 11 h; rw [u115, if_pos rfl, s11]
        · show U 116 h = s' 12 h; rw [uo 116 (by decide), v12, if_neg x, if_pos rfl, i116, l12]
        · show U 121 h = 0; rw [uo 121 (by decide)]; exact i121
        · have w' : s' 11 h = 0 := w
          rw [s11] at w'; exact absurd w' (by decide)
        · show U 113 h = s' 9 h; rw [u113, if_neg x, if_pos rfl, v9, if_pos (Or.inl rfl)]
        · show U 114 h = s' 55 h; rw [uo 114 (by decide), (v53 h).2.1, if_pos rfl]; exact (i11 l11).1
        · have f3 := rt.2.2.2.2.2.2.2.1 (Or.inl l7)
          show U 38 h = s' 38 h ∧ ∀ i, i < cl (s' 38 h) → KE s' U h i
          rw [e38, uo 38 (by decide)]
          refine ⟨f3.1, fun i hi => ?_⟩
          obtain ⟨k1, k2⟩ := f3.2 i hi
          unfold KE
          have ek : k_sl U h i = k_sl z.1 h i := by unfold k_sl; rw [uo 112 (by decide)]
          rw [ek, uo 117 (by decide), sn 39 (by decide), sn 43 (by decide)]
          refine ⟨k1, fun q a ha => ?_⟩
          have e31 : s' 31 (64 * h + a) = y.1 31 (64 * h + a) := sO h 31 a x (by omega) (by omega) (by omega) ha
          rw [e31]; exact k2 q a ha
      · refine RT_fr (inv.2.1 h (by omega)) (by omega) rt ⟨fun f i hf hi => ?_, ?_, fun _ => rfl, fun _ _ _ _ => rfl⟩ ⟨fun f i hf hi => ?_, ?_, fun i _ => ?_⟩ ag
        · have w := of_decide_eq_true hf
          show U f _ = z.1 f _
          by_cases y1 : f = 7 ∨ f = 37 ∨ f = 113 ∨ f = 115
          · have e1 : zS f = 1 := by rcases y1 with e | e | e | e <;> subst e <;> rfl
            rw [e1] at hi ⊢
            rw [show 1 * h + i = h by omega]
            rcases y1 with e | e | e | e <;> subst e
            · rw [u7, if_neg x]
            · rw [u37, if_neg x]
            · rw [u113, if_neg x, if_neg xl]
            · rw [u115, if_neg xl]
          · rw [uo f (by omega)]
        · show t2 z.2.1 19 r (z.2.1 19 l) 19 h = z.2.1 19 h; rw [t2_19 x]
        · have w := of_decide_eq_true hf
          show s' f _ = y.1 f _
          by_cases y0 : f = 31
          · subst y0; exact sO h 31 i x (by omega) (by omega) (by omega) hi
          by_cases y1 : f = 7 ∨ f = 9 ∨ f = 11 ∨ f = 12 ∨ f = 37 ∨ f = 38 ∨ f = 55 ∨ f = 58 ∨ f = 59
          · have e1 : h_s f = 1 := by rcases y1 with e | e | e | e | e | e | e | e | e <;> subst e <;> rfl
            rw [e1] at hi ⊢
            rw [show 1 * h + i = h by omega]
            rcases y1 with e | e | e | e | e | e | e | e | e <;> subst e
            · rw [v7, if_neg x]
            · rw [v9, if_neg (fun w => w.elim xl x)]
            · rw [v11, if_neg x, if_neg xl]
            · rw [v12, if_neg x, if_neg xl]
            · exact e37
            · exact e38
            · rw [(v53 h).2.1, if_neg xl]
            · rw [(v58 h).1, if_neg x]
            · rw [(v58 h).2, if_neg x]
          · rw [sn f (by omega)]
        · show t2 y.2 19 r (y.2 19 l) 19 h = y.2 19 h; rw [t2_19 x]
        · show s' 43 _ = y.1 43 _
          rw [sn 43 (by decide)]
  · show ¬ s' 11 l = 0 ∧ s' 12 l = 0
    rw [v11, v12, if_neg hlr, if_neg hlr, if_pos rfl, if_pos rfl]; exact ⟨by decide, rfl⟩
  · exact u122
  · show U 123 0 = s' 8 l; rw [u123, v8, if_pos rfl]
  · show U 133 0 = s' 53 l; rw [u133.1, (v53 l).1, if_pos rfl]
  · show U 135 0 = s' 56 l; rw [u133.2, (v53 l).2.2, if_pos rfl]
  · have hi' : i < cl (s' 53 l) := hi
    rw [(v53 l).1, if_pos rfl, show cl (0 : Int32) = 0 from rfl] at hi'
    omega
  · have hi' : i < cl (s' 56 l) := hi
    rw [(v53 l).2.2, if_pos rfl, show cl (0 : Int32) = 0 from rfl] at hi'
    omega
  · have hi' : i < cl (s' 53 l) := hi
    rw [(v53 l).1, if_pos rfl, show cl (0 : Int32) = 0 from rfl] at hi'
    omega
  · show TK pg (c + 1) s'
    obtain ⟨t, P, t1, t2, t3⟩ := ht
    rw [if_neg (by rw [t60]; exact nI_m1 (by omega)), pgc_all pg f63] at t3
    refine ⟨fun h => if h = r then t h + 1 else t h, P + 1, fun h hh4 g w => ?_, ?_, ?_⟩
    · show 1 ≤ if h = r then t h + 1 else t h
      by_cases x : h = r
      · rw [if_pos x]; omega
      · rw [if_neg x]
        refine t1 h hh4 ?_ (fun o w1 w2 w3 => ?_)
        · unfold gst at g ⊢; rw [v7, if_neg x] at g; exact g
        · refine w o (by rw [sn 65 (by decide)]; exact w1) (by rw [sn 66 (by decide)]; exact w2) ?_
          rw [sn 67 (by decide), sn 68 (by decide), sn 10 (by decide)]; exact w3
    · show cl (s' 66 0) - cl (s' 65 0) + ((if 0 = r then t 0 + 1 else t 0) + (if 1 = r then t 1 + 1 else t 1) + (if 2 = r then t 2 + 1 else t 2) + (if 3 = r then t 3 + 1 else t 3)) ≤ P + 1 + (if s' 5 0 = 0 then 0 else 1)
      rw [sn 65 (by decide), sn 66 (by decide), sn 5 (by decide)]
      have : (if 0 = r then t 0 + 1 else t 0) + (if 1 = r then t 1 + 1 else t 1) + (if 2 = r then t 2 + 1 else t 2) + (if 3 = r then t 3 + 1 else t 3) = t 0 + t 1 + t 2 + t 3 + 1 := by
        rcases (by omega : r = 0 ∨ r = 1 ∨ r = 2 ∨ r = 3) with e | e | e | e <;> subst e <;> simp <;> omega
      rw [this]
      omega
    · rw [if_pos v60]; omega
  · show CM n s'
    refine ⟨fun j hj q => ?_, fun o h1 h2 => ?_⟩
    · by_cases x : j = r
      · subst x
        rw [s1 27 (by omega)] at q
        rw [s1 28 (by omega)]; exact hm.1 l hl q
      · rw [sO1 j 27 x (by omega) (by omega) (by omega) rfl] at q
        rw [sO1 j 28 x (by omega) (by omega) (by omega) rfl]; exact hm.1 j hj q
    · rw [sn 69 (by decide)]
      rw [sn 65 (by decide)] at h1
      rw [sn 66 (by decide)] at h2
      exact hm.2 o h1 h2
theorem RR_traF {n pg rm c : Nat} {z z' : CZ} {y y' : RZ} {r r' : Int32} (S : SC n pg rm c z.1) (V : CV n pg rm c y.1 y.2) (hc : c ≤ 511) (H : RR n pg rm c z y) (o : oTra n pg z z' r) (p : pTra n pg y y' r') : RR n pg rm (c + 1) z' y' ∧ r = r' := RR_tra V hc H (fun t l tr f63 => RR_pair S V hc H tr f63) o p
