theorem u2_app {σ : (Nat → Nat → Int32)} {k i f x : Nat} {v : Int32} : u2 σ k i v f x = if f = k ∧ x = i then v else σ f x := by
  by_cases e : f = k
  · subst e
    by_cases e2 : x = i
    · subst e2; rw [u2_ss, if_pos ⟨rfl, rfl⟩]
    · rw [u2_sn e2, if_neg (fun h => e2 h.2)]
  · rw [u2_ne e, if_neg (fun h => e h.1)]
theorem cpi_app {σ : (Nat → Nat → Int32)} {K s l r f x : Nat} : ∀ n, m_cpi σ K s l r n f x = if f = K ∧ s * r ≤ x ∧ x < s * r + n then σ K (s * l + (x - s * r)) else σ f x
  | 0 => by rw [if_neg (by omega)]; rfl
  | n + 1 => by
    unfold m_cpi
    rw [u2_app, cpi_app n]
    by_cases e : f = K ∧ x = s * r + n
    · rw [if_pos e, if_pos ⟨e.1, by omega, by omega⟩]
      congr 1; omega
    · rw [if_neg e]
      by_cases e2 : f = K ∧ s * r ≤ x ∧ x < s * r + n
      · rw [if_pos e2, if_pos ⟨e2.1, by omega, by omega⟩]
      · rw [if_neg e2, if_neg (by omega)]
theorem cpb_app {σ : (Nat → Nat → Int32)} {K s l r f x : Nat} : ∀ n, m_cpb σ K s l r n f x = if f = K ∧ s * r ≤ x ∧ x < s * r + n then (σ K (s * l + (x - s * r))).toInt8.toInt32 else σ f x
  | 0 => by rw [if_neg (by omega)]; rfl
  | n + 1 => by
    unfold m_cpb
    rw [u2_app, cpb_app n]
    by_cases e : f = K ∧ x = s * r + n
    · rw [if_pos e, if_pos ⟨e.1, by omega, by omega⟩]
      congr 3; omega
    · rw [if_neg e]
      by_cases e2 : f = K ∧ s * r ≤ x ∧ x < s * r + n
      · rw [if_pos e2, if_pos ⟨e2.1, by omega, by omega⟩]
      · rw [if_neg e2, if_neg (by omega)]
theorem trl_app {σ : (Nat → Nat → Int32)} {r l p f x : Nat} : ∀ n, m_trl σ r l p n f x = if f = 15 ∧ 4096 * r + 256 * p ≤ x ∧ x < 4096 * r + 256 * p + n then (σ 15 (4096 * l + (x - 4096 * r))).toInt8.toInt32 else σ f x
  | 0 => by rw [if_neg (by omega)]; rfl
  | n + 1 => by
    unfold m_trl
    rw [u2_app, trl_app n]
    by_cases e : f = 15 ∧ x = 4096 * r + (256 * p + n)
    · rw [if_pos e, if_pos ⟨e.1, by omega, by omega⟩]
      congr 3; omega
    · rw [if_neg e]
      by_cases e2 : f = 15 ∧ 4096 * r + 256 * p ≤ x ∧ x < 4096 * r + 256 * p + n
      · rw [if_pos e2, if_pos ⟨e2.1, by omega, by omega⟩]
      · rw [if_neg e2, if_neg (by omega)]
theorem CV_tr1 {n pg rm c r s p : Nat} {σ : (Nat → Nat → Int32)} {τ : (Nat → Nat → Int64)} (hc : c ≤ 511) (H : CV n pg rm c σ τ) (t : TrAt σ n r s) (hp : p < pg) : CV n pg rm (c + 1) (m_tr1 σ r s p) τ := by
  obtain ⟨l, H⟩ := H
  have H0 := H
  have x := TrAt_R H t
  obtain ⟨g, hs, ho, hri⟩ := H
  have hn := g.1.2.2.2.2.2.2.1
  have hpg : pg ≤ 16 := g.1.2.2.2.2.2.2.2.2.1
  have hr4 : r < 4 := by have := t.2.2.1; omega
  have hs4 : s < 4 := by have := t.2.2.2.1; omega
  have sr : s ≠ r := t.2.2.2.2
  obtain ⟨a1, a2, a3, a4, a5, a6, a0⟩ := hs r hr4
  have e11 : σ 11 r = 0 := a0 (.inr x.1)
  unfold m_tr1
  generalize hZ : m_trl (u2 (u2 σ 63 p 0) 62 0 (σ 62 0 + 1)) r s p 256 = Z
  have e : ∀ f, f ≠ 15 → f ≠ 62 → f ≠ 63 → Z f = σ f := fun f q1 q2 q3 => by rw [← hZ, m_trl_ne q1, u2_ne q2, u2_ne q3]
  have z15 : ∀ y, Z 15 y = if 4096 * r + 256 * p ≤ y ∧ y < 4096 * r + 256 * p + 256 then (σ 15 (4096 * s + (y - 4096 * r))).toInt8.toInt32 else σ 15 y := by
    intro y
    rw [← hZ, trl_app, u2_ne (by decide), u2_ne (by decide)]
    by_cases q : 4096 * r + 256 * p ≤ y ∧ y < 4096 * r + 256 * p + 256
    · rw [if_pos ⟨rfl, q⟩, if_pos q]
    · rw [if_neg (fun h => q h.2), if_neg q]
  have z63 : ∀ i, Z 63 i = if i = p then 0 else σ 63 i := by
    intro i
    rw [← hZ, m_trl_ne (by decide), u2_ne (by decide)]
    by_cases q : i = p
    · subst q; rw [u2_ss, if_pos rfl]
    · rw [u2_sn q, if_neg q]
  have hbZ : BYa Z := by
    intro f i hf
    by_cases q : f = 15
    · subst q
      rw [z15]
      by_cases q : 4096 * r + 256 * p ≤ i ∧ i < 4096 * r + 256 * p + 256
      · rw [if_pos q]; exact byt_n _
      · rw [if_neg q]; exact INV_by H0 15 i hf
    · rw [e f q (by omega) (by omega)]; exact INV_by H0 f i hf
  have sZ : ∀ h, h ≠ r → Sm h σ Z τ τ := by
    intro h hh
    refine ⟨?_, rfl⟩
    intro f i hf hi
    by_cases q : f = 15
    · subst q
      have hi : i < 4096 := hi
      rw [show h_s 15 = 4096 from rfl, z15, if_neg (by omega)]
    · rw [e f q (by intro e; subst e; cases hf) (by intro e; subst e; cases hf)]
  have e' : ∀ f, f < 15 ∨ (15 < f ∧ f < 62) ∨ 63 < f → Z f = σ f := fun f hf => e f (by omega) (by omega) (by omega)
  refine ⟨l, INV_host H0 hr4 (fun h _ hh => sZ h hh) (AgE_ne (fun f x y => e' f (by omega)) rfl) (by rw [e' 4 (by omega)]) hbZ (fun _ _ => rfl) (by omega) (by omega) (by omega) (by omega) ?_ ?_ ?_ ?_ ?_⟩
  · have nh : HI (256 * pg) (2000 * c) l Z τ r := HI_m a1 (fun f hf => e' f (by omega)) hbZ
    refine ⟨⟨nh.1, nh.2.1, by have := nh.2.2.1; omega, nh.2.2.2⟩, ?_, ?_, ?_, ?_, ?_, ?_⟩
    · rw [e' 11 (by omega)]; exact fun h => absurd e11 h
    · rw [e' 7 (by omega), x.1]; intro h; exact absurd h (by decide)
    · rw [e' 7 (by omega), x.1]; intro h; exact absurd h (by decide)
    · rw [e' 10 (by omega)]; exact nb_mono a5 (by omega)
    · have : CB c Z r := CB_nf a6 (fun f x y => e' f (by omega))
      exact ⟨nb_mono this.1 (by omega), nb_mono this.2.1 (by omega), this.2.2⟩
    · rw [e' 11 (by omega)]; exact fun _ => e11
  · intro b _ _ _ li
    have := li.2.1
    rw [e' 11 (by omega)] at this
    exact absurd e11 this
  · refine GI_st g hs4 (.inl x.2.1) (fun f i hf => by rw [e' f (by omega)]) ?_ ?_ ?_ ?_
    · rw [e' 44 (by omega)]; exact nb_mono g.2.1 (by omega)
    · rw [e' 50 (by omega)]; exact nb_mono g.2.2.1 (by omega)
    · rw [e' 72 (by omega)]; exact g.2.2.2.1
    · rw [e' 74 (by omega)]; exact g.2.2.2.2.1
  · have := OI_nf (ς := Z) ho (fun f hf => e' f (by omega))
    exact ⟨this.1, nb_mono this.2.1 (by omega), this.2.2⟩
  · right
    refine ⟨r, s, ⟨by rw [e' 60 (by omega)]; exact t.1, by rw [e' 61 (by omega)]; exact t.2.1, t.2.2⟩, by rw [e' 7 (by omega)]; exact x.1, by rw [e' 7 (by omega)]; exact x.2.1, by rw [e' 11 (by omega)]; exact x.2.2.1, ?_⟩
    intro a ha h0
    rw [z63] at h0
    have zs : Z 15 (4096 * s + a) = σ 15 (4096 * s + a) := by rw [z15, if_neg (by omega)]
    rw [zs, z15]
    by_cases q : a / 256 = p
    · rw [if_pos (by omega)]
      have : 4096 * r + a - 4096 * r = a := by omega
      rw [this]
      exact INV_by H0 15 _ (.inl rfl)
    · rw [if_neg q] at h0
      rw [if_neg (by omega)]; exact x.2.2.2 a ha h0
theorem cpv_1 {σ : (Nat → Nat → Int32)} {s r f : Nat} (h : s ≠ r) (hf : f = 17 ∨ (21 ≤ f ∧ f ≤ 30) ∨ f = 33 ∨ f = 35 ∨ f = 37) : m_copy σ s r f r = σ f s := by
  have : f = 17 ∨ f = 21 ∨ f = 22 ∨ f = 23 ∨ f = 24 ∨ f = 25 ∨ f = 26 ∨ f = 27 ∨ f = 28 ∨ f = 29 ∨ f = 30 ∨ f = 33 ∨ f = 35 ∨ f = 37 := by omega
  rcases this with e | e | e | e | e | e | e | e | e | e | e | e | e | e <;> subst e <;> simp [m_copy, m_c5, m_c4, m_c3, m_c2, m_c1, u2_app, cpi_app, cpb_app, h]
theorem cp_38 {σ : (Nat → Nat → Int32)} {s r : Nat} : m_copy σ s r 38 r = 0 := by simp [m_copy, m_c5, u2_app]
theorem cpv_i {σ : (Nat → Nat → Int32)} {s r f i : Nat} (hf : f = 16 ∨ f = 18 ∨ f = 32 ∨ f = 34) (hi : i < v_s f) : m_copy σ s r f (v_s f * r + i) = σ f (v_s f * s + i) := by
  rcases hf with e | e | e | e <;> subst e
  · have hi : i < 32 := hi
    simp [m_copy, m_c5, m_c4, m_c3, m_c2, m_c1, u2_app, cpi_app, cpb_app, show v_s 16 = 32 from rfl, hi]
  · have hi : i < 7 := hi
    simp [m_copy, m_c5, m_c4, m_c3, m_c2, m_c1, u2_app, cpi_app, cpb_app, show v_s 18 = 7 from rfl, hi]
  · have hi : i < 16 := hi
    simp [m_copy, m_c5, m_c4, m_c3, m_c2, m_c1, u2_app, cpi_app, cpb_app, show v_s 32 = 16 from rfl, hi]
  · have hi : i < 4 := hi
    simp [m_copy, m_c5, m_c4, m_c3, m_c2, m_c1, u2_app, cpi_app, cpb_app, show v_s 34 = 4 from rfl, hi]
theorem cp_b {σ : (Nat → Nat → Int32)} {s r f i : Nat} (hb : BYa σ) (hf : f = 31 ∨ f = 36) (hi : i < v_s f) : m_copy σ s r f (v_s f * r + i) = σ f (v_s f * s + i) := by
  rcases hf with e | e <;> subst e
  · have hi : i < 64 := hi
    have := hb 31 (64 * s + i) (by omega)
    unfold byt at this
    simp [m_copy, m_c5, m_c4, m_c3, m_c2, m_c1, u2_app, cpi_app, cpb_app, show v_s 31 = 64 from rfl, hi, this]
  · have hi : i < 128 := hi
    have := hb 36 (128 * s + i) (by omega)
    unfold byt at this
    simp [m_copy, m_c5, m_c4, m_c3, m_c2, m_c1, u2_app, cpi_app, cpb_app, show v_s 36 = 128 from rfl, hi, this]
theorem cp_by {σ : (Nat → Nat → Int32)} {s r : Nat} (hb : BYa σ) : BYa (m_copy σ s r) := by
  intro f i hf
  rcases hf with e | e | e <;> subst e
  · simp [m_copy, m_c5, m_c4, m_c3, m_c2, m_c1, u2_app, cpi_app, cpb_app]; exact hb 15 i (by omega)
  · simp only [m_copy, m_c5, m_c4, m_c3, m_c2, m_c1, u2_app, cpi_app, cpb_app]
    simp
    split
    · exact byt_n _
    · exact hb 31 i (by omega)
  · simp only [m_copy, m_c5, m_c4, m_c3, m_c2, m_c1, u2_app, cpi_app, cpb_app]
    simp
    split
    · exact byt_n _
    · exact hb 36 i (by omega)
theorem cp_ne {σ : (Nat → Nat → Int32)} {s r f : Nat} (h : f < 16 ∨ f = 19 ∨ 38 < f) : m_copy σ s r f = σ f := by
  funext x
  have q : ∀ K, (16 ≤ K ∧ K ≤ 38 ∧ K ≠ 19) → (f = K) = False := fun K hK => eq_false (by omega)
  simp [m_copy, m_c5, m_c4, m_c3, m_c2, m_c1, u2_app, cpi_app, cpb_app, q]
theorem cp_h {σ : (Nat → Nat → Int32)} {s r h f i : Nat} (hh : h ≠ r) (hf : 15 ≤ f ∧ f ≤ 38 ∧ f ≠ 19) (hi : i < v_s f) : m_copy σ s r f (v_s f * h + i) = σ f (v_s f * h + i) := by
  have no : ∀ S, v_s f = S → ¬ (S * r ≤ S * h + i ∧ S * h + i < S * r + S) := by
    intro S e q; subst e; exact hh (sl_ne hi q.1 q.2)
  have : f = 15 ∨ f = 16 ∨ f = 18 ∨ f = 31 ∨ f = 32 ∨ f = 34 ∨ f = 36 ∨ v_s f = 1 := by
    by_cases e : v_s f = 1
    · omega
    · have : f = 15 ∨ f = 16 ∨ f = 18 ∨ f = 31 ∨ f = 32 ∨ f = 34 ∨ f = 36 := by
        unfold v_s at e
        repeat' (split at e)
        all_goals omega
      omega
  rcases this with e | e | e | e | e | e | e | e
  · subst e; simp [m_copy, m_c5, m_c4, m_c3, m_c2, m_c1, u2_app, cpi_app, cpb_app]
  · subst e; have := no 32 rfl; simp [m_copy, m_c5, m_c4, m_c3, m_c2, m_c1, u2_app, cpi_app, cpb_app, show v_s 16 = 32 from rfl, this]
  · subst e; have := no 7 rfl; simp [m_copy, m_c5, m_c4, m_c3, m_c2, m_c1, u2_app, cpi_app, cpb_app, show v_s 18 = 7 from rfl, this]
  · subst e; have := no 64 rfl; simp [m_copy, m_c5, m_c4, m_c3, m_c2, m_c1, u2_app, cpi_app, cpb_app, show v_s 31 = 64 from rfl, this]
  · subst e; have := no 16 rfl; simp [m_copy, m_c5, m_c4, m_c3, m_c2, m_c1, u2_app, cpi_app, cpb_app, show v_s 32 = 16 from rfl, this]
  · subst e; have := no 4 rfl; simp [m_copy, m_c5, m_c4, m_c3, m_c2, m_c1, u2_app, cpi_app, cpb_app, show v_s 34 = 4 from rfl, this]
  · subst e; have := no 128 rfl; simp [m_copy, m_c5, m_c4, m_c3, m_c2, m_c1, u2_app, cpi_app, cpb_app, show v_s 36 = 128 from rfl, this]
  · have hne : f ≠ 16 ∧ f ≠ 18 ∧ f ≠ 31 ∧ f ≠ 32 ∧ f ≠ 34 ∧ f ≠ 36 := by
      refine ⟨?_, ?_, ?_, ?_, ?_, ?_⟩ <;> (intro q; subst q; cases e)
    have hi0 : i = 0 := by omega
    subst hi0
    rw [e, Nat.one_mul, Nat.add_zero]
    simp [m_copy, m_c5, m_c4, m_c3, m_c2, m_c1, u2_app, cpi_app, cpb_app, hh, hne]
