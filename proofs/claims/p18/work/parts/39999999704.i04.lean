theorem nb_n {a b : Nat} (h : a ≤ b) (hb : b < 2147483648) : nb (nI a) b := by
  have e : cl (nI a) = a := by
    unfold cl nI
    rw [Int32.toNatClampNeg, Int32.toInt_ofNat_of_lt (by omega)]; simp
  exact ⟨by rw [e], by omega⟩
theorem nb_mono {x : Int32} {a b : Nat} (H : nb x a) (h : a ≤ b) : nb x b := ⟨H.1, Nat.le_trans H.2 h⟩
theorem v_stl {S j k A : Nat} {s z t u : (Nat → Nat → Int32)} {v : Int32} (H : v_W S j k s z t u) : ∀ i, A + i ≤ 4096 → v_W S j k s z (m_stl t j A v i) (m_stl u k A v i)
  | 0, _ => H
  | i + 1, hi => v_write (v_stl H i (by omega)) (by omega) rfl
theorem v_recw {S j k A : Nat} {s z t u : (Nat → Nat → Int32)} (H : v_W S j k s z t u) : ∀ i, i ≤ 32 → A + i ≤ 4096 → v_W S j k s z (m_recw t j A i) (m_recw u k A i)
  | 0, _, _ => H
  | i + 1, hi, hA => by
    have ih := v_recw (A := A) H i (by omega) (by omega)
    exact v_write ih (by omega) (v_gp ih.1 (by omega))
theorem v_recp {S j k i : Nat} {s z t u : (Nat → Nat → Int32)} (H : v_W S j k s z t u) (hi : i < 3) : ∀ n, n ≤ 32 → v_W S j k s z (m_recp t j i n) (m_recp u k i n)
  | 0, _ => H
  | n + 1, hn => by
    have ih := v_recp H hi n (by omega)
    have e := v_gp (i := 32 * i + 32 + n) ih.1 (by omega)
    have := v_W_36 (i := 32 * i + n) ih (by omega) (congrArg (fun x : Int32 => x.toInt8.toInt32) e) (byt_n _)
    simp only [← Nat.add_assoc] at this
    exact this
theorem v_recs {S j k : Nat} {s z t u : (Nat → Nat → Int32)} (H : v_W S j k s z t u) : ∀ i, i ≤ 3 → v_W S j k s z (m_recs t j i) (m_recs u k i)
  | 0, _ => H
  | i + 1, hi => by
    have ih := v_recs H i (by omega)
    exact v_recp (v_W_34 (i := i) ih (by omega) (v_gz (i := i + 1) ih.1 (by omega)) (ih.2.1.2.2.1.2.2.2.2.2.1 (i + 1) (by omega))) (by omega) 32 (by omega)
theorem v_inN {S n : Nat} {p : Int32} (hS : S ≤ 4096) (hn : n ≤ S) (h : 0 ≤ p ∧ p ≤ nI S - nI n) : cl p + n ≤ S := by
  obtain ⟨a, e, h2⟩ := m_inN rfl hS hn h.1 h.2
  have := (nb_n (a := a) (b := 4096) (by omega) (by decide)).1
  subst e
  have e2 : cl (nI a) = a := by
    unfold cl nI
    rw [Int32.toNatClampNeg, Int32.toInt_ofNat_of_lt (by omega)]; simp
  omega
theorem v_receives {S j k q n : Nat} {s z t u : (Nat → Nat → Int32)} {v : Int32} (H : v_W S j k s z t u) (hq : q ≤ 4) (hn : n ≤ 32) : v_W S j k s z (m_receives t j q n v) (m_receives u k q n v) := by
  unfold m_receives
  rw [← v_g4 H]
  by_cases e : q = 0 ∨ ¬ (0 ≤ v ∧ v ≤ t 4 0 - nI n)
  · rw [if_pos e, if_pos e]; exact H
  rw [if_neg e, if_neg e]
  have h1 : ¬ q = 0 := fun h => e (.inl h)
  have h2 : 0 ≤ v ∧ v ≤ t 4 0 - nI n := Classical.byContradiction fun h => e (.inr h)
  obtain ⟨b1, b2, b3, _⟩ := H.2.1.2.2.1
  rw [b1] at h2
  have := v_inN b3 (by omega) h2
  exact v_recs (v_W_35 (v_recw H n hn (by show cl v + n ≤ 4096; omega)) rfl (nb_n (by omega) (by decide))) (q - 1) (by omega)
theorem v_wpk {S j k A q r : Nat} {s z t u : (Nat → Nat → Int32)} (H : v_W S j k s z t u) (hq : q ≤ 127) (hr : r ≤ 127) : ∀ i, i ≤ 32 → v_W S j k s z (m_wpk t j q A i) (m_wpk u k r A i)
  | 0, _ => H
  | i + 1, hi => by
    have ih := v_wpk (A := A) H hq hr i (by omega)
    refine v_W_o ih (.inr ⟨by decide, by decide, by decide, by decide, ?_, ?_⟩) (.inr ⟨by decide, by decide, by decide, by decide, ?_, ?_⟩)
    · show 8192 * j ≤ _; omega
    · show _ < 8192 * j + 8192; omega
    · show 8192 * k ≤ _; omega
    · show _ < 8192 * k + 8192; omega
theorem v_askl {S j k A q r : Nat} {s z t u : (Nat → Nat → Int32)} (H : v_W S j k s z t u) (hq : q ≤ 127) (hr : r ≤ 127) (hA : A + 64 ≤ S) : ∀ i, i ≤ 64 → v_W S j k s z (m_askl t j q A i) (m_askl u k r A i)
  | 0, _ => H
  | i + 1, hi => by
    have ih := v_askl (A := A) H hq hr hA i (by omega)
    have hS := H.2.1.2.2.1.2.2.1
    have e := v_gm (i := A + i) ih.1 hS (by omega)
    simp only [← Nat.add_assoc] at e
    have := v_W_31 (i := i) ih (by omega) (congrArg (fun x : Int32 => x.toInt8.toInt32) e) (byt_n _)
    refine v_W_o this (.inr ⟨by decide, by decide, by decide, by decide, ?_, ?_⟩) (.inr ⟨by decide, by decide, by decide, by decide, ?_, ?_⟩)
    · show 8192 * j ≤ _; omega
    · show _ < 8192 * j + 8192; omega
    · show 8192 * k ≤ _; omega
    · show _ < 8192 * k + 8192; omega
theorem v_in1 {j f : Nat} (h : (decide (15 ≤ f ∧ f ≤ 43 ∧ f ≠ 19 ∧ v_s f = 1)) = true) : v_in j f j := by
  have h := of_decide_eq_true h
  exact ⟨h.1, h.2.1, h.2.2.1, by rw [h.2.2.2]; omega, by rw [h.2.2.2]; omega⟩
theorem v_inK {j f q : Nat} (h : (decide (39 ≤ f ∧ f ≤ 42)) = true) (hq : q ≤ 127) : v_in j f (128 * j + q) := by
  have h := of_decide_eq_true h
  have e : v_s f = 128 := by
    have : f = 39 ∨ f = 40 ∨ f = 41 ∨ f = 42 := by omega
    rcases this with e | e | e | e <;> (subst e; rfl)
  exact ⟨by omega, by omega, by omega, by rw [e]; omega, by rw [e]; omega⟩
theorem v_puts {S j k q r : Nat} {s z t u : (Nat → Nat → Int32)} {c a b d e f : Int32} (H : v_W S j k s z t u) (hq : q ≤ 127) (hr : r ≤ 127) : v_W S j k s z (m_puts t j (128 * j + q) c a b) (m_puts u k (128 * k + r) d e f) := by
  unfold m_puts m_put1
  have H1 := v_W_1 37 H rfl rfl (congrArg (fun x : Int32 => x + 1) (v_g1 37 H.1 rfl))
  have H2 := v_W_o (f := 39) (v := c) (w := d) H1 (.inr ⟨by decide, v_inK rfl hq⟩) (.inr ⟨by decide, v_inK rfl hr⟩)
  have H3 := v_W_o (f := 40) (v := a) (w := e) H2 (.inr ⟨by decide, v_inK rfl hq⟩) (.inr ⟨by decide, v_inK rfl hr⟩)
  have H4 := v_W_o (f := 41) (v := b) (w := f) H3 (.inr ⟨by decide, v_inK rfl hq⟩) (.inr ⟨by decide, v_inK rfl hr⟩)
  exact v_W_o (v_W_o (v_W_o H4 (.inr ⟨by decide, v_inK rfl hq⟩) (.inr ⟨by decide, v_inK rfl hr⟩)) (.inr ⟨by decide, v_in1 rfl⟩) (.inr ⟨by decide, v_in1 rfl⟩)) (.inl rfl) (.inl rfl)
theorem v_agood {S j k : Nat} {s z t u : (Nat → Nat → Int32)} {v : Int32} (H : v_W S j k s z t u) : m_agood t j v = m_agood u k v := by
  simp only [m_agood, v_g1 27 H.1 rfl, v_g1 23 H.1 rfl, v_g1 24 H.1 rfl, v_g4 H]
theorem lt8_n {x : Int32} (h0 : 0 ≤ x) (h8 : x < 8) : nb x 7 := by
  have a : x.toInt < 8 := by simpa [Int32.lt_iff_toInt_lt] using h8
  have b : 0 ≤ x.toInt := by simpa [Int32.le_iff_toInt_le] using h0
  have e : x = nI x.toInt.toNat := by
    apply Int32.toInt_inj.mp
    unfold nI
    rw [Int32.toInt_ofNat_of_lt (by omega)]; omega
  rw [e]; exact nb_n (by omega) (by omega)
theorem v_asks {S j k q r : Nat} {s z t u : (Nat → Nat → Int32)} {v : Int32} (H : v_W S j k s z t u) (hq : q ≤ 127) (hr : r ≤ 127) : v_W S j k s z (m_asks t j q v) (m_asks u k r v) := by
  unfold m_asks
  by_cases e : v = 0
  · rw [if_pos e, if_pos e, ← v_g1 27 H.1 rfl]
    by_cases e : t 27 j = 2
    · rw [if_pos e, if_pos e]; exact v_W_1 27 H rfl rfl rfl
    · rw [if_neg e, if_neg e]; exact H
  rw [if_neg e, if_neg e, ← v_agood H]
  by_cases e : m_agood t j v = true
  · rw [if_pos e, if_pos e, ← v_g1 23 H.1 rfl, ← v_g1 24 H.1 rfl]
    have g := of_decide_eq_true e
    have g5 := g.2.2.2.2
    obtain ⟨b1, b2, b3, _⟩ := H.2.1.2.2.1
    rw [b1] at g5
    have hA : cl (t 24 j) + 64 ≤ S := v_inN b3 (by omega) g5
    have n24 : nb (t 24 j) (S - 64) := by
      obtain ⟨a, e1, e2⟩ := m_inN (n := 64) rfl b3 (by omega) g5.1 g5.2
      rw [e1]; exact nb_n (by omega) (by omega)
    have n23 : nb (t 23 j) 7 := lt8_n g.2.2.1 g.2.2.2.1
    refine v_puts (v_askl ?_ hq hr hA 64 (Nat.le_refl _)) hq hr
    unfold m_ask0
    exact v_W_30 (v_W_29 (v_W_1 28 (v_W_1 27 H rfl rfl rfl) rfl rfl rfl) (v_g1 23 H.1 rfl) n23) (v_g1 24 H.1 rfl) n24
  · rw [if_neg e, if_neg e]; exact H
theorem v_sg {t u : (Nat → Nat → Int32)} {S j k : Nat} {s z : (Nat → Nat → Int32)} {v : Int32} (H : v_W S j k s z t u) : m_sgood t j v = m_sgood u k v := by
  unfold m_sgood
  rw [v_g1 25 H.1 rfl, v_g4 H]
theorem v_sg32 {x : Int32} (h1 : ¬ x < 1) (h2 : ¬ 32 < x) : cl x ≤ 32 := by
  show x.toInt.toNat ≤ 32
  have := Int32.not_lt.mp h2
  have : x.toInt ≤ 32 := by simpa [Int32.le_iff_toInt_le] using this
  omega
theorem v_wdev {S j k q r p n i : Nat} {s z t u : (Nat → Nat → Int32)} {v : Int32} (H : v_W S j k s z t u) (hq : q ≤ 127) (hr : r ≤ 127) (hp : p ≤ 4) (hn : n ≤ 32) : v_W S j k s z (m_wdev t j q p n i v) (m_wdev u k r p n i v) := by
  unfold m_wdev
  by_cases e : i = 4
  · rw [if_pos e, if_pos e]; exact v_W_1 22 H rfl rfl rfl
  rw [if_neg e, if_neg e]
  by_cases e : i = 12
  · rw [if_pos e, if_pos e]; exact v_puts H hq hr
  rw [if_neg e, if_neg e]
  by_cases e : i = 16
  · rw [if_pos e, if_pos e]; exact v_W_1 23 H rfl rfl rfl
  rw [if_neg e, if_neg e]
  by_cases e : i = 20
  · rw [if_pos e, if_pos e]; exact v_W_1 24 H rfl rfl rfl
  rw [if_neg e, if_neg e]
  by_cases e : i = 24
  · rw [if_pos e, if_pos e]; exact v_asks H hq hr
  rw [if_neg e, if_neg e]
  by_cases e : i = 28
  · rw [if_pos e, if_pos e]; exact v_W_1 25 H rfl rfl rfl
  rw [if_neg e, if_neg e]
  by_cases e : i = 32
  · rw [if_pos e, if_pos e]
    by_cases g : m_sgood t j v
    · have g' : m_sgood u k v := v_sg H ▸ g
      rw [if_pos g, if_pos g', ← v_g1 25 H.1 rfl]
      exact v_puts (v_wpk H hq hr _ (v_sg32 g.1 g.2.1)) hq hr
    · have g' : ¬ m_sgood u k v := v_sg H ▸ g
      rw [if_neg g, if_neg g']; exact H
  rw [if_neg e, if_neg e]
  by_cases e : i = 36
  · rw [if_pos e, if_pos e]; exact v_receives H hp hn
  rw [if_neg e, if_neg e]
  by_cases e : i = 40
  · rw [if_pos e, if_pos e]; exact v_W_1 26 H rfl rfl rfl
  rw [if_neg e, if_neg e]; exact H
