theorem byt_n (x : Int32) : byt x.toInt8.toInt32 := by unfold byt; rw [Int8.toInt8_toInt32]
theorem v_B_g {S j f i : Nat} {t : (Nat → Nat → Int32)} {v : Int32} (H : v_B S j t) (h0 : f ≠ 4) (h3 : f = 33 → nb v 16) (h5 : f = 35 → nb v 4) (h4 : f = 34 → nb v 32) (h30 : f = 30 → nb v (S - 64)) (h29 : f = 29 → nb v 7) (hb : f = 15 ∨ f = 31 ∨ f = 36 → byt v) : v_B S j (u2 t f i v) := by
  obtain ⟨b1, b2, b3, b4, b5, b6, b7, b9, b8⟩ := H
  have q : ∀ g l, u2 t f i v g l = t g l ∨ (g = f ∧ u2 t f i v g l = v) := by
    intro g l
    by_cases e : g = f
    · subst e
      by_cases e2 : l = i
      · subst e2; exact .inr ⟨rfl, u2_ss⟩
      · exact .inl (u2_sn e2)
    · exact .inl (by rw [u2_ne e])
  refine ⟨?_, b2, b3, ?_, ?_, ?_, ?_, ?_, ?_⟩
  · rw [u2_ne (Ne.symm h0)]; exact b1
  · rcases q 33 j with e | ⟨e, e'⟩
    · rw [e]; exact b4
    · rw [e']; exact h3 e.symm
  · rcases q 35 j with e | ⟨e, e'⟩
    · rw [e]; exact b5
    · rw [e']; exact h5 e.symm
  · intro l hl
    rcases q 34 (4 * j + l) with e | ⟨e, e'⟩
    · rw [e]; exact b6 l hl
    · rw [e']; exact h4 e.symm
  · rcases q 30 j with e | ⟨e, e'⟩
    · rw [e]; exact b7
    · rw [e']; exact h30 e.symm
  · rcases q 29 j with e | ⟨e, e'⟩
    · rw [e]; exact b9
    · rw [e']; exact h29 e.symm
  · intro g l hg
    rcases q g l with e | ⟨e, e'⟩
    · rw [e]; exact b8 g l hg
    · rw [e']; exact hb (e ▸ hg)
theorem v_R_s {S j f i : Nat} {s t : (Nat → Nat → Int32)} {v : Int32} (H : v_R S j s t) (hf : (decide (15 < f ∧ f ≤ 43 ∧ f ≠ 19)) = true) (hi : i < v_s f) (hB : v_B S j (u2 t f (v_s f * j + i) v)) : v_R S j s (u2 t f (v_s f * j + i) v) := by
  have hf := of_decide_eq_true hf
  refine ⟨v_F_u H.1 ⟨by omega, hf.2.1, hf.2.2, by omega, by omega⟩, ?_, hB, H.2.2.2⟩
  intro e a ha
  rw [u2_ne (by omega), u2_ne (by omega)]; exact H.2.1 e a ha
theorem v_W_s {S j k i : Nat} {s z t u : (Nat → Nat → Int32)} {v w : Int32} (f : Nat) (H : v_W S j k s z t u) (hf : (decide (15 < f ∧ f ≤ 43 ∧ f ≠ 19)) = true) (hi : i < v_s f) (hv : v = w) (h3 : f = 33 → nb v 16) (h5 : f = 35 → nb v 4) (h4 : f = 34 → nb v 32) (h30 : f = 30 → nb v (S - 64)) (h29 : f = 29 → nb v 7) (hb : f = 31 ∨ f = 36 → byt v) : v_W S j k s z (u2 t f (v_s f * j + i) v) (u2 u f (v_s f * k + i) w) := by
  subst hv
  have q := of_decide_eq_true hf
  refine ⟨v_E_u H.1 rfl, v_R_s H.2.1 hf hi (v_B_g H.2.1.2.2.1 (by omega) h3 h5 h4 h30 h29 ?_), v_R_s H.2.2 hf hi (v_B_g H.2.2.2.2.1 (by omega) h3 h5 h4 h30 h29 ?_)⟩
  · rintro (e | e | e)
    · omega
    · exact hb (.inl e)
    · exact hb (.inr e)
  · rintro (e | e | e)
    · omega
    · exact hb (.inl e)
    · exact hb (.inr e)
theorem v_W_33 {S j k : Nat} {s z t u : (Nat → Nat → Int32)} {v w : Int32} (H : v_W S j k s z t u) (hv : v = w) (h : nb v 16) : v_W S j k s z (u2 t 33 j v) (u2 u 33 k w) := by
  have := v_W_s (i := 0) 33 H rfl (by decide) hv (fun _ => h) (by intro e; cases e) (by intro e; cases e) (by intro e; cases e) (by intro e; cases e) (by intro e; rcases e with e | e <;> cases e)
  rwa [show v_s 33 = 1 from rfl, Nat.one_mul, Nat.one_mul, Nat.add_zero, Nat.add_zero] at this
theorem v_W_35 {S j k : Nat} {s z t u : (Nat → Nat → Int32)} {v w : Int32} (H : v_W S j k s z t u) (hv : v = w) (h : nb v 4) : v_W S j k s z (u2 t 35 j v) (u2 u 35 k w) := by
  have := v_W_s (i := 0) 35 H rfl (by decide) hv (by intro e; cases e) (fun _ => h) (by intro e; cases e) (by intro e; cases e) (by intro e; cases e) (by intro e; rcases e with e | e <;> cases e)
  rwa [show v_s 35 = 1 from rfl, Nat.one_mul, Nat.one_mul, Nat.add_zero, Nat.add_zero] at this
theorem v_W_30 {S j k : Nat} {s z t u : (Nat → Nat → Int32)} {v w : Int32} (H : v_W S j k s z t u) (hv : v = w) (h : nb v (S - 64)) : v_W S j k s z (u2 t 30 j v) (u2 u 30 k w) := by
  have := v_W_s (i := 0) 30 H rfl (by decide) hv (by intro e; cases e) (by intro e; cases e) (by intro e; cases e) (fun _ => h) (by intro e; cases e) (by intro e; rcases e with e | e <;> cases e)
  rwa [show v_s 30 = 1 from rfl, Nat.one_mul, Nat.one_mul, Nat.add_zero, Nat.add_zero] at this
theorem v_W_29 {S j k : Nat} {s z t u : (Nat → Nat → Int32)} {v w : Int32} (H : v_W S j k s z t u) (hv : v = w) (h : nb v 7) : v_W S j k s z (u2 t 29 j v) (u2 u 29 k w) := by
  have := v_W_s (i := 0) 29 H rfl (by decide) hv (by intro e; cases e) (by intro e; cases e) (by intro e; cases e) (by intro e; cases e) (fun _ => h) (by intro e; rcases e with e | e <;> cases e)
  rwa [show v_s 29 = 1 from rfl, Nat.one_mul, Nat.one_mul, Nat.add_zero, Nat.add_zero] at this
theorem v_W_34 {S j k i : Nat} {s z t u : (Nat → Nat → Int32)} {v w : Int32} (H : v_W S j k s z t u) (hi : i < 4) (hv : v = w) (h : nb v 32) : v_W S j k s z (u2 t 34 (4 * j + i) v) (u2 u 34 (4 * k + i) w) :=
  v_W_s 34 H rfl hi hv (by intro e; cases e) (by intro e; cases e) (fun _ => h) (by intro e; cases e) (by intro e; cases e) (by intro e; rcases e with e | e <;> cases e)
theorem v_W_31 {S j k i : Nat} {s z t u : (Nat → Nat → Int32)} {v w : Int32} (H : v_W S j k s z t u) (hi : i < 64) (hv : v = w) (h : byt v) : v_W S j k s z (u2 t 31 (64 * j + i) v) (u2 u 31 (64 * k + i) w) :=
  v_W_s 31 H rfl hi hv (by intro e; cases e) (by intro e; cases e) (by intro e; cases e) (by intro e; cases e) (by intro e; cases e) (fun _ => h)
theorem v_W_36 {S j k i : Nat} {s z t u : (Nat → Nat → Int32)} {v w : Int32} (H : v_W S j k s z t u) (hi : i < 128) (hv : v = w) (h : byt v) : v_W S j k s z (u2 t 36 (128 * j + i) v) (u2 u 36 (128 * k + i) w) :=
  v_W_s 36 H rfl hi hv (by intro e; cases e) (by intro e; cases e) (by intro e; cases e) (by intro e; cases e) (by intro e; cases e) (fun _ => h)
theorem v_R_o {S j f i : Nat} {s t : (Nat → Nat → Int32)} {v : Int32} (H : v_R S j s t) (h : f = 74 ∨ (37 < f ∧ v_in j f i)) : v_R S j s (u2 t f i v) := by
  have hlo : 37 < f := by rcases h with e | e <;> omega
  refine ⟨?_, ?_, v_B_g H.2.2.1 (by omega) (by omega) (by omega) (by omega) (by omega) (by omega) (by omega), H.2.2.2⟩
  · intro g l
    by_cases e : g = f
    · subst e
      rcases h with e1 | e1
      · exact .inr (.inl e1)
      · by_cases e2 : l = i
        · subst e2; exact .inr (.inr (.inl e1.2))
        · rw [u2_sn e2]; exact H.1 g l
    · rw [u2_ne e]; exact H.1 g l
  · intro e a ha
    rw [u2_ne (by omega)]
    by_cases e6 : f = 63
    · rcases h with h | h
      · omega
      · have := h.2.2.1; omega
    · rw [u2_ne (by omega)]; exact H.2.1 e a ha
theorem v_E_o {S j k f i g l : Nat} {t u : (Nat → Nat → Int32)} {v w : Int32} (H : v_E S j k t u) (hf : 37 < f) (hg : 37 < g) : v_E S j k (u2 t f i v) (u2 u g l w) :=
  v_E_w H (fun _ _ _ _ _ => u2_ne (by omega)) (fun _ _ _ _ _ => u2_ne (by omega))
theorem v_W_o {S j k f i l : Nat} {s z t u : (Nat → Nat → Int32)} {v w : Int32} (H : v_W S j k s z t u) (h : f = 74 ∨ (37 < f ∧ v_in j f i)) (h' : f = 74 ∨ (37 < f ∧ v_in k f l)) : v_W S j k s z (u2 t f i v) (u2 u f l w) :=
  have hlo : 37 < f := by rcases h with e | e <;> omega
  ⟨v_E_o H.1 hlo hlo, v_R_o H.2.1 h, v_R_o H.2.2 h'⟩
theorem v_R_wr {S j a : Nat} {s t : (Nat → Nat → Int32)} {v : Int32} (H : v_R S j s t) (ha : a < 4096) : v_R S j s (m_write t j a v) := by
  have hs : t 61 0 = s 61 0 := by
    rcases H.1 61 0 with e | e | e | e
    · exact e
    · omega
    · have := e.2.1; omega
    · omega
  have hF : v_F j s (u2 t 15 (4096 * j + a) v.toInt8.toInt32) := v_F_u H.1 ⟨by decide, by decide, by decide, by show 4096 * j ≤ _; omega, by show _ < 4096 * j + 4096; omega⟩
  have hB : v_B S j (u2 t 15 (4096 * j + a) v.toInt8.toInt32) := v_B_g H.2.2.1 (by decide) (by intro e; cases e) (by intro e; cases e) (by intro e; cases e) (by intro e; cases e) (by intro e; cases e) (fun _ => byt_n v)
  unfold m_write
  by_cases e : nI j = t 61 0
  · rw [if_pos e]
    refine ⟨?_, ?_, v_B_g hB (by decide) (by intro e; cases e) (by intro e; cases e) (by intro e; cases e) (by intro e; cases e) (by intro e; cases e) (by intro e; omega), H.2.2.2⟩
    · intro g l
      by_cases e1 : g = 63
      · subst e1
        by_cases e2 : l = a / 256
        · subst e2; exact .inr (.inr (.inr ⟨rfl, e.trans hs, u2_ss⟩))
        · rw [u2_sn e2]; exact hF 63 l
      · rw [u2_ne e1]; exact hF g l
    · intro _ b hb
      by_cases e2 : b / 256 = a / 256
      · right; rw [e2]; exact u2_ss
      · rw [u2_ne (by decide), u2_sn (by intro e3; apply e2; congr 1; omega), u2_sn e2, u2_ne (by decide)]
        exact H.2.1 (e.trans hs) b hb
  · rw [if_neg e]
    exact ⟨hF, fun e1 => absurd (e1.trans hs.symm) e, hB, H.2.2.2⟩
theorem v_E_wr {S j k a : Nat} {t u : (Nat → Nat → Int32)} {v w : Int32} (H : v_E S j k t u) (hv : v = w) : v_E S j k (m_write t j a v) (m_write u k a w) := by
  have q : v_E S j k (u2 t 15 (4096 * j + a) v.toInt8.toInt32) (u2 u 15 (4096 * k + a) w.toInt8.toInt32) := v_E_u (f := 15) H (by rw [hv])
  have q1 : ∀ (t : (Nat → Nat → Int32)) (j : Nat) (v : Int32) f, 15 ≤ f → f ≤ 37 → f ≠ 19 → f ≠ 20 → m_write t j a v f = u2 t 15 (4096 * j + a) v.toInt8.toInt32 f := by
    intro t j v f h1 h2 _ _
    unfold m_write
    by_cases e : nI j = t 61 0
    · rw [if_pos e, u2_ne (by omega)]
    · rw [if_neg e]
  exact v_E_w q (q1 t j v) (q1 u k w)
theorem v_write {S j k a : Nat} {s z t u : (Nat → Nat → Int32)} {v w : Int32} (H : v_W S j k s z t u) (ha : a < 4096) (hv : v = w) : v_W S j k s z (m_write t j a v) (m_write u k a w) := ⟨v_E_wr H.1 hv, v_R_wr H.2.1 ha, v_R_wr H.2.2 ha⟩
