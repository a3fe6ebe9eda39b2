theorem rl6 : r_len 6 = 4096 := rfl
theorem rl7 : r_len 7 = 4 := rfl
theorem rl8 : r_len 8 = 4 := rfl
theorem rl9 : r_len 9 = 4 := rfl
theorem rl10 : r_len 10 = 4 := rfl
theorem rl11 : r_len 11 = 4 := rfl
theorem rl12 : r_len 12 = 4 := rfl
theorem rl15 : r_len 15 = 16384 := rfl
theorem rl16 : r_len 16 = 128 := rfl
theorem rl17 : r_len 17 = 4 := rfl
theorem rl18 : r_len 18 = 28 := rfl
theorem rl19 : r_len 19 = 4 := rfl
theorem rl20 : r_len 20 = 4 := rfl
theorem rl21 : r_len 21 = 4 := rfl
theorem rl22 : r_len 22 = 4 := rfl
theorem rl23 : r_len 23 = 4 := rfl
theorem rl24 : r_len 24 = 4 := rfl
theorem rl25 : r_len 25 = 4 := rfl
theorem rl26 : r_len 26 = 4 := rfl
theorem rl27 : r_len 27 = 4 := rfl
theorem rl28 : r_len 28 = 4 := rfl
theorem rl29 : r_len 29 = 4 := rfl
theorem rl30 : r_len 30 = 4 := rfl
theorem rl31 : r_len 31 = 256 := rfl
theorem rl32 : r_len 32 = 64 := rfl
theorem rl33 : r_len 33 = 4 := rfl
theorem rl34 : r_len 34 = 16 := rfl
theorem rl35 : r_len 35 = 4 := rfl
theorem rl36 : r_len 36 = 512 := rfl
theorem rl37 : r_len 37 = 4 := rfl
theorem rl38 : r_len 38 = 4 := rfl
theorem rl39 : r_len 39 = 512 := rfl
theorem rl40 : r_len 40 = 512 := rfl
theorem rl41 : r_len 41 = 512 := rfl
theorem rl42 : r_len 42 = 512 := rfl
theorem rl43 : r_len 43 = 32768 := rfl
theorem rl45 : r_len 45 = 24000 := rfl
theorem rl46 : r_len 46 = 24000 := rfl
theorem rl47 : r_len 47 = 24000 := rfl
theorem rl48 : r_len 48 = 24000 := rfl
theorem rl49 : r_len 49 = 24000 := rfl
theorem rl51 : r_len 51 = 270000 := rfl
theorem rl52 : r_len 52 = 256 := rfl
theorem rl53 : r_len 53 = 4 := rfl
theorem rl54 : r_len 54 = 256 := rfl
theorem rl55 : r_len 55 = 4 := rfl
theorem rl56 : r_len 56 = 4 := rfl
theorem rl57 : r_len 57 = 16800 := rfl
theorem rl58 : r_len 58 = 4 := rfl
theorem rl59 : r_len 59 = 4 := rfl
theorem rl63 : r_len 63 = 16 := rfl
theorem rl64 : r_len 64 = 512 := rfl
theorem rl67 : r_len 67 = 4200 := rfl
theorem rl68 : r_len 68 = 4200 := rfl
theorem rl69 : r_len 69 = 4200 := rfl
theorem rl70 : r_len 70 = 4200 := rfl
theorem rl71 : r_len 71 = 268800 := rfl
theorem rl73 : r_len 73 = 4096 := rfl
theorem rRL : (((((r_len 6 = 4096 ∧ (r_len 7 = 4 ∧ r_len 8 = 4)) ∧ ((r_len 9 = 4 ∧ r_len 10 = 4) ∧ (r_len 11 = 4 ∧ r_len 12 = 4))) ∧ ((r_len 15 = 16384 ∧ (r_len 16 = 128 ∧ r_len 17 = 4)) ∧ ((r_len 18 = 28 ∧ r_len 19 = 4) ∧ (r_len 20 = 4 ∧ r_len 21 = 4)))) ∧ (((r_len 22 = 4 ∧ (r_len 23 = 4 ∧ r_len 24 = 4)) ∧ ((r_len 25 = 4 ∧ r_len 26 = 4) ∧ (r_len 27 = 4 ∧ r_len 28 = 4))) ∧ (((r_len 29 = 4 ∧ r_len 30 = 4) ∧ (r_len 31 = 256 ∧ r_len 32 = 64)) ∧ ((r_len 33 = 4 ∧ r_len 34 = 16) ∧ (r_len 35 = 4 ∧ r_len 36 = 512))))) ∧ ((((r_len 37 = 4 ∧ (r_len 38 = 4 ∧ r_len 39 = 512)) ∧ ((r_len 40 = 512 ∧ r_len 41 = 512) ∧ (r_len 42 = 512 ∧ r_len 43 = 32768))) ∧ ((r_len 45 = 24000 ∧ (r_len 46 = 24000 ∧ r_len 47 = 24000)) ∧ ((r_len 48 = 24000 ∧ r_len 49 = 24000) ∧ (r_len 51 = 270000 ∧ r_len 52 = 256)))) ∧ (((r_len 53 = 4 ∧ (r_len 54 = 256 ∧ r_len 55 = 4)) ∧ ((r_len 56 = 4 ∧ r_len 57 = 16800) ∧ (r_len 58 = 4 ∧ r_len 59 = 4))) ∧ (((r_len 63 = 16 ∧ r_len 64 = 512) ∧ (r_len 67 = 4200 ∧ r_len 68 = 4200)) ∧ ((r_len 69 = 4200 ∧ r_len 70 = 4200) ∧ (r_len 71 = 268800 ∧ r_len 73 = 4096)))))) := ⟨⟨⟨⟨⟨rl6, ⟨rl7, rl8⟩⟩, ⟨⟨rl9, rl10⟩, ⟨rl11, rl12⟩⟩⟩, ⟨⟨rl15, ⟨rl16, rl17⟩⟩, ⟨⟨rl18, rl19⟩, ⟨rl20, rl21⟩⟩⟩⟩, ⟨⟨⟨rl22, ⟨rl23, rl24⟩⟩, ⟨⟨rl25, rl26⟩, ⟨rl27, rl28⟩⟩⟩, ⟨⟨⟨rl29, rl30⟩, ⟨rl31, rl32⟩⟩, ⟨⟨rl33, rl34⟩, ⟨rl35, rl36⟩⟩⟩⟩⟩, ⟨⟨⟨⟨rl37, ⟨rl38, rl39⟩⟩, ⟨⟨rl40, rl41⟩, ⟨rl42, rl43⟩⟩⟩, ⟨⟨rl45, ⟨rl46, rl47⟩⟩, ⟨⟨rl48, rl49⟩, ⟨rl51, rl52⟩⟩⟩⟩, ⟨⟨⟨rl53, ⟨rl54, rl55⟩⟩, ⟨⟨rl56, rl57⟩, ⟨rl58, rl59⟩⟩⟩, ⟨⟨⟨rl63, rl64⟩, ⟨rl67, rl68⟩⟩, ⟨⟨rl69, rl70⟩, ⟨rl71, rl73⟩⟩⟩⟩⟩⟩
theorem il1 : (1 : Int32) = nI 1 := rfl
theorem il2 : (2 : Int32) = nI 2 := rfl
theorem il3 : (3 : Int32) = nI 3 := rfl
theorem il4 : (4 : Int32) = nI 4 := rfl
theorem il7 : (7 : Int32) = nI 7 := rfl
theorem il8 : (8 : Int32) = nI 8 := rfl
theorem il16 : (16 : Int32) = nI 16 := rfl
theorem il32 : (32 : Int32) = nI 32 := rfl
theorem il64 : (64 : Int32) = nI 64 := rfl
theorem il128 : (128 : Int32) = nI 128 := rfl
theorem il256 : (256 : Int32) = nI 256 := rfl
theorem il4096 : (4096 : Int32) = nI 4096 := rfl
theorem il4200 : (4200 : Int32) = nI 4200 := rfl
theorem r_l3 {K : Nat} (hK : r_isA K = true) (h : Nat.ble (r_len K) 300000 = true) : r_len K < 2 ^ 31 := Nat.lt_of_le_of_lt (Nat.le_of_ble_eq_true h) (by decide)
theorem r_lens (K : Nat) : r_len K < 2 ^ 31 := by
  unfold r_len
  repeat (first | decide | (cases Nat.ble K _ <;> simp only [cond_true, cond_false]) | (rename_i q; cases q))
theorem g_il {G : xG} {ro : xR} {d M mc ms nx cs sl K N m : Nat} {ra : Nat → Nat} {σ : (Nat → Nat → Int32)} {τ : (Nat → Nat → Int64)} {h : xH} {lv : xL} {r : List Value} {Q : xQ} {e : Int32} (hR : RepR m ra σ τ h) (hK : r_isA K = true) (ht : r_ty K = 0) (he : e = nI N) (hN : N < r_len K) (k : G d M mc ms nx lv (.int (σ K N) :: r) h cs sl Q) : ∃ (n : Nat) (f : Nat → Int32), ((∃ t : Nat, h (ra K) = some (.inl (t, n, .inl f)) ∧ x_tys[t]? = some .int) ∨ ro (ra K) = some (n, f)) ∧ vp_in e n ∧ G d M mc ms nx lv (.int (f e.toNatClampNeg) :: r) h cs sl Q := by
  subst he
  have h3 := r_lens K
  have hc := hR.2.1 K hK
  simp only [r_cell, ht] at hc
  refine ⟨r_len K, σ K, Or.inl ⟨0, hc, rfl⟩, vp_in_nI hN h3, ?_⟩
  rw [nI_clamp (by omega)]
  exact k
theorem g_bl {G : xG} {d M mc ms nx cs sl K N m : Nat} {ra : Nat → Nat} {σ : (Nat → Nat → Int32)} {τ : (Nat → Nat → Int64)} {h : xH} {lv : xL} {r : List Value} {Q : xQ} {e : Int32} (hR : RepR m ra σ τ h) (hK : r_isA K = true) (ht : r_ty K = 1) (he : e = nI N) (hN : N < r_len K) (k : G d M mc ms nx lv (.int (σ K N) :: r) h cs sl Q) : ∃ (t n : Nat) (f : Nat → Int32), h (ra K) = some (.inl (t, n, .inl f)) ∧ (x_tys[t]? = some .byte ∨ x_tys[t]? = some .boolean) ∧ vp_in e n ∧ G d M mc ms nx lv (.int (f e.toNatClampNeg) :: r) h cs sl Q := by
  subst he
  have h3 := r_lens K
  have hc := hR.2.1 K hK
  simp only [r_cell, ht] at hc
  refine ⟨1, r_len K, σ K, hc, Or.inl rfl, vp_in_nI hN h3, ?_⟩
  rw [nI_clamp (by omega)]
  exact k
theorem g_ol {G : xG} {d M mc ms nx cs sl K N m : Nat} {ra : Nat → Nat} {σ : (Nat → Nat → Int32)} {τ : (Nat → Nat → Int64)} {h : xH} {lv : xL} {r : List Value} {Q : xQ} {e : Int32} (hR : RepR m ra σ τ h) (hK : r_isA K = true) (ht : r_ty K = 2) (he : e = nI N) (hN : N < r_len K) (k : G d M mc ms nx lv (.int (σ K N) :: r) h cs sl Q) : ∃ (t n : Nat) (f : Nat → Int32), h (ra K) = some (.inl (t, n, .inl f)) ∧ (x_tys[t]? = some .byte ∨ x_tys[t]? = some .boolean) ∧ vp_in e n ∧ G d M mc ms nx lv (.int (f e.toNatClampNeg) :: r) h cs sl Q := by
  subst he
  have h3 := r_lens K
  have hc := hR.2.1 K hK
  simp only [r_cell, ht] at hc
  refine ⟨2, r_len K, σ K, hc, Or.inr rfl, vp_in_nI hN h3, ?_⟩
  rw [nI_clamp (by omega)]
  exact k
theorem g_ll {G : xG} {d M mc ms nx cs sl K N m : Nat} {ra : Nat → Nat} {σ : (Nat → Nat → Int32)} {τ : (Nat → Nat → Int64)} {h : xH} {lv : xL} {r : List Value} {Q : xQ} {e : Int32} (hR : RepR m ra σ τ h) (hK : r_isA K = true) (ht : r_ty K = 3) (he : e = nI N) (hN : N < r_len K) (k : G d M mc ms nx lv (.long (τ K N) :: r) h cs sl Q) : ∃ (t n : Nat) (f : Nat → Int64), h (ra K) = some (.inl (t, n, .inr (.inl f))) ∧ x_tys[t]? = some .long ∧ vp_in e n ∧ G d M mc ms nx lv (.long (f e.toNatClampNeg) :: r) h cs sl Q := by
  subst he
  have h3 := r_lens K
  have hc := hR.2.1 K hK
  simp only [r_cell, ht] at hc
  refine ⟨3, r_len K, τ K, hc, rfl, vp_in_nI hN h3, ?_⟩
  rw [nI_clamp (by omega)]
  exact k
theorem g_is {G : xG} {d M mc ms nx cs sl K N m : Nat} {ra : Nat → Nat} {σ : (Nat → Nat → Int32)} {τ : (Nat → Nat → Int64)} {h : xH} {lv : xL} {r : List Value} {Q : xQ} {e x : Int32} (hR : RepR m ra σ τ h) (hK : r_isA K = true) (ht : r_ty K = 0) (he : e = nI N) (hN : N < r_len K) (k : ∀ h', RepR m ra (u2 σ K N x) τ h' → RF m ra h h' → G d M mc ms nx lv r h' cs sl Q) : ∃ (t n : Nat) (f : Nat → Int32), h (ra K) = some (.inl (t, n, .inl f)) ∧ x_tys[t]? = some .int ∧ vp_in e n ∧ ∀ h' : xH, h' = x_up h (ra K) (.inl (t, n, .inl (upd f e.toNatClampNeg x))) → G d M mc ms nx lv r h' cs sl Q := by
  subst he
  have h3 := r_lens K
  have hc := hR.2.1 K hK
  simp only [r_cell, ht] at hc
  refine ⟨0, r_len K, σ K, hc, rfl, vp_in_nI hN h3, fun h1 e1 => ?_⟩
  rw [nI_clamp (by omega)] at e1
  obtain ⟨q1, q2⟩ := r_seti (h' := h1) (K := K) (i := N) (v := x) hR hK (by rw [ht]; rfl) (by rw [ht]; exact e1)
  exact k h1 q1 q2
theorem g_bs {G : xG} {d M mc ms nx cs sl K N m : Nat} {ra : Nat → Nat} {σ : (Nat → Nat → Int32)} {τ : (Nat → Nat → Int64)} {h : xH} {lv : xL} {r : List Value} {Q : xQ} {e x : Int32} (hR : RepR m ra σ τ h) (hK : r_isA K = true) (ht : r_ty K = 1) (he : e = nI N) (hN : N < r_len K) (k : ∀ h', RepR m ra (u2 σ K N x.toInt8.toInt32) τ h' → RF m ra h h' → G d M mc ms nx lv r h' cs sl Q) : ∃ (t n : Nat) (f : Nat → Int32) (ty : FieldType), h (ra K) = some (.inl (t, n, .inl f)) ∧ x_tys[t]? = some ty ∧ (ty = .byte ∨ ty = .boolean) ∧ vp_in e n ∧ ∀ h' : xH, h' = x_up h (ra K) (.inl (t, n, .inl (upd f e.toNatClampNeg (vp_nar ty x)))) → G d M mc ms nx lv r h' cs sl Q := by
  subst he
  have h3 := r_lens K
  have hc := hR.2.1 K hK
  simp only [r_cell, ht] at hc
  refine ⟨1, r_len K, σ K, .byte, hc, rfl, Or.inl rfl, vp_in_nI hN h3, fun h1 e1 => ?_⟩
  rw [nI_clamp (by omega), vp_nar_byte] at e1
  obtain ⟨q1, q2⟩ := r_seti (h' := h1) (K := K) (i := N) (v := x.toInt8.toInt32) hR hK (by rw [ht]; rfl) (by rw [ht]; exact e1)
  exact k h1 q1 q2
theorem g_os {G : xG} {d M mc ms nx cs sl K N m : Nat} {ra : Nat → Nat} {σ : (Nat → Nat → Int32)} {τ : (Nat → Nat → Int64)} {h : xH} {lv : xL} {r : List Value} {Q : xQ} {e x : Int32} (hR : RepR m ra σ τ h) (hK : r_isA K = true) (ht : r_ty K = 2) (he : e = nI N) (hN : N < r_len K) (k : ∀ h', RepR m ra (u2 σ K N (vp_nar .boolean x)) τ h' → RF m ra h h' → G d M mc ms nx lv r h' cs sl Q) : ∃ (t n : Nat) (f : Nat → Int32) (ty : FieldType), h (ra K) = some (.inl (t, n, .inl f)) ∧ x_tys[t]? = some ty ∧ (ty = .byte ∨ ty = .boolean) ∧ vp_in e n ∧ ∀ h' : xH, h' = x_up h (ra K) (.inl (t, n, .inl (upd f e.toNatClampNeg (vp_nar ty x)))) → G d M mc ms nx lv r h' cs sl Q := by
  subst he
  have h3 := r_lens K
  have hc := hR.2.1 K hK
  simp only [r_cell, ht] at hc
  refine ⟨2, r_len K, σ K, .boolean, hc, rfl, Or.inr rfl, vp_in_nI hN h3, fun h1 e1 => ?_⟩
  rw [nI_clamp (by omega)] at e1
  obtain ⟨q1, q2⟩ := r_seti (h' := h1) (K := K) (i := N) (v := vp_nar .boolean x) hR hK (by rw [ht]; rfl) (by rw [ht]; exact e1)
  exact k h1 q1 q2
def t2 (τ : (Nat → Nat → Int64)) (k i : Nat) (v : Int64) : (Nat → Nat → Int64) := va_up τ k (vp_updL (τ k) i v)
theorem t2_ne {τ : (Nat → Nat → Int64)} {k j i : Nat} {v : Int64} (h : j ≠ k) : t2 τ k i v j = τ j := va_up_ne _ _ h
theorem t2_s {τ : (Nat → Nat → Int64)} {k i : Nat} {v : Int64} : t2 τ k i v k = vp_updL (τ k) i v := va_up_self _ _ _
theorem g_ls {G : xG} {d M mc ms nx cs sl K N m : Nat} {ra : Nat → Nat} {σ : (Nat → Nat → Int32)} {τ : (Nat → Nat → Int64)} {h : xH} {lv : xL} {r : List Value} {Q : xQ} {e : Int32} {x : Int64} (hR : RepR m ra σ τ h) (hK : r_isA K = true) (ht : r_ty K = 3) (he : e = nI N) (hN : N < r_len K) (k : ∀ h', RepR m ra σ (t2 τ K N x) h' → RF m ra h h' → G d M mc ms nx lv r h' cs sl Q) : ∃ (t n : Nat) (f : Nat → Int64), h (ra K) = some (.inl (t, n, .inr (.inl f))) ∧ x_tys[t]? = some .long ∧ vp_in e n ∧ ∀ h' : xH, h' = x_up h (ra K) (.inl (t, n, .inr (.inl (vp_updL f e.toNatClampNeg x)))) → G d M mc ms nx lv r h' cs sl Q := by
  subst he
  have h3 := r_lens K
  have hc := hR.2.1 K hK
  simp only [r_cell, ht] at hc
  refine ⟨3, r_len K, τ K, hc, rfl, vp_in_nI hN h3, fun h1 e1 => ?_⟩
  rw [nI_clamp (by omega)] at e1
  obtain ⟨q1, q2⟩ := r_setl (h' := h1) (K := K) (i := N) (v := x) hR hK (by rw [ht]; rfl) (by rw [ht]; exact e1)
  exact k h1 q1 q2
theorem g_ps {G : xG} {d M mc ms nx cs sl K m : Nat} {ra : Nat → Nat} {σ : (Nat → Nat → Int32)} {τ : (Nat → Nat → Int64)} {h : xH} {lv : xL} {r : List Value} {Q : xQ} {x : Int32} (hR : RepR m ra σ τ h) (hK : r_isA K = false) (hl : Nat.ble (K + 1) 75 = true) (ht : x_fty 12 K = .int) (k : ∀ h', RepR m ra (u2 σ K 0 x) τ h' → RF m ra h h' → G d M mc ms nx lv r h' cs sl Q) : ∃ fs : List Value, h m = some (.inr (12, fs)) ∧ K < fs.length ∧ narrow (x_fty 12 K) (.int x) = .int x ∧ fits (x_fty 12 K) (.int x) = true ∧ ∀ h' : xH, h' = x_up h m (.inr (12, fs.set K (.int x))) → G d M mc ms nx lv r h' cs sl Q := by
  refine ⟨_, hR.1, r_obl (Nat.le_of_ble_eq_true hl), by rw [ht]; rfl, by rw [ht]; rfl, fun h1 e1 => ?_⟩
  obtain ⟨q1, q2⟩ := r_sets (K := K) hR hK e1
  exact k h1 q1 q2
theorem g_p0 {G : xG} {d M mc ms nx cs sl K m : Nat} {ra : Nat → Nat} {σ : (Nat → Nat → Int32)} {τ : (Nat → Nat → Int64)} {h : xH} {lv : xL} {r : List Value} {Q : xQ} (hR : RepR m ra σ τ h) (hK : r_isA K = false) (hl : Nat.ble (K + 1) 75 = true) (ht : x_fty 12 K = .boolean) (k : ∀ h', RepR m ra (u2 σ K 0 0) τ h' → RF m ra h h' → G d M mc ms nx lv r h' cs sl Q) : ∃ fs : List Value, h m = some (.inr (12, fs)) ∧ K < fs.length ∧ narrow (x_fty 12 K) (.int 0) = .int 0 ∧ fits (x_fty 12 K) (.int 0) = true ∧ ∀ h' : xH, h' = x_up h m (.inr (12, fs.set K (.int 0))) → G d M mc ms nx lv r h' cs sl Q := by
  refine ⟨_, hR.1, r_obl (Nat.le_of_ble_eq_true hl), by rw [ht]; rfl, by rw [ht]; rfl, fun h1 e1 => ?_⟩
  obtain ⟨q1, q2⟩ := r_sets (K := K) hR hK e1
  exact k h1 q1 q2
theorem g_p1 {G : xG} {d M mc ms nx cs sl K m : Nat} {ra : Nat → Nat} {σ : (Nat → Nat → Int32)} {τ : (Nat → Nat → Int64)} {h : xH} {lv : xL} {r : List Value} {Q : xQ} (hR : RepR m ra σ τ h) (hK : r_isA K = false) (hl : Nat.ble (K + 1) 75 = true) (ht : x_fty 12 K = .boolean) (k : ∀ h', RepR m ra (u2 σ K 0 1) τ h' → RF m ra h h' → G d M mc ms nx lv r h' cs sl Q) : ∃ fs : List Value, h m = some (.inr (12, fs)) ∧ K < fs.length ∧ narrow (x_fty 12 K) (.int 1) = .int 1 ∧ fits (x_fty 12 K) (.int 1) = true ∧ ∀ h' : xH, h' = x_up h m (.inr (12, fs.set K (.int 1))) → G d M mc ms nx lv r h' cs sl Q := by
  refine ⟨_, hR.1, r_obl (Nat.le_of_ble_eq_true hl), by rw [ht]; rfl, by rw [ht]; rfl, fun h1 e1 => ?_⟩
  obtain ⟨q1, q2⟩ := r_sets (K := K) hR hK e1
  exact k h1 q1 q2
