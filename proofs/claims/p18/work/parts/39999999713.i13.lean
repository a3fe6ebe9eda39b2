theorem nIv_le {a b : Nat} (ha : a < 2147483648) (hb : b < 2147483648) : nI a ≤ nI b ↔ a ≤ b := by
  unfold nI
  rw [Int32.le_iff_toInt_le, Int32.toInt_ofNat_of_lt ha, Int32.toInt_ofNat_of_lt hb]; omega
theorem drop_sm {j h k : Nat} {σ : (Nat → Nat → Int32)} {τ υ : (Nat → Nat → Int64)} (hk : k ≤ 128) (e : h ≠ j) (ht : υ 19 h = τ 19 h) : Sm h σ (m_drop σ j k) τ υ := by
  refine ⟨?_, ht⟩
  intro f i hf hi
  unfold h_f at hf
  have hf := of_decide_eq_true hf
  by_cases e38 : f = 38
  · subst e38
    have hi : i < 1 := hi
    have : i = 0 := by omega
    subst this
    unfold m_drop
    rw [m_drl_ne (by decide) (by decide) (by decide) (by decide) (by decide), show h_s 38 = 1 from rfl, Nat.one_mul, Nat.add_zero, u2_sn e]
  by_cases e39 : 39 ≤ f ∧ f ≤ 42
  · have es : h_s f = 128 := by
      have : f = 39 ∨ f = 40 ∨ f = 41 ∨ f = 42 := by omega
      rcases this with e | e | e | e <;> (subst e; rfl)
    rw [es] at hi ⊢
    unfold m_drop
    rw [m_drl_lo (by omega), if_neg (by omega), u2_ne e38]
  · rw [m_drop_ne e38 (by omega) (by omega) (by omega) (by omega) (by omega)]
theorem drs_sp {L : Int32} {j : Nat} : ∀ (k : Nat) (σ : (Nat → Nat → Int32)), σ 38 j = nI k → k ≤ 128 → ∃ k', k' ≤ k ∧ m_drs L j k σ 38 j = nI k' ∧ (∀ F i, 39 ≤ F → F ≤ 42 → i < k' → m_drs L j k σ F (128 * j + i) = σ F (128 * j + (i + (k - k')))) ∧ (0 < k' → ¬ m_drs L j k σ 42 (128 * j) ≤ L) ∧ (∀ h, h ≠ j → ∀ τ : (Nat → Nat → Int64), Sm h σ (m_drs L j k σ) τ τ)
  | 0, σ, h, _ => ⟨0, Nat.le_refl _, h, fun _ _ _ _ hi => absurd hi (by omega), fun h => absurd h (by omega), fun _ _ _ => Sm.rf⟩
  | k + 1, σ, h, hk => by
    unfold m_drs
    by_cases e : σ 42 (128 * j) ≤ L
    · rw [if_pos e]
      obtain ⟨k', q1, q2, q3, q4, q5⟩ := drs_sp (L := L) (j := j) k (m_drop σ j k) m_drop_38 (by omega)
      refine ⟨k', by omega, q2, ?_, q4, fun h hh τ => (drop_sm (υ := τ) (by omega) hh rfl).tr (q5 h hh τ)⟩
      intro F i h1 h2 hi
      rw [q3 F i h1 h2 hi, m_drop_lo (by omega) (by omega)]
      congr 1; omega
    · rw [if_neg e]
      exact ⟨k + 1, Nat.le_refl _, h, fun F i _ _ _ => by congr 1; omega, fun _ => e, fun _ _ _ => Sm.rf⟩
