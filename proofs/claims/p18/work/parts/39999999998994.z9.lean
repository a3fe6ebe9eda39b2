theorem drb_v {σ : (Nat → Nat → Int32)} {K : Nat} : ∀ n i, i < n → m_drb σ K n 43 (64 * K + i) = (σ 43 (64 * (K + 1) + i)).toInt8.toInt32
  | 0, i, h => absurd h (by omega)
  | n + 1, i, h => by
    unfold m_drb
    by_cases q : i = n
    · rw [q, u2_ss, show 64 * K + 64 + n = 64 * (K + 1) + n by omega]
    · rw [u2_sn (by omega)]; exact drb_v n i (by omega)
theorem drb_o {σ : (Nat → Nat → Int32)} {K x : Nat} : ∀ n, (x < 64 * K ∨ 64 * K + n ≤ x) → m_drb σ K n 43 x = σ 43 x
  | 0, _ => rfl
  | n + 1, h => by
    unfold m_drb
    rw [u2_sn (by omega)]; exact drb_o n (by omega)
theorem dr1_43 {σ : (Nat → Nat → Int32)} {K L i : Nat} (hi : i < 64) : m_dr1 σ K 43 (64 * L + i) = if L = K then (σ 43 (64 * (K + 1) + i)).toInt8.toInt32 else σ 43 (64 * L + i) := by
  unfold m_dr1
  by_cases q : L = K
  · subst q
    rw [if_pos rfl, drb_v 64 i hi, u2_ne (by decide), u2_ne (by decide), u2_ne (by decide), u2_ne (by decide)]
  · rw [if_neg q, drb_o 64 (by omega), u2_ne (by decide), u2_ne (by decide), u2_ne (by decide), u2_ne (by decide)]
theorem drl_43 {σ : (Nat → Nat → Int32)} {b i : Nat} (hi : i < 64) : ∀ n L, m_drl σ b n 43 (64 * L + i) = if b ≤ L ∧ L < b + n then (σ 43 (64 * (L + 1) + i)).toInt8.toInt32 else σ 43 (64 * L + i)
  | 0, L => by rw [if_neg (by omega)]; rfl
  | n + 1, L => by
    rw [m_drl, dr1_43 hi]
    by_cases hx : L = b + n
    · subst hx
      rw [if_pos rfl, drl_43 hi n, if_neg (by omega), if_pos (by omega)]
    · rw [if_neg hx, drl_43 hi n]
      by_cases h2 : b ≤ L ∧ L < b + n
      · rw [if_pos h2, if_pos (by omega)]
      · rw [if_neg h2, if_neg (by omega)]
theorem drop_43 {σ : (Nat → Nat → Int32)} {j k i x : Nat} (hx : x < 64) (hi : i < k) : m_drop σ j k 43 (64 * (128 * j + i) + x) = (σ 43 (64 * (128 * j + (i + 1)) + x)).toInt8.toInt32 := by
  unfold m_drop
  rw [drl_43 hx, if_pos (by omega), u2_ne (by decide), show 128 * j + i + 1 = 128 * j + (i + 1) by omega]
theorem RF3_sh {s s' u u' : (Nat → Nat → Int32)} {j m : Nat} (H : RF3 s u j) (g : gst s j) (hm : m ≤ cl (s 38 j)) (hk : cl (s 38 j) ≤ 100) (h112 : cl (u 112 j) ≤ 63) (u38 : u' 38 j = nI (cl (u 38 j) - m)) (u112 : u' 112 j = nI ((cl (u 112 j) + m) % 64)) (u117 : u' 117 = u 117) (s7 : s' 7 j = s 7 j) (s38 : s' 38 j = nI (cl (s 38 j) - m)) (s39 : ∀ i, i < cl (s 38 j) - m → s' 39 (128 * j + i) = s 39 (128 * j + (i + m))) (s31 : ∀ x, x < 64 → s' 31 (64 * j + x) = s 31 (64 * j + x)) (s43 : ∀ i x, i < cl (s 38 j) - m → x < 64 → s 39 (128 * j + (i + m)) = 2 → s' 43 (64 * (128 * j + i) + x) = s 43 (64 * (128 * j + (i + m)) + x)) : RF3 s' u' j := by
  obtain ⟨e38, ke⟩ := H.1 g
  refine ⟨fun _ => ⟨by rw [u38, s38, e38], fun i hi => ?_⟩, fun w => absurd (show gst s' j by unfold gst at g ⊢; rw [s7]; exact g) w⟩
  rw [s38, cl_nI (by omega)] at hi
  obtain ⟨k1, k2⟩ := ke (i + m) (by omega)
  have es : k_sl u' j i = k_sl u j (i + m) := by
    unfold k_sl
    rw [u112, cl_nI (by omega), show ((cl (u 112 j) + m) % 64 + i) % 64 = (cl (u 112 j) + (i + m)) % 64 by omega]
  refine ⟨by rw [es, u117, s39 i hi]; exact k1, fun q x hx => ?_⟩
  rw [s39 i hi] at q
  rw [s43 i x hi hx q, s31 x hx]; exact k2 q x hx
theorem RF3_1 {s u u' : (Nat → Nat → Int32)} {j k : Nat} (hby : BYa s) (H : RF3 s u j) (g : gst s j) (ek : cl (s 38 j) = k + 1) (hk : k ≤ 99) (h112 : cl (u 112 j) ≤ 63) (u38 : u' 38 j = nI (cl (u 38 j) - 1)) (u112 : u' 112 j = nI ((cl (u 112 j) + 1) % 64)) (u117 : u' 117 = u 117) : RF3 (m_drop s j k) u' j := by
  have ne : ∀ f, f < 38 → m_drop s j k f = s f := fun f hf => m_drop_ne (by omega) (by omega) (by omega) (by omega) (by omega) (by omega)
  refine RF3_sh (m := 1) H g (by omega) (by omega) h112 u38 u112 u117 (by rw [ne 7 (by decide)]) (by rw [m_drop_38, ek]; rfl) (fun i hi => ?_) (fun x _ => by rw [ne 31 (by decide)]) (fun i x hi hx q => ?_)
  · rw [m_drop_lo (by decide) (by omega)]; rfl
  · rw [drop_43 hx (by omega), ((H.1 g).2 (i + 1) (by omega)).2 q x hx]
    exact hby 31 _ (Or.inr (Or.inl rfl))
