theorem lv_pre {n pg rm c M E q j : Nat} {l : Nat → Nat} {s : (Nat → Nat → Int32)} {τ : (Nat → Nat → Int64)} (inv : INV n pg rm c M E q l s τ) (hc : c ≤ 4200) (hj : j < 4) (hk : 0 < cl (s 38 j)) : (s 39 (128 * j) = 0 ∨ s 39 (128 * j) = 1 ∨ s 39 (128 * j) = 2) ∧ (s 39 (128 * j) = 2 → s 27 j = 1 ∧ s 40 (128 * j) = s 28 j ∧ s 41 (128 * j) = s 29 j ∧ NW j s) := by
  have hH := inv.2.1 j hj
  obtain ⟨-, k3, -, k2⟩ := hH.1.2.2.2.2.2.2.2 0 hk
  rw [Nat.add_zero] at k3 k2
  refine ⟨k3, fun w => ?_⟩
  obtain ⟨a1, a2, a3, a4⟩ := k2 w
  refine ⟨a1, a2, a3, fun o o1 o2 o3 => ?_⟩
  obtain ⟨h, a, b1, b2, -, b4, b5, b6⟩ := inv.2.2.1.2.2 o o1 o2
  have eh : h = j := nIv_inj (b2.symm.trans o3.1) (by omega) (by omega)
  subst eh
  have hl10 := hH.2.2.2.2.1
  have ea : a = cl (s 10 h) := nIv_inj (by rw [← b4, o3.2]; exact hl10.1) (by have := hl10.2; omega) (by have := hl10.2; omega)
  have := (b6 ea).2.2.2.1
  omega
