def ER (σ : (Nat → Nat → Int32)) (τ : (Nat → Nat → Int64)) (e : Nat) (d : ED) : Prop := d.1 = nI ((cl (σ 45 e) + 1) % 5) ∧ (cl (σ 45 e) = 0 → d.2.1 = σ 51 (cl (σ 48 e)) &&& 255) ∧ (cl (σ 45 e) = 1 → (1 ≤ cl (σ 47 e) ∧ cl (σ 47 e) ≤ 32) ∧ ∃ f, d.2.2.1 = some (cl (σ 47 e), f) ∧ ∀ i, i < cl (σ 47 e) → f i = σ 51 (cl (σ 48 e) + i) ∧ byt (f i)) ∧ (cl (σ 45 e) = 3 → (cl (σ 47 e) = 64 → ∃ f, d.2.2.1 = some (64, f) ∧ ∀ i, i < 64 → f i = σ 51 (cl (σ 48 e) + i)) ∧ (¬ cl (σ 47 e) = 64 → d.2.2.1 = none)) ∧ (¬ cl (σ 45 e) = 1 → ¬ cl (σ 45 e) = 3 → d.2.2.1 = none) ∧ d.2.2.2.1 = τ 49 e ∧ d.2.2.2.2 = σ 46 e
theorem w_W_33 {pg j v : Nat} {u0 s u : (Nat → Nat → Int32)} (H : w_W pg j u0 s u) (hv : v < 2147483648) (hk : nb (u 101 j) 15 ∧ ∀ i, i < v → u 100 (16 * j + (cl (u 101 j) + i) % 16) = s 32 (16 * j + i)) : w_W pg j u0 (u2 s 33 j (nI v)) (u2 u 33 j (nI v)) := by
  obtain ⟨a, k, p, al, d, b, F⟩ := H
  refine ⟨?_, ?_, ?_, ?_, ?_, b.u2 (fun q => absurd q (by decide)), w_F_u F ⟨.inl ⟨by decide, by decide⟩, by show 1 * j ≤ j; omega, by show j < 1 * j + 1; omega⟩⟩
  · have := w_E_u (f := 33) (i := 0) (v := nI v) a
    rwa [show v_s 33 * j + 0 = j by show 1 * j + 0 = j; omega] at this
  · unfold w_K
    rw [u2_ss, cl_nI (by omega), u2_ne (by decide), u2_ne (by decide), u2_ne (by decide)]; exact hk
  · unfold w_P; rw [u2_ne (by decide), u2_ne (by decide), u2_ne (by decide), u2_ne (by decide), u2_ne (by decide), u2_ne (by decide)]; exact p
  · unfold w_A; rw [u2_ne (by decide), u2_ne (by decide)]; exact al
  · unfold w_D; rw [u2_ne (by decide), u2_ne (by decide), u2_ne (by decide)]; exact d
theorem w_evd {pg j A F : Nat} {u0 s u : (Nat → Nat → Int32)} {f : Nat → Int32} (H : w_W pg j u0 s u) (hp : pg ≤ 16) : ∀ z, A + z ≤ 256 * pg → (∀ i, i < z → f (0 + i) = s 51 (F + i)) → w_W pg j u0 (m_evd s j A F z) (k_wbl u j A 0 f z)
  | 0, _, _ => H
  | z + 1, h2, hf => w_write (w_evd (A := A) (F := F) (f := f) H hp z (by omega) (fun i hi => hf i (by omega))) (by omega) hp (hf z (by omega))
theorem evp_v {s : (Nat → Nat → Int32)} {j p F : Nat} : ∀ n t, t < n → m_evp s j p F n 36 (128 * j + 32 * p + t) = (s 51 (F + t)).toInt8.toInt32
  | 0, t, h => absurd h (by omega)
  | n + 1, t, h => by
    unfold m_evp
    by_cases e : t = n
    · subst e; rw [u2_ss]
    · rw [u2_sn (by omega)]; exact evp_v n t (by omega)
theorem evp_o {s : (Nat → Nat → Int32)} {j p F x : Nat} : ∀ n, n ≤ 32 → ¬ (128 * j + 32 * p ≤ x ∧ x < 128 * j + 32 * p + 32) → m_evp s j p F n 36 x = s 36 x
  | 0, _, _ => rfl
  | n + 1, h, hx => by unfold m_evp; rw [u2_sn (by omega), evp_o n (by omega) hx]
theorem w_ev {pg j e : Nat} {u0 s u : (Nat → Nat → Int32)} {τ : (Nat → Nat → Int64)} {d : ED} (H : w_W pg j u0 s u) (hB : v_B (256 * pg) j s) (hp : pg ≤ 16) (OK : EvOK s j e) (er : ER s τ e d) (h28 : cl (s 45 e) = 3 → s 28 j = 1 → cl (s 47 e) = 64) : w_W pg j u0 (m_ev s j e) (k_rcv u pg j d.1 d.2.1 d.2.2.1) := by
  obtain ⟨o1, o2, o3, o4, o5, o6, o7, o8, o9, o10⟩ := OK
  obtain ⟨r1, r2, r3, r4, r5, r6, r7⟩ := er
  have hS := hB.2.2.1
  have hk4 := o2.2
  unfold m_ev m_event k_rcv
  have hk : cl (s 45 e) = 0 ∨ cl (s 45 e) = 1 ∨ cl (s 45 e) = 2 ∨ cl (s 45 e) = 3 ∨ cl (s 45 e) = 4 := by omega
  rcases hk with k0 | k0 | k0 | k0 | k0
  · -- a key
    rw [k0] at r1
    rw [r1, if_pos k0, if_pos (show nI ((0 + 1) % 5) = 1 from rfl), w_g1 33 H.1 rfl, if_neg (by have := o7 k0; omega), r2 k0]
    have h16 := o7 k0
    have hkf := H.2.1.1.2
    have H1 : w_W pg j u0 (u2 s 32 (16 * j + cl (s 33 j)) (s 51 (cl (s 48 e)) &&& 255)) (u2 u 100 (16 * j + (cl (u 101 j) + cl (s 33 j)) % 16) (s 51 (cl (s 48 e)) &&& 255)) := by
      obtain ⟨a, k, p, al, dd, b, F⟩ := H
      refine ⟨?_, ?_, ?_, ?_, ?_, b.u2 (fun q => absurd q (by decide)), w_F_u F ⟨.inr ⟨by decide, by decide⟩, by show 16 * j ≤ _; omega, by show _ < 16 * j + 16; omega⟩⟩
      · intro f i hf hi h15
        have : f ≠ 32 ∧ f ≠ 100 := by constructor <;> (intro q; subst q; cases hf)
        rw [u2_ne this.1, u2_ne this.2]; exact a f i hf hi h15
      · unfold w_K
        rw [u2_ne (by decide), u2_ne (by decide)]
        refine ⟨k.1, fun i hi => ?_⟩
        rw [u2_sn (by omega), u2_sn (by omega)]; exact k.2 i hi
      · unfold w_P; rw [u2_ne (by decide), u2_ne (by decide), u2_ne (by decide), u2_ne (by decide), u2_ne (by decide), u2_ne (by decide)]; exact p
      · unfold w_A; rw [u2_ne (by decide), u2_ne (by decide)]; exact al
      · unfold w_D; rw [u2_ne (by decide), u2_ne (by decide), u2_ne (by decide)]; exact dd
    unfold k_appK
    rw [nIv_inc]
    have e101 : ∀ x w, u2 u 100 x w 101 = u 101 := fun x w => u2_ne (by decide)
    refine w_W_33 H1 (by omega) ⟨by rw [e101]; exact H.2.1.1, fun i hi => ?_⟩
    rw [e101]
    by_cases q : i = cl (s 33 j)
    · rw [q, u2_ss, u2_ss]
    · rw [u2_sn (by omega), u2_sn (by omega)]; exact H.2.1.2 i (by omega)
  · -- a packet
    rw [k0] at r1
    obtain ⟨⟨z1, z32⟩, f, ef, hf⟩ := r3 k0
    rw [r1, ef, if_neg (by omega), if_pos k0, if_neg (show ¬ nI ((1 + 1) % 5) = 1 by decide), if_pos (show nI ((1 + 1) % 5) = 2 from rfl)]
    dsimp only
    rw [w_g1 35 H.1 rfl, if_neg (by have := o9 k0; omega)]
    have h4 := o9 k0
    have hpf := H.2.2.1.1.2
    obtain ⟨a, k, p, al, dd, b, F⟩ := H
    have ns : ∀ g, g ≠ 34 → g ≠ 35 → g ≠ 36 → u2 (m_evp (u2 s 34 (4 * j + cl (s 35 j)) (nI (cl (s 47 e)))) j (cl (s 35 j)) (cl (s 48 e)) (cl (s 47 e))) 35 j (nI (cl (s 35 j)) + 1) g = s g := fun g h1 h2 h3 => by rw [u2_ne h2, m_evp_ne h3, u2_ne h1]
    have nu : ∀ g, g ≠ 35 → g ≠ 102 → g ≠ 103 → k_apP u j (cl (u 104 j)) (cl (s 35 j)) (cl (s 47 e)) f g = u g := fun g h1 h2 h3 => by unfold k_apP; rw [u2_ne h1]; funext x; unfold k_cx; rw [if_neg (fun q => h3 q.1), u2_ne h2]
    refine ⟨?_, ?_, ⟨?_, ?_⟩, ?_, ?_, ?_, ?_⟩
    · intro g i hg hi h15
      have h0 : g ≠ 34 ∧ g ≠ 36 ∧ g ≠ 102 ∧ g ≠ 103 := by refine ⟨?_, ?_, ?_, ?_⟩ <;> (intro q; subst q; cases hg)
      by_cases q : g = 35
      · subst q
        have hi : i < 1 := hi
        have : i = 0 := by omega
        subst this
        unfold k_apP
        rw [show v_s 35 * j + 0 = j by show 1 * j + 0 = j; omega, u2_ss, u2_ss]
      · rw [ns g h0.1 q h0.2.1, nu g q h0.2.2.1 h0.2.2.2]; exact a g i hg hi h15
    · unfold w_K; rw [ns 33 (by decide) (by decide) (by decide), ns 32 (by decide) (by decide) (by decide), nu 101 (by decide) (by decide) (by decide), nu 100 (by decide) (by decide) (by decide)]; exact k
    · rw [nu 104 (by decide) (by decide) (by decide)]; exact p.1
    · rw [u2_ss, nIv_inc, cl_nI (by omega)]
      intro i hi
      rw [nu 104 (by decide) (by decide) (by decide)]
      have m4 : (cl (u 104 j) + cl (s 35 j)) % 4 < 4 := Nat.mod_lt _ (by decide)
      by_cases q : i = cl (s 35 j)
      · subst q
        have e34 : u2 (m_evp (u2 s 34 (4 * j + cl (s 35 j)) (nI (cl (s 47 e)))) j (cl (s 35 j)) (cl (s 48 e)) (cl (s 47 e))) 35 j (nI (cl (s 35 j) + 1)) 34 (4 * j + cl (s 35 j)) = nI (cl (s 47 e)) := by rw [u2_ne (by decide), m_evp_ne (by decide), u2_ss]
        rw [e34, cl_nI (by omega)]
        unfold k_apP
        refine ⟨?_, z1, fun t ht => ?_⟩
        · rw [u2_ne (by decide)]; unfold k_cx; rw [if_neg (by omega), u2_ss]
        · rw [u2_ne (by decide), u2_ne (by decide), show 128 * j + (32 * cl (s 35 j) + t) = 128 * j + 32 * cl (s 35 j) + t by omega, evp_v _ t ht, u2_ne (by decide)]
          unfold k_cx
          rw [if_pos ⟨rfl, by omega, by omega⟩]
          have := hf t ht
          rw [show 0 + (128 * j + (32 * ((cl (u 104 j) + cl (s 35 j)) % 4) + t) - (128 * j + 32 * ((cl (u 104 j) + cl (s 35 j)) % 4))) = t by omega, this.1]
          have hb := this.2
          rw [this.1] at hb
          exact hb.symm
      · obtain ⟨g1, g2, g3⟩ := p.2 i (by omega)
        have m4' : (cl (u 104 j) + i) % 4 ≠ (cl (u 104 j) + cl (s 35 j)) % 4 := by omega
        have m4i : (cl (u 104 j) + i) % 4 < 4 := Nat.mod_lt _ (by decide)
        have e34 : u2 (m_evp (u2 s 34 (4 * j + cl (s 35 j)) (nI (cl (s 47 e)))) j (cl (s 35 j)) (cl (s 48 e)) (cl (s 47 e))) 35 j (nI (cl (s 35 j) + 1)) 34 (4 * j + i) = s 34 (4 * j + i) := by rw [u2_ne (by decide), m_evp_ne (by decide), u2_sn (by omega)]
        have s32 : cl (s 34 (4 * j + i)) ≤ 32 := (hB.2.2.2.2.2.1 i (by omega)).2
        rw [e34]
        unfold k_apP
        refine ⟨?_, g2, fun t ht => ?_⟩
        · rw [u2_ne (by decide)]; unfold k_cx; rw [if_neg (by omega), u2_sn (by omega)]; exact g1
        · rw [u2_ne (by decide), u2_ne (by decide), evp_o _ (by omega) (by omega), u2_ne (by decide)]
          unfold k_cx
          rw [if_neg (by omega), u2_ne (by decide)]
          exact g3 t ht
    · unfold w_A; rw [ns 17 (by decide) (by decide) (by decide), ns 18 (by decide) (by decide) (by decide)]; exact al
    · unfold w_D; rw [ns 61 (by decide) (by decide) (by decide), ns 63 (by decide) (by decide) (by decide), nu 105 (by decide) (by decide) (by decide)]; exact dd
    · unfold k_apP
      refine BY.u2 ?_ (fun q => absurd q (by decide))
      intro G x hG
      unfold k_cx
      by_cases q : G = 103 ∧ 128 * j + 32 * ((cl (u 104 j) + cl (s 35 j)) % 4) ≤ x ∧ x < 128 * j + 32 * ((cl (u 104 j) + cl (s 35 j)) % 4) + cl (s 47 e)
      · rw [if_pos q]; exact (hf _ (by omega)).2
      · rw [if_neg q]; exact (b.u2 (i := 4 * j + (cl (u 104 j) + cl (s 35 j)) % 4) (v := nI (cl (s 47 e))) (fun q => absurd q (by decide))) G x hG
    · have m4 : (cl (u 104 j) + cl (s 35 j)) % 4 < 4 := Nat.mod_lt _ (by decide)
      unfold k_apP
      refine w_F_u ?_ ⟨.inl ⟨by decide, by decide⟩, by show 1 * j ≤ j; omega, by show j < 1 * j + 1; omega⟩
      intro G x
      by_cases q : G = 103 ∧ 128 * j + 32 * ((cl (u 104 j) + cl (s 35 j)) % 4) ≤ x ∧ x < 128 * j + 32 * ((cl (u 104 j) + cl (s 35 j)) % 4) + cl (s 47 e)
      · right; rw [q.1]; exact ⟨.inr ⟨by decide, by decide⟩, by show 128 * j ≤ x; omega, by show x < 128 * j + 128; omega⟩
      · unfold k_cx; rw [if_neg q]
        exact w_F_u (v := nI (cl (s 47 e))) F (f := 102) (i := 4 * j + (cl (u 104 j) + cl (s 35 j)) % 4) ⟨.inr ⟨by decide, by decide⟩, by show 4 * j ≤ _; omega, by show _ < 4 * j + 4; omega⟩ G x
  · -- a tick
    rw [k0] at r1
    rw [r1, if_neg (by omega), if_neg (by omega), if_pos k0, if_neg (show ¬ nI ((2 + 1) % 5) = 1 by decide), if_neg (show ¬ nI ((2 + 1) % 5) = 2 by decide), if_pos (show nI ((2 + 1) % 5) = 3 from rfl)]
    exact w_W_1 21 H rfl (by rw [w_g1 21 H.1 rfl])
  · -- the disk
    rw [k0] at r1
    obtain ⟨q1, q2⟩ := r4 k0
    rw [r1, if_neg (by omega), if_neg (by omega), if_neg (by omega), if_pos k0, if_neg (show ¬ nI ((3 + 1) % 5) = 1 by decide), if_neg (show ¬ nI ((3 + 1) % 5) = 2 by decide), if_neg (show ¬ nI ((3 + 1) % 5) = 3 by decide), if_pos (show nI ((3 + 1) % 5) = 4 from rfl)]
    have H1 := w_W_1 27 (v := 2) (w := 2) H rfl rfl
    by_cases h64 : cl (s 47 e) = 64
    · obtain ⟨f, ef, hf⟩ := q1 h64
      rw [ef]
      show w_W pg j u0 _ (k_fin u pg j f)
      unfold k_fin
      have hin : k_in pg (u 30 j) 64 = true := by
        rw [w_g1 30 H.1 rfl]
        have n30 := hB.2.2.2.2.2.2.1
        have h2 := n30.2
        have h1 := hB.2.1
        unfold k_in
        refine decide_eq_true ⟨?_, ?_⟩
        · rw [n30.1]; exact (nIv_le (a := 0) (by omega) (by omega)).mpr (by omega)
        · rw [n30.1]
          have : nI (256 * pg) - 64 = nI (256 * pg - 64) := by
            have := nI_sub1 (256 * pg - 64) 64
            rw [show 256 * pg - 64 + 64 = 256 * pg by omega] at this
            exact this
          rw [this]; exact (nIv_le (by omega) (by omega)).mpr h2
      by_cases e28 : s 28 j = 1
      · rw [if_pos e28, if_pos ⟨by rw [w_g1 28 H.1 rfl]; exact e28, hin⟩, w_g1 30 H.1 rfl]
        have n30 := hB.2.2.2.2.2.2.1.2
        refine w_evd H1 hp 64 (by have := hB.2.1; omega) (fun i hi => ?_)
        rw [Nat.zero_add, u2_ne (by decide)]; exact hf i hi
      · rw [if_neg e28, if_neg (fun q => e28 (by rw [← w_g1 28 H.1 rfl]; exact q.1))]; exact H1
    · rw [q2 h64]
      have : ¬ s 28 j = 1 := fun q => h64 (h28 k0 q)
      rw [if_neg this]; exact H1
  · -- that something was put out
    rw [k0] at r1
    rw [r1, if_neg (by omega), if_neg (by omega), if_neg (by omega), if_neg (by omega), if_neg (show ¬ nI ((4 + 1) % 5) = 1 by decide), if_neg (show ¬ nI ((4 + 1) % 5) = 2 by decide), if_neg (show ¬ nI ((4 + 1) % 5) = 3 by decide), if_neg (show ¬ nI ((4 + 1) % 5) = 4 by decide)]
    exact H
