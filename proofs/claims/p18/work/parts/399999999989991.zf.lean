theorem Hw_nf {pg c h : Nat} {s s' : (Nat → Nat → Int32)} (V : Hw pg c s h) (e : ∀ f, f = 4 ∨ (15 ≤ f ∧ f ≤ 38) ∨ (57 ≤ f ∧ f ≤ 59) → s' f = s f) : Hw pg c s' h := ⟨v_B_nf V.1 (fun f hf => e f (by omega)), CB_nf V.2.1 (fun f h1 h2 => e f (by omega)), by rw [e 38 (by omega)]; exact V.2.2⟩
theorem Hw_leave {pg c h j k : Nat} {s : (Nat → Nat → Int32)} (V : Hw pg c s h) (hk : k ≤ 100) : Hw pg c (m_leave s j k) h := by
  refine ⟨v_B_nf V.1 (fun f hf => leave_nf (by omega)), CB_nf V.2.1 (fun f h1 h2 => leave_nf (by omega)), ?_⟩
  by_cases x : h = j
  · subst x; rw [m_leave_38]; exact nb_n hk (by omega)
  · rw [(leave_sm (τ := fun _ _ => 0) (σ := s) (k := k) (by omega) x).f1 38 rfl]; exact V.2.2
theorem RR_upw {n pg rm c d : Nat} {z : CZ} {y : RZ} (H : RR n pg rm c z y) (hd : c ≤ d) : RR n pg rm d z y := ⟨H.1, H.2.1, H.2.2.1, H.2.2.2.1, EX_up H.2.2.2.2.1 hd, TK_nf H.2.2.2.2.2.1 hd (fun _ _ => rfl), H.2.2.2.2.2.2⟩
theorem lv_preH {S M c d j : Nat} {l : Nat → Nat} {s : (Nat → Nat → Int32)} {τ : (Nat → Nat → Int64)} (hH : HI S M l s τ j) (hl10 : nb (s 10 j) c) (hc : c ≤ 4200) (O : OI d l s) (hj : j < 4) (hk : 0 < cl (s 38 j)) : (s 39 (128 * j) = 0 ∨ s 39 (128 * j) = 1 ∨ s 39 (128 * j) = 2) ∧ (s 39 (128 * j) = 2 → s 27 j = 1 ∧ s 40 (128 * j) = s 28 j ∧ s 41 (128 * j) = s 29 j ∧ NW j s) := by
  obtain ⟨-, k3, -, k2⟩ := hH.2.2.2.2.2.2.2 0 hk
  rw [Nat.add_zero] at k3 k2
  refine ⟨k3, fun w => ?_⟩
  obtain ⟨a1, a2, a3, a4⟩ := k2 w
  refine ⟨a1, a2, a3, fun o o1 o2 o3 => ?_⟩
  obtain ⟨h, a, b1, b2, -, b4, b5, b6⟩ := O.2.2 o o1 o2
  have eh : h = j := nIv_inj (b2.symm.trans o3.1) (by omega) (by omega)
  subst eh
  have ea : a = cl (s 10 h) := nIv_inj (by rw [← b4, o3.2]; exact hl10.1) (by have := hl10.2; omega) (by have := hl10.2; omega)
  have := (b6 ea).2.2.2.1
  omega
def k_l1 (u : (Nat → Nat → Int32)) (j : Nat) : (Nat → Nat → Int32) := k_drop (k_lv u j (u 117 (k_sl u j 0)) (u 118 (k_sl u j 0)) (fun t => u 119 (32 * k_sl u j 0 + t))) j (cl (u 112 j)) (cl (u 38 j)) (k_gn 1 (cl (u 38 j)))
def k_ll (u : (Nat → Nat → Int32)) (j : Nat) : Nat → (Nat → Nat → Int32)
  | 0 => u
  | k + 1 => k_ll (k_l1 u j) j k
theorem RR_leave {n pg rm c d M j k : Nat} {l : Nat → Nat} {z : CZ} {y : RZ} (h112 : cl (z.1 112 j) ≤ 63) (hp16 : pg ≤ 16) (hn4 : n ≤ 4) (hc : c ≤ 512) (Vh : ∀ h, h < n → Hw pg c y.1 h) (H : RR n pg rm c z y) (hj : j < n) (g : gst y.1 j) (hI : HI (256 * pg) M l y.1 y.2 j) (h10 : nb (y.1 10 j) c) (O : OI d l y.1) (hd : d ≤ 4000) (ek : cl (y.1 38 j) = k + 1) : RR n pg rm c (k_l1 z.1 j, z.2) (m_leave y.1 j k, y.2) := by
  obtain ⟨k3, k2⟩ := lv_preH hI h10 (by omega) O (by omega) (by omega)
  have h100 := hI.2.2.2.2.2.2.1.2
  have ke := (((H.2.1 j hj).2.2.2.2.2.2.2.2.1 g).2 0 (by omega)).1
  rw [Nat.add_zero] at ke
  have hby : BYa y.1 := hI.1.2.2.2.2.2.2.2.2
  have R1 := RR_lv0 (kd := z.1 117 (k_sl z.1 j 0)) (ln := z.1 118 (k_sl z.1 j 0)) (gg := fun t => z.1 119 (32 * k_sl z.1 j 0 + t)) hp16 hn4 hc hby Vh H hj g (nb_up O.2.1 hd) O.1.2 (by omega) k3 k2 ke
  have nf : ∀ f, f < 66 → m_lv0 y.1 j f = y.1 f := fun f hf => m_lv0_ne (by omega) (by omega) (by omega) (by omega) (by omega) (by omega) (by omega) (by omega)
  have R2 := RR_drop1 (k := k) (y := (m_lv0 y.1 j, y.2)) (by show cl (k_lv z.1 j (z.1 117 (k_sl z.1 j 0)) (z.1 118 (k_sl z.1 j 0)) (fun t => z.1 119 (32 * k_sl z.1 j 0 + t)) 112 j) ≤ 63; rw [k_lv_ne (by decide) (by decide)]; exact h112) hp16 hn4 hc (fun f i hf => by show byt (m_lv0 y.1 j f i); rw [nf f (by omega)]; exact hby f i hf) (fun h hh => Hw_nf (Vh h hh) (fun f hf => nf f (by omega))) R1 hj (by show gst (m_lv0 y.1 j) j; unfold gst at g ⊢; rw [nf 7 (by omega)]; exact g) (by show cl (m_lv0 y.1 j 38 j) = _; rw [nf 38 (by omega)]; exact ek) (by omega)
  have e112 : k_lv z.1 j (z.1 117 (k_sl z.1 j 0)) (z.1 118 (k_sl z.1 j 0)) (fun t => z.1 119 (32 * k_sl z.1 j 0 + t)) 112 = z.1 112 := k_lv_ne (by decide) (by decide)
  have e38 : k_lv z.1 j (z.1 117 (k_sl z.1 j 0)) (z.1 118 (k_sl z.1 j 0)) (fun t => z.1 119 (32 * k_sl z.1 j 0 + t)) 38 = z.1 38 := k_lv_ne (by decide) (by decide)
  dsimp only at R2
  rw [e112, e38] at R2
  exact R2
theorem SC_l1 {n pg rm c j : Nat} {u : (Nat → Nat → Int32)} (hn : n ≤ 4) (h : SC n pg rm c u) (hj : j < n) : SC n pg rm c (k_l1 u j) := SC_drop hn (SC_lv hn h) (h.1.2.2.2.2 j hj).2.1.2
theorem RR_lall {n pg rm c M j : Nat} {l : Nat → Nat} {τ : (Nat → Nat → Int64)} (hp16 : pg ≤ 16) (hn4 : n ≤ 4) (hc : c ≤ 512) (hM : M < 2147480000) (hj : j < n) : ∀ (k : Nat) (z : CZ) (s : (Nat → Nat → Int32)), SC n pg rm c z.1 → (∀ h, h < n → Hw pg c s h) → RR n pg rm c z (s, τ) → s 7 j = 1 → HI (256 * pg) M l s τ j → nb (s 10 j) c → OI (c + 1) l s → OJ c j s → cl (s 38 j) = k → RR n pg rm c (k_ll z.1 j k, z.2) (m_lall s j k, τ)
  | 0, z, s, _, _, H, _, _, _, _, _, _ => H
  | k + 1, z, s, S, Vh, H, h7, hI, h10, O, oj, ek => by
    have h100 := hI.2.2.2.2.2.2.1.2
    have R := RR_leave (S.1.2.2.2.2 j hj).1.2 hp16 hn4 hc Vh H hj (Or.inl h7) hI h10 O (by omega) ek
    obtain ⟨p1, p2⟩ := lv_O hI ek h7 (by omega) (by omega) h10 O oj
    exact RR_lall hp16 hn4 hc hM hj k (k_l1 z.1 j, z.2) (m_leave s j k) (SC_l1 hn4 S hj) (fun h hh => Hw_leave (Vh h hh) (by omega)) R (by rw [leave_nf (by omega)]; exact h7) (HI_leave hI hM ek) (by rw [leave_nf (by omega)]; exact h10) p1 p2 (by rw [m_leave_38, cl_nI (by omega)])
def e2s (X Y : (Nat → Nat → Int32)) : Prop := ∀ F, F ≠ 38 → (F < 112 ∨ 119 < F) → X F = Y F
theorem u2_cg {X Y : (Nat → Nat → Int32)} {f i F : Nat} {v : Int32} (h : X F = Y F) : u2 X f i v F = u2 Y f i v F := by
  by_cases e : F = f
  · subst e
    funext x
    by_cases q : x = i
    · rw [q, u2_ss, u2_ss]
    · rw [u2_sn q, u2_sn q, h]
  · rw [u2_ne e, u2_ne e, h]
theorem cg_u2 {X Y : (Nat → Nat → Int32)} {f i : Nat} {v : Int32} (h : e2s X Y) : e2s (u2 X f i v) (u2 Y f i v) := fun F a b => u2_cg (h F a b)
theorem cg_out {X Y : (Nat → Nat → Int32)} {v : Int32} (h : e2s X Y) : e2s (m_outer X v) (m_outer Y v) := by
  unfold m_outer
  rw [h 72 (by decide) (by decide)]
  split
  · exact cg_u2 (cg_u2 h)
  · exact h
theorem cg_lvo {X Y : (Nat → Nat → Int32)} {g : Nat → Int32} (h : e2s X Y) : ∀ t, e2s (k_lvo X g t) (k_lvo Y g t)
  | 0 => h
  | t + 1 => cg_out (cg_lvo h t)
theorem cg_cp {X Y : (Nat → Nat → Int32)} {A a B b N : Nat} (h : e2s X Y) (h1 : A ≠ 38) (h2 : A < 112 ∨ 119 < A) : e2s (k_cp X A a B b N) (k_cp Y A a B b N) := fun F p q => by
  funext x
  unfold k_cp
  rw [h F p q, h A h1 h2]
theorem cg_dap {X Y : (Nat → Nat → Int32)} {j : Nat} (h : e2s X Y) : e2s (k_dap X j) (k_dap Y j) := by
  unfold k_dap k_dapp k_cpQ
  rw [h 125 (by decide) (by decide), h 124 (by decide) (by decide), h 111 (by decide) (by decide), h 10 (by decide) (by decide), h 28 (by decide) (by decide), h 29 (by decide) (by decide), h 30 (by decide) (by decide)]
  split
  · exact h
  · exact cg_u2 (cg_u2 (cg_u2 (cg_cp (cg_u2 (cg_u2 (cg_u2 h))) (by decide) (by decide))))
theorem cg_lv {X Y : (Nat → Nat → Int32)} {j : Nat} {kd ln : Int32} {g : Nat → Int32} (h : e2s X Y) : e2s (k_lv X j kd ln g) (k_lv Y j kd ln g) := by
  unfold k_lv k_lv1
  split
  · exact cg_dap h
  · split
    · exact cg_lvo (cg_out (cg_out h)) _
    · exact cg_lvo h _
theorem lv_drop {X : (Nat → Nat → Int32)} {j f c m : Nat} {kd ln : Int32} {g : Nat → Int32} : k_lv (k_drop X j f c m) j kd ln g = k_drop (k_lv X j kd ln g) j f c m := by
  funext F
  by_cases a : F = 38
  · subst a
    rw [k_lv_ne (by decide) (by decide)]
    unfold k_drop
    exact u2_cg (u2_cg (k_lv_ne (F := 38) (by decide) (by decide)).symm)
  · by_cases b : F = 112
    · subst b
      rw [k_lv_ne (by decide) (by decide)]
      unfold k_drop
      exact u2_cg (u2_cg (k_lv_ne (F := 112) (by decide) (by decide)).symm)
    · rw [k_drop_ne b a]
      by_cases d : F < 112 ∨ 119 < F
      · exact cg_lv (fun F p q => k_drop_ne (by omega) p) F a d
      · rw [k_lv_ne (by omega) (by omega), k_drop_ne b a, k_lv_ne (by omega) (by omega)]
theorem drop_0 {u : (Nat → Nat → Int32)} {j : Nat} (h112 : nb (u 112 j) 63) (h38 : nb (u 38 j) 1000) : k_drop u j (cl (u 112 j)) (cl (u 38 j)) 0 = u := by
  have b1 := h112.2
  unfold k_drop
  funext F x
  by_cases e : x = j
  · subst e
    by_cases a : F = 38
    · subst a; rw [u2_ss]; exact h38.1.symm
    · rw [u2_ne a]
      by_cases b : F = 112
      · subst b; rw [u2_ss, Nat.add_zero, Nat.mod_eq_of_lt (by omega)]; exact h112.1.symm
      · rw [u2_ne b]
  · rw [u2_x e, u2_x e]
theorem drop_drop {Y : (Nat → Nat → Int32)} {j f c m g : Nat} : k_drop (k_drop Y j f c m) j ((f + m) % 64) (c - m) g = k_drop Y j f c (m + g) := by
  unfold k_drop
  rw [show ((f + m) % 64 + g) % 64 = (f + (m + g)) % 64 by omega, show c - m - g = c - (m + g) by omega]
  funext F x
  by_cases e : x = j
  · subst e
    by_cases a : F = 38
    · subst a; rw [u2_ss, u2_ss]
    · rw [u2_ne a, u2_ne a]
      by_cases b : F = 112
      · subst b; rw [u2_ss, u2_ss]
      · rw [u2_ne b, u2_ne a, u2_ne b, u2_ne b]
  · rw [u2_x e, u2_x e, u2_x e, u2_x e, u2_x e, u2_x e]
theorem ll_e {u : (Nat → Nat → Int32)} {j f c : Nat} (hf : cl (u 112 j) = f) (hc : c ≤ 64) : ∀ k m, m + k = c → k_ll (k_drop (k_lvs u j m) j f c m) j k = k_drop (k_lvs u j c) j f c c
  | 0, m, h => by rw [show m = c by omega]; rfl
  | k + 1, m, h => by
    have ih := ll_e hf hc k (m + 1) (by omega)
    rw [← ih]
    refine congrArg (fun w => k_ll w j k) (?_ : k_l1 (k_drop (k_lvs u j m) j f c m) j = k_drop (k_lvs u j (m + 1)) j f c (m + 1))
    have c112 : cl (k_drop (k_lvs u j m) j f c m 112 j) = (f + m) % 64 := by unfold k_drop; rw [u2_ne (by decide), u2_ss, cl_nI (by omega)]
    have c38 : cl (k_drop (k_lvs u j m) j f c m 38 j) = c - m := by unfold k_drop; rw [u2_ss, cl_nI (by omega)]
    have es : k_sl (k_drop (k_lvs u j m) j f c m) j 0 = k_sl u j m := by unfold k_sl; rw [c112, hf]; omega
    have e7 : ∀ F, F = 117 ∨ F = 118 ∨ F = 119 → k_drop (k_lvs u j m) j f c m F = u F := fun F hF => by rw [k_drop_ne (by omega) (by omega), k_lvs_ne (by omega) (by omega)]
    have gn : k_gn 1 (c - m) = 1 := by
      unfold k_gn
      rw [if_neg (by decide), show cl (1 : Int32) = 1 from rfl]; omega
    unfold k_l1
    rw [c112, c38, gn, es, e7 117 (by omega), e7 118 (by omega), e7 119 (by omega), lv_drop, drop_drop]
    rfl
theorem la_ll {u : (Nat → Nat → Int32)} {j : Nat} (h112 : nb (u 112 j) 63) (h38 : nb (u 38 j) 64) : k_la u j = k_ll u j (cl (u 38 j)) := by
  have b1 := h112.2
  have b2 := h38.2
  have q := ll_e (u := u) (j := j) (c := cl (u 38 j)) rfl h38.2 (cl (u 38 j)) 0 (by omega)
  have e0 : k_drop (k_lvs u j 0) j (cl (u 112 j)) (cl (u 38 j)) 0 = u := by
    exact drop_0 h112 (nb_up h38 (by omega))
  rw [e0] at q
  rw [q]
  unfold k_la
  have gn : k_gn (nI (cl (u 38 j))) (cl (u 38 j)) = cl (u 38 j) := by
    unfold k_gn
    rw [if_neg (nI_pos (by omega)), cl_nI (by omega), Nat.min_self]
  rw [gn]
theorem RR_la {n pg rm c M j : Nat} {l : Nat → Nat} {z : CZ} {y : RZ} (hp16 : pg ≤ 16) (hn4 : n ≤ 4) (hc : c ≤ 512) (hM : M < 2147480000) (hj : j < n) (S : SC n pg rm c z.1) (Vh : ∀ h, h < n → Hw pg c y.1 h) (H : RR n pg rm c z y) (h7 : y.1 7 j = 1) (hI : HI (256 * pg) M l y.1 y.2 j) (h10 : nb (y.1 10 j) c) (O : OI (c + 1) l y.1) (oj : OJ c j y.1) : RR n pg rm c (k_la z.1 j, z.2) (m_lall y.1 j (cl (y.1 38 j)), y.2) := by
  have b := S.1.2.2.2.2 j hj
  have e38 : z.1 38 j = y.1 38 j := ((H.2.1 j hj).2.2.2.2.2.2.2.2.1 (Or.inl h7)).1
  rw [la_ll b.1 b.2.1, e38]
  exact RR_lall hp16 hn4 hc hM hj (cl (y.1 38 j)) z y.1 S Vh H h7 hI h10 O oj rfl
theorem Hw_lall {pg c h j : Nat} : ∀ k, k ≤ 100 → ∀ s, Hw pg c s h → Hw pg c (m_lall s j k) h
  | 0, _, _, V => V
  | k + 1, hk, s, V => Hw_lall k (by omega) (m_leave s j k) (Hw_leave V (by omega))
