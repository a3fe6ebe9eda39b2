def m_jto (w : Int32) : Int32 := m_sl (m_sr w 31) 20 ||| (w &&& 1044480) ||| (m_sr w 9 &&& 2048) ||| (m_sr w 20 &&& 2046)
def m_ra (σ : (Nat → Nat → Int32)) (j : Nat) (w : Int32) : Int32 := σ 16 (32 * j + m_n5 (m_sr w 15))
def m_rb (σ : (Nat → Nat → Int32)) (j : Nat) (w : Int32) : Int32 := σ 16 (32 * j + m_n5 (m_sr w 20))
def m_rd (w : Int32) : Nat := m_n5 (m_sr w 7)
def m_op (σ : (Nat → Nat → Int32)) (τ : (Nat → Nat → Int64)) (j : Nat) (w : Int32) : (Nat → Nat → Int32) :=
  if w &&& 127 = 55 then m_goesOn σ j (m_rd w) (w &&& -4096)
  else if w &&& 127 = 23 then m_goesOn σ j (m_rd w) (σ 17 j + (w &&& -4096))
  else if w &&& 127 = 111 then m_jumps σ j (m_rd w) (σ 17 j + m_jto w)
  else if w &&& 127 = 103 then (if m_f3 w = 0 then m_jumps σ j (m_rd w) ((m_ra σ j w + m_sr w 20) &&& -2) else m_trap σ j 2 w)
  else if w &&& 127 = 99 then m_branch σ j w (m_ra σ j w) (m_rb σ j w)
  else if w &&& 127 = 3 then m_loads σ j (σ 33 j).toNatClampNeg w (m_ra σ j w + m_sr w 20)
  else if w &&& 127 = 35 then m_stores σ j (σ 38 j).toNatClampNeg (σ 35 j).toNatClampNeg (σ 34 (4 * j)).toNatClampNeg w (m_ra σ j w + (m_sl (m_sr w 25) 5 ||| nI (m_rd w))) (m_rb σ j w)
  else if w &&& 127 = 19 then m_reckons σ j w (m_ra σ j w) (m_sr w 20) true
  else if w &&& 127 = 51 then m_reckons σ j w (m_ra σ j w) (m_rb σ j w) false
  else if w &&& 127 = 15 then u2 σ 17 j (σ 17 j + 4)
  else if w &&& 127 = 115 then m_system σ τ j w (m_ra σ j w)
  else m_trap σ j 2 w
def m_exec (σ : (Nat → Nat → Int32)) (τ : (Nat → Nat → Int64)) (j : Nat) : (Nat → Nat → Int32) := if 0 ≤ σ 17 j ∧ σ 17 j ≤ σ 4 0 - 4 then m_op σ τ j (m_word σ j (σ 17 j).toNatClampNeg) else m_trap σ j 1 (σ 17 j)
theorem rr_carryOut {G : xG} {ro : xR} {sv : Nat → Value} (hG : x_Good G ro sv) {d m j q k p z S : Nat} {ra : Nat → Nat} {σ : Nat → Nat → Int32} {τ : Nat → Nat → Int64} {h : xH} {Q : xQ} (hR : RepR m ra σ τ h) (hj : j < 4) (hq : σ 33 j = nI q) (hql : q ≤ 16) (hk : σ 38 j = nI k) (hkl : k < 128) (hp : σ 35 j = nI p) (hpl : p ≤ 4) (hz : σ 34 (4 * j) = nI z) (hzl : z ≤ 32) (hs : σ 4 0 = nI S) (hS : S ≤ 4096) (hS4 : 64 ≤ S) (hQ : ∀ h', RepR m ra (m_exec σ τ j) τ h' → RF m ra h h' → Q none h') : G (d + 4) n_X12_carryOut 0 0 0 [(0, .ref m), (1, .int (nI j))] [] h 0 0 Q := by
  have fR : RF m ra h h := RF.rf
  repeat (first | refine hG _ _ _ _ _ _ _ _ _ _ _ ?_ | ((conv => whnf); first | (refine ⟨_, _, hR.1, r_at (by decide), ?_⟩; (try simp (disch := first | decide | omega) only [u2_ne, u2_ss, u2_sn])) | (refine g_il hR rfl rfl (by first | with_reducible exact Eq.refl (nI _) | (simp (disch := first | decide | omega) only [pk_mul, nI_add, il1, il2, il3, il4, il7, il8, il16, il32, il64, il128, il256, il4096, il4200, u2_ne, u2_ss, u2_sn]; with_reducible exact Eq.refl (nI _))) (by simp only [rRL]; omega) ?_; (try simp (disch := first | decide | omega) only [u2_ne, u2_ss, u2_sn])) | (refine g_bl hR rfl rfl (by first | with_reducible exact Eq.refl (nI _) | (simp (disch := first | decide | omega) only [pk_mul, nI_add, il1, il2, il3, il4, il7, il8, il16, il32, il64, il128, il256, il4096, il4200, u2_ne, u2_ss, u2_sn]; with_reducible exact Eq.refl (nI _))) (by simp only [rRL]; omega) ?_; (try simp (disch := first | decide | omega) only [u2_ne, u2_ss, u2_sn])) | (refine g_ol hR rfl rfl (by first | with_reducible exact Eq.refl (nI _) | (simp (disch := first | decide | omega) only [pk_mul, nI_add, il1, il2, il3, il4, il7, il8, il16, il32, il64, il128, il256, il4096, il4200, u2_ne, u2_ss, u2_sn]; with_reducible exact Eq.refl (nI _))) (by simp only [rRL]; omega) ?_; (try simp (disch := first | decide | omega) only [u2_ne, u2_ss, u2_sn])) | (refine g_ll hR rfl rfl (by first | with_reducible exact Eq.refl (nI _) | (simp (disch := first | decide | omega) only [pk_mul, nI_add, il1, il2, il3, il4, il7, il8, il16, il32, il64, il128, il256, il4096, il4200, u2_ne, u2_ss, u2_sn]; with_reducible exact Eq.refl (nI _))) (by simp only [rRL]; omega) ?_; (try simp (disch := first | decide | omega) only [u2_ne, u2_ss, u2_sn])) | (refine g_is hR rfl rfl (by first | with_reducible exact Eq.refl (nI _) | (simp (disch := first | decide | omega) only [pk_mul, nI_add, il1, il2, il3, il4, il7, il8, il16, il32, il64, il128, il256, il4096, il4200, u2_ne, u2_ss, u2_sn]; with_reducible exact Eq.refl (nI _))) (by simp only [rRL]; omega) ?_; intro hX hR fX; have fR := RF.tr fR fX; clear fX) | (refine g_bs hR rfl rfl (by first | with_reducible exact Eq.refl (nI _) | (simp (disch := first | decide | omega) only [pk_mul, nI_add, il1, il2, il3, il4, il7, il8, il16, il32, il64, il128, il256, il4096, il4200, u2_ne, u2_ss, u2_sn]; with_reducible exact Eq.refl (nI _))) (by simp only [rRL]; omega) ?_; intro hX hR fX; have fR := RF.tr fR fX; clear fX) | (refine g_os hR rfl rfl (by first | with_reducible exact Eq.refl (nI _) | (simp (disch := first | decide | omega) only [pk_mul, nI_add, il1, il2, il3, il4, il7, il8, il16, il32, il64, il128, il256, il4096, il4200, u2_ne, u2_ss, u2_sn]; with_reducible exact Eq.refl (nI _))) (by simp only [rRL]; omega) ?_; intro hX hR fX; have fR := RF.tr fR fX; clear fX) | (refine g_ls hR rfl rfl (by first | with_reducible exact Eq.refl (nI _) | (simp (disch := first | decide | omega) only [pk_mul, nI_add, il1, il2, il3, il4, il7, il8, il16, il32, il64, il128, il256, il4096, il4200, u2_ne, u2_ss, u2_sn]; with_reducible exact Eq.refl (nI _))) (by simp only [rRL]; omega) ?_; intro hX hR fX; have fR := RF.tr fR fX; clear fX) | (refine g_ps hR rfl rfl rfl ?_; intro hX hR fX; have fR := RF.tr fR fX; clear fX) | (refine g_p0 hR rfl rfl rfl ?_; intro hX hR fX; have fR := RF.tr fR fX; clear fX) | (refine g_p1 hR rfl rfl rfl ?_; intro hX hR fX; have fR := RF.tr fR fX; clear fX)))
  refine ⟨⟨_, hR.1⟩, 0, 0, by decide, by decide, rr_isIn hG hR ?_⟩
  by_cases hi : 0 ≤ σ 17 j ∧ σ 17 j ≤ σ 4 0 - 4
  · rw [if_pos hi]
    obtain ⟨A, eA, lA⟩ := m_inN (n := 4) hs hS (by omega) hi.1 hi.2
    have cA : (σ 17 j).toNatClampNeg = A := by rw [eA]; exact nI_clamp (by omega)
    rw [m_exec, if_pos hi, cA] at hQ
    repeat refine hG _ _ _ _ _ _ _ _ _ _ _ ?_
    refine ⟨fun _ => ?_, fun y => absurd y (by decide)⟩
    repeat refine hG _ _ _ _ _ _ _ _ _ _ _ ?_
    rw [eA]
    refine ⟨⟨_, hR.1⟩, 0, 0, by decide, by decide, rr_word hG (a := A) hR hj (by omega) ?_⟩
    generalize m_word σ j A = w at hQ
    repeat refine hG _ _ _ _ _ _ _ _ _ _ _ ?_
    rw [m_n5_e (w >>> (15 &&& 31))]
    refine ⟨⟨_, hR.1⟩, 0, 0, by decide, by decide, rr_get hG hR hj (m_n5_lt _) ?_⟩
    repeat refine hG _ _ _ _ _ _ _ _ _ _ _ ?_
    rw [m_n5_e (w >>> (20 &&& 31))]
    refine ⟨⟨_, hR.1⟩, 0, 0, by decide, by decide, rr_get hG hR hj (m_n5_lt _) ?_⟩
    rw [← eA] at *
    have cq : (σ 33 j).toNatClampNeg = q := by rw [hq]; exact nI_clamp (by omega)
    have ck : (σ 38 j).toNatClampNeg = k := by rw [hk]; exact nI_clamp (by omega)
    have cp : (σ 35 j).toNatClampNeg = p := by rw [hp]; exact nI_clamp (by omega)
    have cz : (σ 34 (4 * j)).toNatClampNeg = z := by rw [hz]; exact nI_clamp (by omega)
    repeat refine hG _ _ _ _ _ _ _ _ _ _ _ ?_
    by_cases e55 : w &&& 127 = 55
    · rw [m_op, if_pos e55] at hQ
      refine ⟨180, by rw [e55]; decide, ?_⟩
      repeat refine hG _ _ _ _ _ _ _ _ _ _ _ ?_
      rw [m_n5_e (w >>> (7 &&& 31))]
      refine ⟨⟨_, hR.1⟩, 0, 0, by decide, by decide, rr_goesOn hG hR hj (m_n5_lt _) (fun h1 hR1 f1 => ?_)⟩
      repeat refine hG _ _ _ _ _ _ _ _ _ _ _ ?_
      exact ⟨by decide, by decide, hQ h1 hR1 f1⟩
    by_cases e23 : w &&& 127 = 23
    · rw [m_op, if_neg e55, if_pos e23] at hQ
      refine ⟨195, by rw [e23]; decide, ?_⟩
      repeat refine hG _ _ _ _ _ _ _ _ _ _ _ ?_
      rw [m_n5_e (w >>> (7 &&& 31))]
      refine ⟨⟨_, hR.1⟩, 0, 0, by decide, by decide, rr_goesOn hG hR hj (m_n5_lt _) (fun h1 hR1 f1 => ?_)⟩
      repeat refine hG _ _ _ _ _ _ _ _ _ _ _ ?_
      exact ⟨by decide, by decide, hQ h1 hR1 f1⟩
    by_cases e111 : w &&& 127 = 111
    · rw [m_op, if_neg e55, if_neg e23, if_pos e111] at hQ
      refine ⟨212, by rw [e111]; decide, ?_⟩
      repeat refine hG _ _ _ _ _ _ _ _ _ _ _ ?_
      rw [m_n5_e (w >>> (7 &&& 31))]
      refine ⟨⟨_, hR.1⟩, 0, 0, by decide, by decide, rr_jumps hG hR hj (m_n5_lt _) (fun h1 hR1 f1 => ?_)⟩
      repeat refine hG _ _ _ _ _ _ _ _ _ _ _ ?_
      exact ⟨by decide, by decide, hQ h1 hR1 f1⟩
    by_cases e103 : w &&& 127 = 103
    · rw [m_op, if_neg e55, if_neg e23, if_neg e111, if_pos e103] at hQ
      refine ⟨255, by rw [e103]; decide, ?_⟩
      repeat refine hG _ _ _ _ _ _ _ _ _ _ _ ?_
      refine ⟨fun y => ?_, fun y => ?_⟩
      · rw [if_neg y] at hQ
        repeat refine hG _ _ _ _ _ _ _ _ _ _ _ ?_
        refine ⟨⟨_, hR.1⟩, 0, 0, by decide, by decide, rr_trap hG hR hj (fun h1 hR1 f1 => ?_)⟩
        repeat refine hG _ _ _ _ _ _ _ _ _ _ _ ?_
        exact ⟨by decide, by decide, hQ h1 hR1 f1⟩
      · rw [if_pos y] at hQ
        repeat refine hG _ _ _ _ _ _ _ _ _ _ _ ?_
        rw [m_n5_e (w >>> (7 &&& 31))]
        refine ⟨⟨_, hR.1⟩, 0, 0, by decide, by decide, rr_jumps hG hR hj (m_n5_lt _) (fun h1 hR1 f1 => ?_)⟩
        repeat refine hG _ _ _ _ _ _ _ _ _ _ _ ?_
        exact ⟨by decide, by decide, hQ h1 hR1 f1⟩
    by_cases e99 : w &&& 127 = 99
    · rw [m_op, if_neg e55, if_neg e23, if_neg e111, if_neg e103, if_pos e99] at hQ
      refine ⟨290, by rw [e99]; decide, ?_⟩
      repeat refine hG _ _ _ _ _ _ _ _ _ _ _ ?_
      refine ⟨⟨_, hR.1⟩, 0, 0, by decide, by decide, rr_branch hG hR hj (fun h1 hR1 f1 => ?_)⟩
      repeat refine hG _ _ _ _ _ _ _ _ _ _ _ ?_
      exact ⟨by decide, by decide, hQ h1 hR1 f1⟩
    by_cases e3 : w &&& 127 = 3
    · rw [m_op, if_neg e55, if_neg e23, if_neg e111, if_neg e103, if_neg e99, if_pos e3, cq] at hQ
      refine ⟨303, by rw [e3]; decide, ?_⟩
      repeat refine hG _ _ _ _ _ _ _ _ _ _ _ ?_
      refine ⟨⟨_, hR.1⟩, 0, 0, by decide, by decide, rr_loads hG (d := d + 1) hR hj hq hql hs hS (by omega) (fun h1 hR1 f1 => ?_)⟩
      repeat refine hG _ _ _ _ _ _ _ _ _ _ _ ?_
      exact ⟨by decide, by decide, hQ h1 hR1 f1⟩
    by_cases e35 : w &&& 127 = 35
    · rw [m_op, if_neg e55, if_neg e23, if_neg e111, if_neg e103, if_neg e99, if_neg e3, if_pos e35, ck, cp, cz] at hQ
      refine ⟨319, by rw [e35]; decide, ?_⟩
      repeat refine hG _ _ _ _ _ _ _ _ _ _ _ ?_
      rw [m_n5_e (w >>> (7 &&& 31))]
      refine ⟨⟨_, hR.1⟩, 0, 0, by decide, by decide, rr_stores hG hR hj hk hkl hp hpl hz hzl hs hS hS4 (fun h1 hR1 f1 => ?_)⟩
      repeat refine hG _ _ _ _ _ _ _ _ _ _ _ ?_
      exact ⟨by decide, by decide, hQ h1 hR1 f1⟩
    by_cases e19 : w &&& 127 = 19
    · rw [m_op, if_neg e55, if_neg e23, if_neg e111, if_neg e103, if_neg e99, if_neg e3, if_neg e35, if_pos e19] at hQ
      refine ⟨342, by rw [e19]; decide, ?_⟩
      repeat refine hG _ _ _ _ _ _ _ _ _ _ _ ?_
      refine ⟨⟨_, hR.1⟩, 0, 0, by decide, by decide, rr_reckons hG (d := d + 1) (n := true) hR hj (fun h1 hR1 f1 => ?_)⟩
      repeat refine hG _ _ _ _ _ _ _ _ _ _ _ ?_
      exact ⟨by decide, by decide, hQ h1 hR1 f1⟩
    by_cases e51 : w &&& 127 = 51
    · rw [m_op, if_neg e55, if_neg e23, if_neg e111, if_neg e103, if_neg e99, if_neg e3, if_neg e35, if_neg e19, if_pos e51] at hQ
      refine ⟨358, by rw [e51]; decide, ?_⟩
      repeat refine hG _ _ _ _ _ _ _ _ _ _ _ ?_
      refine ⟨⟨_, hR.1⟩, 0, 0, by decide, by decide, rr_reckons hG (d := d + 1) (n := false) hR hj (fun h1 hR1 f1 => ?_)⟩
      repeat refine hG _ _ _ _ _ _ _ _ _ _ _ ?_
      exact ⟨by decide, by decide, hQ h1 hR1 f1⟩
    by_cases e15 : w &&& 127 = 15
    · rw [m_op, if_neg e55, if_neg e23, if_neg e111, if_neg e103, if_neg e99, if_neg e3, if_neg e35, if_neg e19, if_neg e51, if_pos e15] at hQ
      refine ⟨372, by rw [e15]; decide, ?_⟩
      repeat (first | refine hG _ _ _ _ _ _ _ _ _ _ _ ?_ | ((conv => whnf); first | (refine ⟨_, _, hR.1, r_at (by decide), ?_⟩; (try simp (disch := first | decide | omega) only [u2_ne, u2_ss, u2_sn])) | (refine g_il hR rfl rfl (by first | with_reducible exact Eq.refl (nI _) | (simp (disch := first | decide | omega) only [pk_mul, nI_add, il1, il2, il3, il4, il7, il8, il16, il32, il64, il128, il256, il4096, il4200, u2_ne, u2_ss, u2_sn]; with_reducible exact Eq.refl (nI _))) (by simp only [rRL]; omega) ?_; (try simp (disch := first | decide | omega) only [u2_ne, u2_ss, u2_sn])) | (refine g_bl hR rfl rfl (by first | with_reducible exact Eq.refl (nI _) | (simp (disch := first | decide | omega) only [pk_mul, nI_add, il1, il2, il3, il4, il7, il8, il16, il32, il64, il128, il256, il4096, il4200, u2_ne, u2_ss, u2_sn]; with_reducible exact Eq.refl (nI _))) (by simp only [rRL]; omega) ?_; (try simp (disch := first | decide | omega) only [u2_ne, u2_ss, u2_sn])) | (refine g_ol hR rfl rfl (by first | with_reducible exact Eq.refl (nI _) | (simp (disch := first | decide | omega) only [pk_mul, nI_add, il1, il2, il3, il4, il7, il8, il16, il32, il64, il128, il256, il4096, il4200, u2_ne, u2_ss, u2_sn]; with_reducible exact Eq.refl (nI _))) (by simp only [rRL]; omega) ?_; (try simp (disch := first | decide | omega) only [u2_ne, u2_ss, u2_sn])) | (refine g_ll hR rfl rfl (by first | with_reducible exact Eq.refl (nI _) | (simp (disch := first | decide | omega) only [pk_mul, nI_add, il1, il2, il3, il4, il7, il8, il16, il32, il64, il128, il256, il4096, il4200, u2_ne, u2_ss, u2_sn]; with_reducible exact Eq.refl (nI _))) (by simp only [rRL]; omega) ?_; (try simp (disch := first | decide | omega) only [u2_ne, u2_ss, u2_sn])) | (refine g_is hR rfl rfl (by first | with_reducible exact Eq.refl (nI _) | (simp (disch := first | decide | omega) only [pk_mul, nI_add, il1, il2, il3, il4, il7, il8, il16, il32, il64, il128, il256, il4096, il4200, u2_ne, u2_ss, u2_sn]; with_reducible exact Eq.refl (nI _))) (by simp only [rRL]; omega) ?_; intro hX hR fX; have fR := RF.tr fR fX; clear fX) | (refine g_bs hR rfl rfl (by first | with_reducible exact Eq.refl (nI _) | (simp (disch := first | decide | omega) only [pk_mul, nI_add, il1, il2, il3, il4, il7, il8, il16, il32, il64, il128, il256, il4096, il4200, u2_ne, u2_ss, u2_sn]; with_reducible exact Eq.refl (nI _))) (by simp only [rRL]; omega) ?_; intro hX hR fX; have fR := RF.tr fR fX; clear fX) | (refine g_os hR rfl rfl (by first | with_reducible exact Eq.refl (nI _) | (simp (disch := first | decide | omega) only [pk_mul, nI_add, il1, il2, il3, il4, il7, il8, il16, il32, il64, il128, il256, il4096, il4200, u2_ne, u2_ss, u2_sn]; with_reducible exact Eq.refl (nI _))) (by simp only [rRL]; omega) ?_; intro hX hR fX; have fR := RF.tr fR fX; clear fX) | (refine g_ls hR rfl rfl (by first | with_reducible exact Eq.refl (nI _) | (simp (disch := first | decide | omega) only [pk_mul, nI_add, il1, il2, il3, il4, il7, il8, il16, il32, il64, il128, il256, il4096, il4200, u2_ne, u2_ss, u2_sn]; with_reducible exact Eq.refl (nI _))) (by simp only [rRL]; omega) ?_; intro hX hR fX; have fR := RF.tr fR fX; clear fX) | (refine g_ps hR rfl rfl rfl ?_; intro hX hR fX; have fR := RF.tr fR fX; clear fX) | (refine g_p0 hR rfl rfl rfl ?_; intro hX hR fX; have fR := RF.tr fR fX; clear fX) | (refine g_p1 hR rfl rfl rfl ?_; intro hX hR fX; have fR := RF.tr fR fX; clear fX)))
      exact ⟨by decide, by decide, hQ hX hR fR⟩
    by_cases e115 : w &&& 127 = 115
    · rw [m_op, if_neg e55, if_neg e23, if_neg e111, if_neg e103, if_neg e99, if_neg e3, if_neg e35, if_neg e19, if_neg e51, if_neg e15, if_pos e115] at hQ
      refine ⟨384, by rw [e115]; decide, ?_⟩
      repeat refine hG _ _ _ _ _ _ _ _ _ _ _ ?_
      refine ⟨⟨_, hR.1⟩, 0, 0, by decide, by decide, rr_system hG hR hj (fun h1 hR1 f1 => ?_)⟩
      repeat refine hG _ _ _ _ _ _ _ _ _ _ _ ?_
      exact ⟨by decide, by decide, hQ h1 hR1 f1⟩
    rw [m_op, if_neg e55, if_neg e23, if_neg e111, if_neg e103, if_neg e99, if_neg e3, if_neg e35, if_neg e19, if_neg e51, if_neg e15, if_neg e115] at hQ
    refine ⟨395, ?_, ?_⟩
    · show (81 : Int) + Jvm.Op.lookupswitch.offset [(3, 222), (15, 291), (19, 261), (23, 114), (35, 238), (51, 277), (55, 99), (99, 209), (103, 174), (111, 131), (115, 303)] 314 (w &&& 127).toInt = 395
      rw [lv_osw e3 (by decide), lv_osw e15 (by decide), lv_osw e19 (by decide), lv_osw e23 (by decide), lv_osw e35 (by decide), lv_osw e51 (by decide), lv_osw e55 (by decide), lv_osw e99 (by decide), lv_osw e103 (by decide), lv_osw e111 (by decide), lv_osw e115 (by decide)]; rfl
    repeat refine hG _ _ _ _ _ _ _ _ _ _ _ ?_
    refine ⟨⟨_, hR.1⟩, 0, 0, by decide, by decide, rr_trap hG hR hj (fun h1 hR1 f1 => ?_)⟩
    repeat refine hG _ _ _ _ _ _ _ _ _ _ _ ?_
    exact ⟨by decide, by decide, hQ h1 hR1 f1⟩
  · rw [if_neg hi]
    rw [m_exec, if_neg hi] at hQ
    repeat refine hG _ _ _ _ _ _ _ _ _ _ _ ?_
    refine ⟨fun y => absurd rfl y, fun _ => ?_⟩
    repeat refine hG _ _ _ _ _ _ _ _ _ _ _ ?_
    refine ⟨⟨_, hR.1⟩, 0, 0, by decide, by decide, rr_trap hG hR hj (fun h1 hR1 f1 => ?_)⟩
    repeat refine hG _ _ _ _ _ _ _ _ _ _ _ ?_
    exact ⟨by decide, by decide, hQ h1 hR1 f1⟩
