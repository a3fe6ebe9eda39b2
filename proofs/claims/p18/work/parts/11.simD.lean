section SIMD
variable {l : Launch} {dC : Nat → ClassId} {dI : Nat → Nat → Nat} {cA : Nat → ClassId} {base : Nat} {ro : xR} {sv : Nat → Value}
variable {p : Program} {e : Env} {R : Room} {s : State} {m : MethodId} {args : Array Value} {below : List Frame} {meth : Method} {c : Code} {H : Heap} {locs : List Loc} {ls : Array Slot} {Z : State → Prop}
variable {d M mc ms pc cs sl p1 p2 : Nat} {lv : xL} {st : List Value} {h : xH} {Q : xQ} {kv : Int32} {k2 : Int64}

theorem x_callt {M : Nat} (h : x_cal M = true) : M < 220 := by
  simp only [x_cal, Bool.and_eq_true] at h
  exact Nat.le_of_ble_eq_true h.1.1.1
theorem x_cond {b : Bool} {o : Option xI} {e : xI} (h : cond b o none = some e) : b = true ∧ o = some e := by
  cases b with
  | true => exact ⟨rfl, h⟩
  | false => cases h
theorem x_flx {m : xM} {n p1 p2 p3 : Nat} (h : x_fl m n p1 p2 p3 = true) : ∃ (C : String) (T : u_T) (N : Nat), vwCl[p1]? = some (C, T, N) ∧ p2 < N ∧ Cond.fieldLink m.1.cls n (T p2).1 (T p2).2.1 (T p2).2.2.1 ∈ x_T := by
  unfold x_fl at h
  split at h
  · rename_i q hq
    simp only [Bool.and_eq_true] at h
    obtain ⟨C, T, N⟩ := q
    exact ⟨C, T, N, hq, Nat.le_of_ble_eq_true h.1, x_is_T h.2 rfl⟩
  · cases h
theorem x_fnx {m : xM} {p1 p2 : Nat} {C : String} {T : u_T} {N : Nat} (hC : vwCl[p1]? = some (C, T, N)) (h : x_fn m p1 p2 = true) : (T p2).2.2.2 = false ∨ ((T p2).2.2.2 = true ∧ m.1.name = "<init>" ∧ (T p2).1 = m.1.cls) := by
  unfold x_fn at h
  rw [hC] at h
  simp only [Bool.or_eq_true, Bool.and_eq_true, decide_eq_true_eq, Bool.not_eq_true'] at h
  cases hf : (T p2).2.2.2 with
  | false => exact Or.inl rfl
  | true =>
    rcases h with h | h
    · exact absurd (hf.symm.trans h) (by decide)
    · exact Or.inr ⟨rfl, h.1, h.2⟩

set_option maxHeartbeats 4000000 in
set_option maxRecDepth 100000 in
theorem x_sim (hval : ∀ (M pc : Nat) (e : xI), pc < (x_mt M).2.2.2.2.2.2.2.1.2.2.2.2 → (x_mt M).2.2.2.2.2.2.2.2 pc = some e → x_ok (x_mt M) pc e = true) (hvY : ∀ M : Nat, x_cal M = true → x_okY (x_mt M) = true) : x_Good (x_GW l dC dI cA base ro sv) ro sv := by
  intro d M mc ms pc lv st h cs sl Q hs
  unfold x_step at hs
  split at hs
  · rename_i i nx p1 p2 p3 kv k2 heq
    obtain ⟨h1, h2⟩ := x_cond heq
    have hok := hval M pc _ (Nat.le_of_ble_eq_true h1) h2
    simp only [x_ok, Bool.and_eq_true, decide_eq_true_eq] at hok
    obtain ⟨⟨hd, hn⟩, hc⟩ := hok
    have hnx := Nat.eq_of_beq_eq_true hn
    intro p e R s m args below meth c H locs ls Z hC hW hS hl hcs
    have K : x_Hy l dC dI cA base ro sv d M mc ms lv h cs sl Q p e R s m args below meth c H locs ls Z := ⟨hC, hW, hS, hl, hcs⟩
    cases i
    case iconst n =>
      dsimp only [x_lenI] at hd hnx
      try dsimp only [x_chk] at hc
      subst hnx
      exact xs_iconst K hd (of_decide_eq_true hc) hs
    case bipush n =>
      dsimp only [x_lenI] at hd hnx
      try dsimp only [x_chk] at hc
      subst hnx
      exact xs_bipush K hd (of_decide_eq_true hc) hs
    case sipush n =>
      dsimp only [x_lenI] at hd hnx
      try dsimp only [x_chk] at hc
      subst hnx
      exact xs_sipush K hd (of_decide_eq_true hc) hs
    case iinc a n =>
      dsimp only [x_lenI] at hd hnx
      try dsimp only [x_chk] at hc
      subst hnx
      exact xs_iinc K hd (of_decide_eq_true hc) hs
    case ldc n =>
      dsimp only [x_lenI] at hd hnx
      try dsimp only [x_chk] at hc
      subst hnx
      exact xs_ldc K hd (x_is_T hc rfl) hs
    case ldc_w n =>
      dsimp only [x_lenI] at hd hnx
      try dsimp only [x_chk] at hc
      subst hnx
      exact xs_ldcw K hd (x_is_T hc rfl) hs
    case ldc2_w n =>
      dsimp only [x_lenI] at hd hnx
      try dsimp only [x_chk] at hc
      subst hnx
      exact xs_ldc2 K hd (x_is_T hc rfl) hs
    case lconst n =>
      dsimp only [x_lenI] at hd hnx
      try dsimp only [x_chk] at hc
      subst hnx
      exact xs_lconst K hd (of_decide_eq_true hc) hs
    case aconst_null =>
      dsimp only [x_lenI] at hd hnx
      try dsimp only [x_chk] at hc
      subst hnx
      exact xs_null K hd hs
    case iload a =>
      dsimp only [x_lenI] at hd hnx
      try dsimp only [x_chk] at hc
      subst hnx
      exact xs_iload K hd hs
    case iload_n a =>
      dsimp only [x_lenI] at hd hnx
      try dsimp only [x_chk] at hc
      subst hnx
      exact xs_iload_n K hd hs
    case lload a =>
      dsimp only [x_lenI] at hd hnx
      try dsimp only [x_chk] at hc
      subst hnx
      exact xs_lload K hd hs
    case lload_n a =>
      dsimp only [x_lenI] at hd hnx
      try dsimp only [x_chk] at hc
      subst hnx
      exact xs_lload_n K hd hs
    case aload a =>
      dsimp only [x_lenI] at hd hnx
      try dsimp only [x_chk] at hc
      subst hnx
      exact xs_aload K hd hs
    case aload_n a =>
      dsimp only [x_lenI] at hd hnx
      try dsimp only [x_chk] at hc
      subst hnx
      exact xs_aload_n K hd hs
    case istore a =>
      dsimp only [x_lenI] at hd hnx
      try dsimp only [x_chk] at hc
      subst hnx
      exact xs_istore K hd hs
    case istore_n a =>
      dsimp only [x_lenI] at hd hnx
      try dsimp only [x_chk] at hc
      subst hnx
      exact xs_istore_n K hd hs
    case lstore a =>
      dsimp only [x_lenI] at hd hnx
      try dsimp only [x_chk] at hc
      subst hnx
      exact xs_lstore K hd hs
    case lstore_n a =>
      dsimp only [x_lenI] at hd hnx
      try dsimp only [x_chk] at hc
      subst hnx
      exact xs_lstore_n K hd hs
    case astore a =>
      dsimp only [x_lenI] at hd hnx
      try dsimp only [x_chk] at hc
      subst hnx
      exact xs_astore K hd hs
    case astore_n a =>
      dsimp only [x_lenI] at hd hnx
      try dsimp only [x_chk] at hc
      subst hnx
      exact xs_astore_n K hd hs
    case iadd =>
      dsimp only [x_lenI] at hd hnx
      try dsimp only [x_chk] at hc
      subst hnx
      exact xs_iadd K hd hs
    case isub =>
      dsimp only [x_lenI] at hd hnx
      try dsimp only [x_chk] at hc
      subst hnx
      exact xs_isub K hd hs
    case imul =>
      dsimp only [x_lenI] at hd hnx
      try dsimp only [x_chk] at hc
      subst hnx
      exact xs_imul K hd hs
    case iand =>
      dsimp only [x_lenI] at hd hnx
      try dsimp only [x_chk] at hc
      subst hnx
      exact xs_iand K hd hs
    case ior =>
      dsimp only [x_lenI] at hd hnx
      try dsimp only [x_chk] at hc
      subst hnx
      exact xs_ior K hd hs
    case ixor =>
      dsimp only [x_lenI] at hd hnx
      try dsimp only [x_chk] at hc
      subst hnx
      exact xs_ixor K hd hs
    case ishl =>
      dsimp only [x_lenI] at hd hnx
      try dsimp only [x_chk] at hc
      subst hnx
      exact xs_ishl K hd hs
    case ishr =>
      dsimp only [x_lenI] at hd hnx
      try dsimp only [x_chk] at hc
      subst hnx
      exact xs_ishr K hd hs
    case ladd =>
      dsimp only [x_lenI] at hd hnx
      try dsimp only [x_chk] at hc
      subst hnx
      exact xs_ladd K hd hs
    case lsub =>
      dsimp only [x_lenI] at hd hnx
      try dsimp only [x_chk] at hc
      subst hnx
      exact xs_lsub K hd hs
    case lmul =>
      dsimp only [x_lenI] at hd hnx
      try dsimp only [x_chk] at hc
      subst hnx
      exact xs_lmul K hd hs
    case land =>
      dsimp only [x_lenI] at hd hnx
      try dsimp only [x_chk] at hc
      subst hnx
      exact xs_land K hd hs
    case lor =>
      dsimp only [x_lenI] at hd hnx
      try dsimp only [x_chk] at hc
      subst hnx
      exact xs_lor K hd hs
    case lxor =>
      dsimp only [x_lenI] at hd hnx
      try dsimp only [x_chk] at hc
      subst hnx
      exact xs_lxor K hd hs
    case iushr =>
      dsimp only [x_lenI] at hd hnx
      try dsimp only [x_chk] at hc
      subst hnx
      exact xs_iushr K hd hs
    case lshl =>
      dsimp only [x_lenI] at hd hnx
      try dsimp only [x_chk] at hc
      subst hnx
      exact xs_lshl K hd hs
    case lshr =>
      dsimp only [x_lenI] at hd hnx
      try dsimp only [x_chk] at hc
      subst hnx
      exact xs_lshr K hd hs
    case lushr =>
      dsimp only [x_lenI] at hd hnx
      try dsimp only [x_chk] at hc
      subst hnx
      exact xs_lushr K hd hs
    case i2l =>
      dsimp only [x_lenI] at hd hnx
      try dsimp only [x_chk] at hc
      subst hnx
      exact xs_i2l K hd hs
    case l2i =>
      dsimp only [x_lenI] at hd hnx
      try dsimp only [x_chk] at hc
      subst hnx
      exact xs_l2i K hd hs
    case i2b =>
      dsimp only [x_lenI] at hd hnx
      try dsimp only [x_chk] at hc
      subst hnx
      exact xs_i2b K hd hs
    case i2s =>
      dsimp only [x_lenI] at hd hnx
      try dsimp only [x_chk] at hc
      subst hnx
      exact xs_i2s K hd hs
    case i2c =>
      dsimp only [x_lenI] at hd hnx
      try dsimp only [x_chk] at hc
      subst hnx
      exact xs_i2c K hd hs
    case idiv =>
      dsimp only [x_lenI] at hd hnx
      try dsimp only [x_chk] at hc
      subst hnx
      exact xs_idiv K hd hs
    case irem =>
      dsimp only [x_lenI] at hd hnx
      try dsimp only [x_chk] at hc
      subst hnx
      exact xs_irem K hd hs
    case ineg =>
      dsimp only [x_lenI] at hd hnx
      try dsimp only [x_chk] at hc
      subst hnx
      exact xs_ineg K hd hs
    case lcmp =>
      dsimp only [x_lenI] at hd hnx
      try dsimp only [x_chk] at hc
      subst hnx
      exact xs_lcmp K hd hs
    case dup =>
      dsimp only [x_lenI] at hd hnx
      try dsimp only [x_chk] at hc
      subst hnx
      exact xs_dup K hd hs
    case pop =>
      dsimp only [x_lenI] at hd hnx
      try dsimp only [x_chk] at hc
      subst hnx
      exact xs_pop K hd hs
    case pop2 =>
      dsimp only [x_lenI] at hd hnx
      try dsimp only [x_chk] at hc
      subst hnx
      exact xs_pop2 K hd hs
    case dup_x1 =>
      dsimp only [x_lenI] at hd hnx
      try dsimp only [x_chk] at hc
      subst hnx
      exact xs_dup_x1 K hd hs
    case dup_x2 =>
      dsimp only [x_lenI] at hd hnx
      try dsimp only [x_chk] at hc
      subst hnx
      exact xs_dup_x2 K hd hs
    case dup2 =>
      dsimp only [x_lenI] at hd hnx
      try dsimp only [x_chk] at hc
      subst hnx
      exact xs_dup2 K hd hs
    case goto n =>
      dsimp only [x_lenI] at hd hnx
      try dsimp only [x_chk] at hc
      subst hnx
      exact xs_goto K hd (of_decide_eq_true hc) hs
    case ifnull n =>
      dsimp only [x_lenI] at hd hnx
      try dsimp only [x_chk] at hc
      subst hnx
      exact xs_ifnull K hd (of_decide_eq_true hc) hs
    case ifnonnull n =>
      dsimp only [x_lenI] at hd hnx
      try dsimp only [x_chk] at hc
      subst hnx
      exact xs_ifnonnull K hd (of_decide_eq_true hc) hs
    case ifCond cd n =>
      dsimp only [x_lenI] at hd hnx
      try dsimp only [x_chk] at hc
      subst hnx
      cases cd
      case eq => exact xs_if_eq K hd (of_decide_eq_true hc) hs
      case ne => exact xs_if_ne K hd (of_decide_eq_true hc) hs
      case lt => exact xs_if_lt K hd (of_decide_eq_true hc) hs
      case ge => exact xs_if_ge K hd (of_decide_eq_true hc) hs
      case gt => exact xs_if_gt K hd (of_decide_eq_true hc) hs
      case le => exact xs_if_le K hd (of_decide_eq_true hc) hs
    case if_icmp cd n =>
      dsimp only [x_lenI] at hd hnx
      try dsimp only [x_chk] at hc
      subst hnx
      cases cd
      case eq => exact xs_icmp_eq K hd (of_decide_eq_true hc) hs
      case ne => exact xs_icmp_ne K hd (of_decide_eq_true hc) hs
      case lt => exact xs_icmp_lt K hd (of_decide_eq_true hc) hs
      case ge => exact xs_icmp_ge K hd (of_decide_eq_true hc) hs
      case gt => exact xs_icmp_gt K hd (of_decide_eq_true hc) hs
      case le => exact xs_icmp_le K hd (of_decide_eq_true hc) hs
    case if_acmp cd n =>
      dsimp only [x_lenI] at hd hnx
      try dsimp only [x_chk] at hc
      subst hnx
      cases cd
      case eq => exact xs_acmp_eq K hd (of_decide_eq_true hc) hs
      case ne => exact xs_acmp_ne K hd (of_decide_eq_true hc) hs
    case tableswitch df lo hi offs =>
      dsimp only [x_lenI] at hd hnx
      generalize nx - pc = len at hd hnx
      subst hnx
      exact xs_table K hd hs
    case lookupswitch df ps =>
      dsimp only [x_lenI] at hd hnx
      try dsimp only [x_chk] at hc
      generalize nx - pc = len at hd hnx
      subst hnx
      exact xs_lookup K hd hc hs
    case getfield n =>
      dsimp only [x_lenI] at hd hnx
      try dsimp only [x_chk] at hc
      subst hnx
      obtain ⟨C, T, N, hC1, hC2, hC3⟩ := x_flx hc
      exact xs_getfield K hd hC1 hC2 hC3 hs
    case putfield n =>
      dsimp only [x_lenI] at hd hnx
      try dsimp only [x_chk] at hc
      subst hnx
      rw [Bool.and_eq_true] at hc
      obtain ⟨C, T, N, hC1, hC2, hC3⟩ := x_flx hc.1
      exact xs_putfield K hd hC1 hC2 hC3 (x_fnx hC1 hc.2) hs
    case getstatic n =>
      dsimp only [x_lenI] at hd hnx
      try dsimp only [x_chk] at hc
      subst hnx
      split at hc
      · rename_i q hq
        exact xs_getstatic K hd hq (x_is_T hc rfl) hs
      · cases hc
    case new n =>
      dsimp only [x_lenI] at hd hnx
      try dsimp only [x_chk] at hc
      subst hnx
      split at hc
      · rename_i q hq
        obtain ⟨C, T, N⟩ := q
        exact xs_new K hd hq (x_is_T hc rfl) hs
      · cases hc
    case anewarray n =>
      dsimp only [x_lenI] at hd hnx
      try dsimp only [x_chk] at hc
      subst hnx
      split at hc
      · rename_i C hq
        exact xs_anewarray K hd hq (x_is_T hc rfl) hs
      · cases hc
    case newarray n =>
      dsimp only [x_lenI] at hd hnx
      try dsimp only [x_chk] at hc
      subst hnx
      simp only [Bool.and_eq_true, decide_eq_true_eq] at hc
      exact xs_newarray K hd hc.1.1.1 (x_is_T hc.1.1.2 rfl) ⟨hc.1.2, hc.2⟩ hs
    case invokevirtual n =>
      dsimp only [x_lenI] at hd hnx
      try dsimp only [x_chk] at hc
      subst hnx
      simp only [Bool.and_eq_true, Bool.not_eq_true'] at hc
      obtain ⟨⟨⟨q1, q3⟩, q4⟩, q5⟩ := hc
      exact xs_virtual K hd (hvY p1 q1) (Nat.eq_of_beq_eq_true q3) (Nat.eq_of_beq_eq_true q4) (x_is_T q5 rfl) hs
    case invokespecial n =>
      dsimp only [x_lenI] at hd hnx
      try dsimp only [x_chk] at hc
      subst hnx
      simp only [Bool.or_eq_true, Bool.and_eq_true, Bool.not_eq_true'] at hc
      rcases hc with ⟨⟨q1, q2⟩, q3⟩ | ⟨⟨⟨q1, q3⟩, q4⟩, q5⟩
      · exact xs_objinit K hd q1 (Nat.eq_of_beq_eq_true q2) (x_is_T q3 rfl) hs
      · have h9 : Nat.beq p1 9000 = false := by
          cases hb : Nat.beq p1 9000 with
          | false => rfl
          | true =>
            have e1 := Nat.eq_of_beq_eq_true hb
            have e2 : p1 < 220 := x_callt q1
            omega
        exact xs_init K hd (hvY p1 q1) h9 (Nat.eq_of_beq_eq_true q3) (Nat.eq_of_beq_eq_true q4) (x_is_T q5 rfl) hs
    case invokestatic n =>
      dsimp only [x_lenI] at hd hnx
      try dsimp only [x_chk] at hc
      subst hnx
      simp only [Bool.or_eq_true, Bool.and_eq_true, Bool.not_eq_true'] at hc
      rcases hc with ((⟨q1, q3⟩ | ⟨q1, q3⟩) | ⟨q1, q3⟩) | ⟨⟨⟨q1, q3⟩, q4⟩, q5⟩
      · exact xs_arraycopy K hd q1 (x_is_T q3 rfl) hs
      · exact xs_max K hd (Nat.eq_of_beq_eq_true q1) (x_is_T q3 rfl) hs
      · exact xs_min K hd (Nat.eq_of_beq_eq_true q1) (x_is_T q3 rfl) hs
      · have h9 : Nat.blt p1 9001 = true := by
          have e2 : p1 < 220 := x_callt q1
          exact Nat.ble_eq_true_of_le (by omega)
        rcases q5 with q5 | q5
        · exact xs_static K hd (hvY p1 q1) h9 (Nat.eq_of_beq_eq_true q3) (Nat.eq_of_beq_eq_true q4) (x_is_T q5 rfl) hs
        · split at q5
          · rename_i q hq
            simp only [Bool.and_eq_true, decide_eq_true_eq] at q5
            obtain ⟨⟨r1, r2⟩, r3⟩ := q5
            have r4 := Nat.eq_of_beq_eq_true r2
            obtain ⟨qa, qb, qc, qd⟩ := q
            dsimp only at r1 r3 r4
            subst r1; subst r3; subst r4
            exact xs_staticN K hd (hvY p1 q1) h9 (Nat.eq_of_beq_eq_true q3) (Nat.eq_of_beq_eq_true q4) ⟨qd, List.mem_of_getElem? hq⟩ hs
          · cases q5
    case arraylength =>
      dsimp only [x_lenI] at hd hnx
      try dsimp only [x_chk] at hc
      subst hnx
      exact xs_arraylength K hd hs
    case iaload =>
      dsimp only [x_lenI] at hd hnx
      try dsimp only [x_chk] at hc
      subst hnx
      exact xs_iaload K hd hs
    case baload =>
      dsimp only [x_lenI] at hd hnx
      try dsimp only [x_chk] at hc
      subst hnx
      exact xs_baload K hd hs
    case laload =>
      dsimp only [x_lenI] at hd hnx
      try dsimp only [x_chk] at hc
      subst hnx
      exact xs_laload K hd hs
    case aaload =>
      dsimp only [x_lenI] at hd hnx
      try dsimp only [x_chk] at hc
      subst hnx
      exact xs_aaload K hd hs
    case iastore =>
      dsimp only [x_lenI] at hd hnx
      try dsimp only [x_chk] at hc
      subst hnx
      exact xs_iastore K hd hs
    case bastore =>
      dsimp only [x_lenI] at hd hnx
      try dsimp only [x_chk] at hc
      subst hnx
      exact xs_bastore K hd hs
    case lastore =>
      dsimp only [x_lenI] at hd hnx
      try dsimp only [x_chk] at hc
      subst hnx
      exact xs_lastore K hd hs
    case aastore =>
      dsimp only [x_lenI] at hd hnx
      try dsimp only [x_chk] at hc
      subst hnx
      exact xs_aastore K hd hs
    case ireturn =>
      dsimp only [x_lenI] at hd hnx
      try dsimp only [x_chk] at hc
      subst hnx
      exact xs_ireturn K hd hs
    case lreturn =>
      dsimp only [x_lenI] at hd hnx
      try dsimp only [x_chk] at hc
      subst hnx
      exact xs_lreturn K hd hs
    case areturn =>
      dsimp only [x_lenI] at hd hnx
      try dsimp only [x_chk] at hc
      subst hnx
      exact xs_areturn K hd hs
    case return_ =>
      dsimp only [x_lenI] at hd hnx
      try dsimp only [x_chk] at hc
      subst hnx
      exact xs_return K hd hs
    all_goals exact (show False from hs).elim
  · exact hs.elim
end SIMD
