def x_is (p : Nat) (c : Cond) : Bool := match lw_tbl[p]? with
  | some w => decide (w = c)
  | none => false
theorem x_is_in {p : Nat} {c : Cond} (h : x_is p c = true) : c ∈ lw_tbl := by
  unfold x_is at h
  split at h
  · rename_i w hw
    have hc := of_decide_eq_true h
    subst hc
    exact List.mem_of_getElem? hw
  · cases h
theorem x_is_T {p : Nat} {c : Cond} (h : x_is p c = true) (hg : (k2_isCode c || goodWord c) = true) : c ∈ x_T := List.mem_filter.mpr ⟨x_is_in h, hg⟩
def x_lenI (i : Jvm.ClassFile.Instr) (k : Nat) : Nat := match i with
  | .bipush _ => 2
  | .sipush _ => 3
  | .ldc _ => 2
  | .ldc_w _ => 3
  | .ldc2_w _ => 3
  | .iload _ => 2
  | .lload _ => 2
  | .aload _ => 2
  | .istore _ => 2
  | .lstore _ => 2
  | .astore _ => 2
  | .iinc _ _ => 3
  | .goto _ => 3
  | .ifCond _ _ => 3
  | .if_icmp _ _ => 3
  | .if_acmp _ _ => 3
  | .ifnull _ => 3
  | .ifnonnull _ => 3
  | .getfield _ => 3
  | .putfield _ => 3
  | .getstatic _ => 3
  | .new _ => 3
  | .newarray _ => 2
  | .anewarray _ => 3
  | .invokevirtual _ => 3
  | .invokespecial _ => 3
  | .invokestatic _ => 3
  | .tableswitch _ _ _ _ => k
  | .lookupswitch _ _ => k
  | _ => 1
def x_fl (m : xM) (n p1 p2 p3 : Nat) : Bool := match vwCl[p1]? with
  | some q => Nat.blt p2 q.2.2 && x_is p3 (.fieldLink m.1.cls n (q.2.1 p2).1 (q.2.1 p2).2.1 (q.2.1 p2).2.2.1)
  | none => false
def x_fn (m : xM) (p1 p2 : Nat) : Bool := match vwCl[p1]? with
  | some q => !(q.2.1 p2).2.2.2 || (decide (m.1.name = "<init>") && decide ((q.2.1 p2).1 = m.1.cls))
  | none => false
def x_cal (M : Nat) : Bool := Nat.blt M 220 && !(Nat.beq M 219) && !(Nat.beq M 213) && !(Nat.beq M 214)
def x_chk (m : xM) (pc : Nat) (i : Jvm.ClassFile.Instr) (p1 p2 p3 : Nat) (kv : Int32) (k2 : Int64) : Bool := match i with
  | .iconst n => decide (Int32.ofInt n = kv)
  | .bipush n => decide ((Int8.ofInt n).toInt32 = kv)
  | .sipush n => decide ((Int16.ofInt n).toInt32 = kv)
  | .iinc _ n => decide (Int32.ofInt n = kv)
  | .ldc n => x_is p3 (.constant m.1.cls n kv)
  | .ldc_w n => x_is p3 (.constant m.1.cls n kv)
  | .ldc2_w n => x_is p3 (.constantLong m.1.cls n k2)
  | .lconst n => decide (Int64.ofNat n.val = k2)
  | .goto o => decide ((pc : Int) + o = (p1 : Int))
  | .ifCond _ o => decide ((pc : Int) + o = (p1 : Int))
  | .if_icmp _ o => decide ((pc : Int) + o = (p1 : Int))
  | .if_acmp _ o => decide ((pc : Int) + o = (p1 : Int))
  | .ifnull o => decide ((pc : Int) + o = (p1 : Int))
  | .ifnonnull o => decide ((pc : Int) + o = (p1 : Int))
  | .lookupswitch _ ps => (ps.toList.zip (ps.toList.drop 1)).all (fun (a, next) => a.1 < next.1)
  | .getfield n => x_fl m n p1 p2 p3
  | .putfield n => x_fl m n p1 p2 p3 && x_fn m p1 p2
  | .getstatic n => match x_stt[p1]? with
    | some q => x_is p3 (.fieldLink m.1.cls n q.1 q.2.1 q.2.2)
    | none => false
  | .new n => match vwCl[p1]? with
    | some q => x_is p3 (.classLink m.1.cls n q.1)
    | none => false
  | .anewarray n => match x_tys[p1]? with
    | some (.object C) => x_is p3 (.classLink m.1.cls n C)
    | _ => false
  | .newarray t => decide (x_tys[p1]? = some (newarray.typeOf t)) && x_is p3 (.arrayClass (newarray.typeOf t)) && decide (t ≠ .float) && decide (t ≠ .double)
  | .invokevirtual n => x_cal p1 && Nat.beq (x_mt p1).2.2.2.2.1 0 && Nat.beq p2 (x_mt p1).2.2.2.2.2.2.1 && x_is p3 (.methodLink m.1.cls n (x_mt p1).1)
  | .invokespecial n => (Nat.beq p1 9000 && Nat.beq p2 0 && x_is p3 (.methodLink m.1.cls n objectInit)) || (x_cal p1 && Nat.beq (x_mt p1).2.2.2.2.1 2 && Nat.beq p2 (x_mt p1).2.2.2.2.2.2.1 && x_is p3 (.methodLink m.1.cls n (x_mt p1).1))
  | .invokestatic n => (Nat.beq p1 9001 && x_is p3 (.methodLink m.1.cls n arraycopyName)) || (Nat.beq p1 9002 && x_is p3 (.methodLink m.1.cls n Lib.Math.max.name)) || (Nat.beq p1 9003 && x_is p3 (.methodLink m.1.cls n Lib.Math.min.name)) || (x_cal p1 && Nat.beq (x_mt p1).2.2.2.2.1 1 && Nat.beq p2 (x_mt p1).2.2.2.2.2.2.1 && (x_is p3 (.methodLink m.1.cls n (x_mt p1).1) || (match x_nst[p3 - 5000]? with
      | some q => decide (q.1 = m.1.cls) && Nat.beq q.2.1 n && decide (q.2.2.1 = (x_mt p1).1)
      | none => false)))
  | _ => true
def x_ok (m : xM) (pc : Nat) (e : xI) : Bool := match e with
  | (i, nx, p1, p2, p3, kv, k2) => decide (decode m.2.1 pc = .ok (i, x_lenI i (nx - pc))) && Nat.beq nx (pc + x_lenI i (nx - pc)) && x_chk m pc i p1 p2 p3 kv k2
def x_okm (m : xM) : Bool := (List.range m.2.2.2.2.2.2.2.1.2.2.2.2).all (fun pc => match m.2.2.2.2.2.2.2.2 pc with
  | some e => x_ok m pc e
  | none => true)
def x_okY (m : xM) : Bool := x_is m.2.2.2.2.2.2.2.1.1 (.code m.1 m.2.1 m.2.2.1 m.2.2.2.1) && plainName m.1.cls && decide (m.1.cls ≠ "java/lang/invoke/MethodHandle") && decide (m.1.cls ≠ "java/lang/invoke/VarHandle") && decide ((parseMethodDescriptor m.1.desc).map (fun d => d.parameters.length) = some m.2.2.2.2.2.2.1) && Nat.ble m.2.2.1 17 && x_is m.2.2.2.2.2.2.2.1.2.2.2.1 (.initialized m.1.cls) && (match m.2.2.2.2.1 with
  | 0 => x_is m.2.2.2.2.2.2.2.1.2.1 (.instanceMethod m.1) && x_is m.2.2.2.2.2.2.2.1.2.2.1 (.selects m.1.cls m.1 m.1) && decide ((vwCl[m.2.2.2.2.2.1]?).map (fun q => q.1) = some m.1.cls)
  | 1 => x_is m.2.2.2.2.2.2.2.1.2.1 (.static m.1)
  | _ => x_is m.2.2.2.2.2.2.2.1.2.1 (.instanceMethod m.1) && decide (m.1.name = "<init>") && decide (m.2.2.2.1 = none))

def x_isC (m : xM) : Bool := match lw_tbl[m.2.2.2.2.2.2.2.1.1]? with
  | some (.code n _ k r) => decide (n = m.1) && Nat.beq k m.2.2.1 && decide (r = m.2.2.2.1)
  | _ => false
def x_okZ (m : xM) : Bool := x_isC m && plainName m.1.cls && decide (m.1.cls ≠ "java/lang/invoke/MethodHandle") && decide (m.1.cls ≠ "java/lang/invoke/VarHandle") && decide ((parseMethodDescriptor m.1.desc).map (fun d => d.parameters.length) = some m.2.2.2.2.2.2.1) && Nat.ble m.2.2.1 17 && x_is m.2.2.2.2.2.2.2.1.2.2.2.1 (.initialized m.1.cls) && (match m.2.2.2.2.1 with
  | 0 => x_is m.2.2.2.2.2.2.2.1.2.1 (.instanceMethod m.1) && x_is m.2.2.2.2.2.2.2.1.2.2.1 (.selects m.1.cls m.1 m.1) && decide ((vwCl[m.2.2.2.2.2.1]?).map (fun q => q.1) = some m.1.cls)
  | 1 => x_is m.2.2.2.2.2.2.2.1.2.1 (.static m.1)
  | _ => x_is m.2.2.2.2.2.2.2.1.2.1 (.instanceMethod m.1) && decide (m.1.name = "<init>") && decide (m.2.2.2.1 = none))
theorem x_cY {y : MethodName} {p : Nat} {q : Nat × Option FieldType × Nat × Nat × Nat × (Nat × Nat × Nat × Nat × Nat) × (Nat → Option xI)} (hp : q.2.2.2.2.2.1.1 = p) (k : x_okZ (y, x_cd p, q) = true) : x_okY (y, x_cd p, q) = true := by
  subst hp
  unfold x_okZ at k
  unfold x_okY
  simp only [Bool.and_eq_true] at k ⊢
  obtain ⟨⟨⟨⟨⟨⟨⟨k0, k1⟩, k2⟩, k3⟩, k4⟩, k5⟩, k6⟩, k7⟩ := k
  refine ⟨⟨⟨⟨⟨⟨⟨?_, k1⟩, k2⟩, k3⟩, k4⟩, k5⟩, k6⟩, k7⟩
  unfold x_isC at k0
  unfold x_is x_cd
  dsimp only at k0 ⊢
  generalize lw_tbl[q.2.2.2.2.2.1.1]? = o at *
  cases o with
  | none => exact absurd (show false = true from k0) (by decide)
  | some w =>
    cases w with
    | code n c a r =>
      simp only [Bool.and_eq_true, decide_eq_true_eq] at k0
      obtain ⟨⟨e1, e2⟩, e3⟩ := k0
      have e2 : a = q.1 := Nat.eq_of_beq_eq_true e2
      show decide (Cond.code n c a r = Cond.code y c q.1 q.2.1) = true
      rw [e1, e2, e3]
      exact decide_eq_true rfl
    | _ => exact absurd (show false = true from k0) (by decide)
def x_oks (M lo n : Nat) : Bool := (List.range n).all (fun j => match (x_mt M).2.2.2.2.2.2.2.2 (j + lo) with
  | some e => x_ok (x_mt M) (j + lo) e
  | none => true)
theorem x_oksat {M lo n pc : Nat} (h : x_oks M lo n = true) (h1 : lo ≤ pc) (h2 : pc < lo + n) : (match (x_mt M).2.2.2.2.2.2.2.2 pc with
  | some e => x_ok (x_mt M) pc e
  | none => true) = true := by
  have h3 := List.all_eq_true.mp h (pc - lo) (List.mem_range.mpr (by omega))
  rw [show pc - lo + lo = pc by omega] at h3
  exact h3
theorem x_oksum {m : xM} {n : Nat} (hn : m.2.2.2.2.2.2.2.1.2.2.2.2 = n) (h : ∀ pc, pc < n → (match m.2.2.2.2.2.2.2.2 pc with
  | some e => x_ok m pc e
  | none => true) = true) : x_okm m = true := by
  subst hn
  exact List.all_eq_true.mpr (fun pc hpc => h pc (List.mem_range.mp hpc))
theorem iX0 : ∀ w ∈ u_ws RX0 TX0 11, w ∈ lw_tbl := by decide +kernel
theorem gX0 : (u_ws RX0 TX0 11).all (fun w => k2_isCode w || goodWord w) = true := by decide +kernel
theorem bX0 : x_is 133 (.instantiable RX0 11) = true ∧ x_is 74 (.initialized RX0) = true ∧ (x_cn 0).1 = 11 ∧ ∀ j, j < 11 → defaultValue (x_fty 0 j) = vp_V (x_cn 0).2 j := by decide +kernel
theorem iX1 : ∀ w ∈ u_ws RX1 TX1 5, w ∈ lw_tbl := by decide +kernel
theorem gX1 : (u_ws RX1 TX1 5).all (fun w => k2_isCode w || goodWord w) = true := by decide +kernel
theorem bX1 : x_is 819 (.instantiable RX1 5) = true ∧ x_is 84 (.initialized RX1) = true ∧ (x_cn 1).1 = 5 ∧ ∀ j, j < 5 → defaultValue (x_fty 1 j) = vp_V (x_cn 1).2 j := by decide +kernel
theorem iX2 : ∀ w ∈ u_ws RX2 TX2 3, w ∈ lw_tbl := by decide +kernel
theorem gX2 : (u_ws RX2 TX2 3).all (fun w => k2_isCode w || goodWord w) = true := by decide +kernel
theorem bX2 : x_is 306 (.instantiable RX2 3) = true ∧ x_is 78 (.initialized RX2) = true ∧ (x_cn 2).1 = 3 ∧ ∀ j, j < 3 → defaultValue (x_fty 2 j) = vp_V (x_cn 2).2 j := by decide +kernel
theorem iX3 : ∀ w ∈ u_ws RX3 TX3 8, w ∈ lw_tbl := by decide +kernel
theorem gX3 : (u_ws RX3 TX3 8).all (fun w => k2_isCode w || goodWord w) = true := by decide +kernel
theorem bX3 : x_is 111 (.instantiable RX3 8) = true ∧ x_is 72 (.initialized RX3) = true ∧ (x_cn 3).1 = 8 ∧ ∀ j, j < 8 → defaultValue (x_fty 3 j) = vp_V (x_cn 3).2 j := by decide +kernel
theorem iX4 : ∀ w ∈ u_ws RX4 TX4 12, w ∈ lw_tbl := by decide +kernel
theorem gX4 : (u_ws RX4 TX4 12).all (fun w => k2_isCode w || goodWord w) = true := by decide +kernel
theorem bX4 : x_is 105 (.instantiable RX4 12) = true ∧ x_is 71 (.initialized RX4) = true ∧ (x_cn 4).1 = 12 ∧ ∀ j, j < 12 → defaultValue (x_fty 4 j) = vp_V (x_cn 4).2 j := by decide +kernel
theorem iX5 : ∀ w ∈ u_ws RX5 TX5 2, w ∈ lw_tbl := by decide +kernel
theorem gX5 : (u_ws RX5 TX5 2).all (fun w => k2_isCode w || goodWord w) = true := by decide +kernel
theorem bX5 : x_is 117 (.instantiable RX5 2) = true ∧ x_is 73 (.initialized RX5) = true ∧ (x_cn 5).1 = 2 ∧ ∀ j, j < 2 → defaultValue (x_fty 5 j) = vp_V (x_cn 5).2 j := by decide +kernel
theorem iX6 : ∀ w ∈ u_ws RX6 TX6 6, w ∈ lw_tbl := by decide +kernel
theorem gX6 : (u_ws RX6 TX6 6).all (fun w => k2_isCode w || goodWord w) = true := by decide +kernel
theorem bX6 : x_is 173 (.instantiable RX6 6) = true ∧ x_is 76 (.initialized RX6) = true ∧ (x_cn 6).1 = 6 ∧ ∀ j, j < 6 → defaultValue (x_fty 6 j) = vp_V (x_cn 6).2 j := by decide +kernel
theorem iX7 : ∀ w ∈ u_ws RX7 TX7 3, w ∈ lw_tbl := by decide +kernel
theorem gX7 : (u_ws RX7 TX7 3).all (fun w => k2_isCode w || goodWord w) = true := by decide +kernel
theorem bX7 : x_is 207 (.instantiable RX7 3) = true ∧ x_is 77 (.initialized RX7) = true ∧ (x_cn 7).1 = 3 ∧ ∀ j, j < 3 → defaultValue (x_fty 7 j) = vp_V (x_cn 7).2 j := by decide +kernel
theorem iX8 : ∀ w ∈ u_ws RX8 TX8 2, w ∈ lw_tbl := by decide +kernel
theorem gX8 : (u_ws RX8 TX8 2).all (fun w => k2_isCode w || goodWord w) = true := by decide +kernel
theorem bX8 : x_is 404 (.instantiable RX8 2) = true ∧ x_is 80 (.initialized RX8) = true ∧ (x_cn 8).1 = 2 ∧ ∀ j, j < 2 → defaultValue (x_fty 8 j) = vp_V (x_cn 8).2 j := by decide +kernel
theorem iX9 : ∀ w ∈ u_ws RX9 TX9 5, w ∈ lw_tbl := by decide +kernel
theorem gX9 : (u_ws RX9 TX9 5).all (fun w => k2_isCode w || goodWord w) = true := by decide +kernel
theorem bX9 : x_is 377 (.instantiable RX9 5) = true ∧ x_is 79 (.initialized RX9) = true ∧ (x_cn 9).1 = 5 ∧ ∀ j, j < 5 → defaultValue (x_fty 9 j) = vp_V (x_cn 9).2 j := by decide +kernel
theorem iX10 : ∀ w ∈ u_ws RX10 TX10 7, w ∈ lw_tbl := by decide +kernel
theorem gX10 : (u_ws RX10 TX10 7).all (fun w => k2_isCode w || goodWord w) = true := by decide +kernel
theorem bX10 : x_is 139 (.instantiable RX10 7) = true ∧ x_is 75 (.initialized RX10) = true ∧ (x_cn 10).1 = 7 ∧ ∀ j, j < 7 → defaultValue (x_fty 10 j) = vp_V (x_cn 10).2 j := by decide +kernel
theorem iX11 : ∀ w ∈ u_ws RX11 TX11 13, w ∈ lw_tbl := by decide +kernel
theorem gX11 : (u_ws RX11 TX11 13).all (fun w => k2_isCode w || goodWord w) = true := by decide +kernel
theorem bX11 : x_is 87 (.instantiable RX11 13) = true ∧ x_is 69 (.initialized RX11) = true ∧ (x_cn 11).1 = 13 ∧ ∀ j, j < 13 → defaultValue (x_fty 11 j) = vp_V (x_cn 11).2 j := by decide +kernel
theorem iX12 : ∀ w ∈ u_ws RX12 TX12 75, w ∈ lw_tbl := by decide +kernel
theorem gX12 : (u_ws RX12 TX12 75).all (fun w => k2_isCode w || goodWord w) = true := by decide +kernel
theorem bX12 : x_is 1049 (.instantiable RX12 75) = true ∧ x_is 81 (.initialized RX12) = true ∧ (x_cn 12).1 = 75 ∧ ∀ j, j < 75 → defaultValue (x_fty 12 j) = vp_V (x_cn 12).2 j := by decide +kernel
theorem x_clall {k : Nat} {C : String} {T : u_T} {N : Nat} (hC : vwCl[k]? = some (C, T, N)) : (∀ w ∈ u_ws C T N, w ∈ x_T) ∧ (∀ j, j < N → parseFieldDescriptor (T j).2.2.1 = some (x_fty k j)) ∧ (∀ a, a < N → ∀ b, b < N → a ≠ b → (T a).2.1 ≠ (T b).2.1) ∧ (x_cn k).1 = N ∧ (∀ j, j < N → defaultValue (x_fty k j) = vp_V (x_cn k).2 j) ∧ Cond.instantiable C N ∈ x_T ∧ Cond.initialized C ∈ x_T := by
  match k, hC with
  | 0, hC => cases hC; exact ⟨fun w h => List.mem_filter.mpr ⟨iX0 w h, List.all_eq_true.mp gX0 w h⟩, tyX0_ok, nmX0, bX0.2.2.1, bX0.2.2.2, x_is_T bX0.1 rfl, x_is_T bX0.2.1 rfl⟩
  | 1, hC => cases hC; exact ⟨fun w h => List.mem_filter.mpr ⟨iX1 w h, List.all_eq_true.mp gX1 w h⟩, tyX1_ok, nmX1, bX1.2.2.1, bX1.2.2.2, x_is_T bX1.1 rfl, x_is_T bX1.2.1 rfl⟩
  | 2, hC => cases hC; exact ⟨fun w h => List.mem_filter.mpr ⟨iX2 w h, List.all_eq_true.mp gX2 w h⟩, tyX2_ok, nmX2, bX2.2.2.1, bX2.2.2.2, x_is_T bX2.1 rfl, x_is_T bX2.2.1 rfl⟩
  | 3, hC => cases hC; exact ⟨fun w h => List.mem_filter.mpr ⟨iX3 w h, List.all_eq_true.mp gX3 w h⟩, tyX3_ok, nmX3, bX3.2.2.1, bX3.2.2.2, x_is_T bX3.1 rfl, x_is_T bX3.2.1 rfl⟩
  | 4, hC => cases hC; exact ⟨fun w h => List.mem_filter.mpr ⟨iX4 w h, List.all_eq_true.mp gX4 w h⟩, tyX4_ok, nmX4, bX4.2.2.1, bX4.2.2.2, x_is_T bX4.1 rfl, x_is_T bX4.2.1 rfl⟩
  | 5, hC => cases hC; exact ⟨fun w h => List.mem_filter.mpr ⟨iX5 w h, List.all_eq_true.mp gX5 w h⟩, tyX5_ok, nmX5, bX5.2.2.1, bX5.2.2.2, x_is_T bX5.1 rfl, x_is_T bX5.2.1 rfl⟩
  | 6, hC => cases hC; exact ⟨fun w h => List.mem_filter.mpr ⟨iX6 w h, List.all_eq_true.mp gX6 w h⟩, tyX6_ok, nmX6, bX6.2.2.1, bX6.2.2.2, x_is_T bX6.1 rfl, x_is_T bX6.2.1 rfl⟩
  | 7, hC => cases hC; exact ⟨fun w h => List.mem_filter.mpr ⟨iX7 w h, List.all_eq_true.mp gX7 w h⟩, tyX7_ok, nmX7, bX7.2.2.1, bX7.2.2.2, x_is_T bX7.1 rfl, x_is_T bX7.2.1 rfl⟩
  | 8, hC => cases hC; exact ⟨fun w h => List.mem_filter.mpr ⟨iX8 w h, List.all_eq_true.mp gX8 w h⟩, tyX8_ok, nmX8, bX8.2.2.1, bX8.2.2.2, x_is_T bX8.1 rfl, x_is_T bX8.2.1 rfl⟩
  | 9, hC => cases hC; exact ⟨fun w h => List.mem_filter.mpr ⟨iX9 w h, List.all_eq_true.mp gX9 w h⟩, tyX9_ok, nmX9, bX9.2.2.1, bX9.2.2.2, x_is_T bX9.1 rfl, x_is_T bX9.2.1 rfl⟩
  | 10, hC => cases hC; exact ⟨fun w h => List.mem_filter.mpr ⟨iX10 w h, List.all_eq_true.mp gX10 w h⟩, tyX10_ok, nmX10, bX10.2.2.1, bX10.2.2.2, x_is_T bX10.1 rfl, x_is_T bX10.2.1 rfl⟩
  | 11, hC => cases hC; exact ⟨fun w h => List.mem_filter.mpr ⟨iX11 w h, List.all_eq_true.mp gX11 w h⟩, tyX11_ok, nmX11, bX11.2.2.1, bX11.2.2.2, x_is_T bX11.1 rfl, x_is_T bX11.2.1 rfl⟩
  | 12, hC => cases hC; exact ⟨fun w h => List.mem_filter.mpr ⟨iX12 w h, List.all_eq_true.mp gX12 w h⟩, tyX12_ok, nmX12, bX12.2.2.1, bX12.2.2.2, x_is_T bX12.1 rfl, x_is_T bX12.2.1 rfl⟩
  | k + 13, hC => simp [vwCl] at hC
theorem x_cls {k : Nat} {C : String} {T : u_T} {N : Nat} (hC : vwCl[k]? = some (C, T, N)) : ∀ w ∈ u_ws C T N, w ∈ x_T := (x_clall hC).1
theorem x_clt {k : Nat} {C : String} {T : u_T} {N : Nat} (hC : vwCl[k]? = some (C, T, N)) : (∀ j, j < N → parseFieldDescriptor (T j).2.2.1 = some (x_fty k j)) ∧ (∀ a, a < N → ∀ b, b < N → a ≠ b → (T a).2.1 ≠ (T b).2.1) := ⟨(x_clall hC).2.1, (x_clall hC).2.2.1⟩
theorem x_cln {k : Nat} {C : String} {T : u_T} {N : Nat} (hC : vwCl[k]? = some (C, T, N)) : (x_cn k).1 = N ∧ (∀ j, j < N → defaultValue (x_fty k j) = vp_V (x_cn k).2 j) ∧ Cond.instantiable C N ∈ x_T ∧ Cond.initialized C ∈ x_T := (x_clall hC).2.2.2
theorem x_obj1 : Cond.instanceMethod objectInit ∈ x_T := x_is_T (p := 92) (by decide +kernel) rfl
theorem x_obj2 : Cond.code objectInit ⟨#[0xb1]⟩ 1 none ∈ x_T := x_is_T (p := 93) (by decide +kernel) rfl
theorem x_mx1 : Cond.static Lib.Math.max.name ∈ x_T := x_is_T (p := 101) (by decide +kernel) rfl
theorem x_mx2 : Cond.initialized "java/lang/Math" ∈ x_T := x_is_T (p := 70) (by decide +kernel) rfl
theorem x_mx3 : Cond.code Lib.Math.max.name Lib.Math.max.code 2 (some .int) ∈ x_T := x_is_T (p := 102) (by decide +kernel) rfl
theorem x_mn1 : Cond.static Lib.Math.min.name ∈ x_T := x_is_T (p := 98) (by decide +kernel) rfl
theorem x_mn3 : Cond.code Lib.Math.min.name Lib.Math.min.code 2 (some .int) ∈ x_T := x_is_T (p := 99) (by decide +kernel) rfl
theorem x_acp1 : Cond.native arraycopyName ∈ x_T := x_is_T (p := 473) (by decide +kernel) rfl
theorem x_acp2 : Cond.static arraycopyName ∈ x_T := x_is_T (p := 472) (by decide +kernel) rfl
theorem x_acp3 : Cond.initialized "java/lang/System" ∈ x_T := x_is_T (p := 82) (by decide +kernel) rfl
