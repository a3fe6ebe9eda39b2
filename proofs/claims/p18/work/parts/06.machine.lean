def x_call (G : xG) (d M mc ms nx : Nat) (lv : xL) (h : xH) (cs sl : Nat) (Q : xQ) (M' : Nat) (As rest : List Value) : Prop :=
  match Nat.ble ((rest.map fun v => v.category).sum) 8, Nat.ble (lg_sl As).length (x_mt M').2.2.1, d with
  | true, true, d' + 1 => ∃ mc' ms' : Nat, cs + mc' ≤ mc ∧ sl + ms' ≤ ms ∧ G d' M' mc' ms' 0 (lv_args 0 As) [] h 0 0 (fun v h' => G d M mc ms nx lv (v.toList ++ rest) h' (cs + mc') (sl + ms') Q)
  | _, _, _ => False
def x_do (G : xG) (ro : xR) (sv : Nat → Value) (d M mc ms pc : Nat) (lv : xL) (st : List Value) (h : xH) (cs sl : Nat) (Q : xQ) (i : Jvm.ClassFile.Instr) (nx p1 p2 : Nat) (kv : Int32) (k2 : Int64) : Prop :=
  match i with
  | .iconst _ => G d M mc ms nx lv (.int kv :: st) h cs sl Q
  | .bipush _ => G d M mc ms nx lv (.int kv :: st) h cs sl Q
  | .sipush _ => G d M mc ms nx lv (.int kv :: st) h cs sl Q
  | .ldc _ => G d M mc ms nx lv (.int kv :: st) h cs sl Q
  | .ldc_w _ => G d M mc ms nx lv (.int kv :: st) h cs sl Q
  | .lconst _ => G d M mc ms nx lv (.long k2 :: st) h cs sl Q
  | .ldc2_w _ => G d M mc ms nx lv (.long k2 :: st) h cs sl Q
  | .aconst_null => G d M mc ms nx lv (.null :: st) h cs sl Q
  | .iload i => match x_get lv i with
    | some (.int x) => G d M mc ms nx lv (.int x :: st) h cs sl Q
    | _ => False
  | .iload_n k => match x_get lv k.val with
    | some (.int x) => G d M mc ms nx lv (.int x :: st) h cs sl Q
    | _ => False
  | .lload i => match x_get lv i with
    | some (.long x) => G d M mc ms nx lv (.long x :: st) h cs sl Q
    | _ => False
  | .lload_n k => match x_get lv k.val with
    | some (.long x) => G d M mc ms nx lv (.long x :: st) h cs sl Q
    | _ => False
  | .aload i => match x_get lv i with
    | some (.ref x) => G d M mc ms nx lv (.ref x :: st) h cs sl Q
    | some (.null) => G d M mc ms nx lv (.null :: st) h cs sl Q
    | _ => False
  | .aload_n k => match x_get lv k.val with
    | some (.ref x) => G d M mc ms nx lv (.ref x :: st) h cs sl Q
    | some (.null) => G d M mc ms nx lv (.null :: st) h cs sl Q
    | _ => False
  | .istore i => match st, Nat.blt (i) (x_mt M).2.2.1 with
    | .int x :: r, true => G d M mc ms nx (x_put lv i (.int x)) r h cs sl Q
    | _, _ => False
  | .istore_n k => match st, Nat.blt (k.val) (x_mt M).2.2.1 with
    | .int x :: r, true => G d M mc ms nx (x_put lv k.val (.int x)) r h cs sl Q
    | _, _ => False
  | .lstore i => match st, Nat.blt (i + 1) (x_mt M).2.2.1 with
    | .long x :: r, true => G d M mc ms nx (x_put2 lv i (.long x)) r h cs sl Q
    | _, _ => False
  | .lstore_n k => match st, Nat.blt (k.val + 1) (x_mt M).2.2.1 with
    | .long x :: r, true => G d M mc ms nx (x_put2 lv k.val (.long x)) r h cs sl Q
    | _, _ => False
  | .astore i => match st, Nat.blt (i) (x_mt M).2.2.1 with
    | .ref x :: r, true => G d M mc ms nx (x_put lv i (.ref x)) r h cs sl Q
    | .null :: r, true => G d M mc ms nx (x_put lv i (.null)) r h cs sl Q
    | _, _ => False
  | .astore_n k => match st, Nat.blt (k.val) (x_mt M).2.2.1 with
    | .ref x :: r, true => G d M mc ms nx (x_put lv k.val (.ref x)) r h cs sl Q
    | .null :: r, true => G d M mc ms nx (x_put lv k.val (.null)) r h cs sl Q
    | _, _ => False
  | .iinc i n => match x_get lv i, Nat.blt i (x_mt M).2.2.1 with
    | some (.int x), true => G d M mc ms nx (x_put lv i (.int (x + kv))) st h cs sl Q
    | _, _ => False
  | .iadd => match st with
    | .int y :: .int x :: r => G d M mc ms nx lv (.int (x + y) :: r) h cs sl Q
    | _ => False
  | .isub => match st with
    | .int y :: .int x :: r => G d M mc ms nx lv (.int (x - y) :: r) h cs sl Q
    | _ => False
  | .imul => match st with
    | .int y :: .int x :: r => G d M mc ms nx lv (.int (x * y) :: r) h cs sl Q
    | _ => False
  | .iand => match st with
    | .int y :: .int x :: r => G d M mc ms nx lv (.int (x &&& y) :: r) h cs sl Q
    | _ => False
  | .ior => match st with
    | .int y :: .int x :: r => G d M mc ms nx lv (.int (x ||| y) :: r) h cs sl Q
    | _ => False
  | .ixor => match st with
    | .int y :: .int x :: r => G d M mc ms nx lv (.int (x ^^^ y) :: r) h cs sl Q
    | _ => False
  | .ishl => match st with
    | .int y :: .int x :: r => G d M mc ms nx lv (.int (x <<< (y &&& 31)) :: r) h cs sl Q
    | _ => False
  | .ishr => match st with
    | .int y :: .int x :: r => G d M mc ms nx lv (.int (x >>> (y &&& 31)) :: r) h cs sl Q
    | _ => False
  | .iushr => match st with
    | .int y :: .int x :: r => G d M mc ms nx lv (.int ((x.toUInt32 >>> (y.toUInt32 &&& Int32.toUInt32 31)).toInt32) :: r) h cs sl Q
    | _ => False
  | .idiv => match st with
    | .int y :: .int x :: r => ¬ y = 0 ∧ G d M mc ms nx lv (.int (x / y) :: r) h cs sl Q
    | _ => False
  | .irem => match st with
    | .int y :: .int x :: r => ¬ y = 0 ∧ G d M mc ms nx lv (.int (x - x / y * y) :: r) h cs sl Q
    | _ => False
  | .ineg => match st with
    | .int x :: r => G d M mc ms nx lv (.int (-x) :: r) h cs sl Q
    | _ => False
  | .ladd => match st with
    | .long y :: .long x :: r => G d M mc ms nx lv (.long (x + y) :: r) h cs sl Q
    | _ => False
  | .lsub => match st with
    | .long y :: .long x :: r => G d M mc ms nx lv (.long (x - y) :: r) h cs sl Q
    | _ => False
  | .lmul => match st with
    | .long y :: .long x :: r => G d M mc ms nx lv (.long (x * y) :: r) h cs sl Q
    | _ => False
  | .land => match st with
    | .long y :: .long x :: r => G d M mc ms nx lv (.long (x &&& y) :: r) h cs sl Q
    | _ => False
  | .lor => match st with
    | .long y :: .long x :: r => G d M mc ms nx lv (.long (x ||| y) :: r) h cs sl Q
    | _ => False
  | .lxor => match st with
    | .long y :: .long x :: r => G d M mc ms nx lv (.long (x ^^^ y) :: r) h cs sl Q
    | _ => False
  | .lshl => match st with
    | .int y :: .long x :: r => G d M mc ms nx lv (.long (x <<< (y.toInt64 &&& 63)) :: r) h cs sl Q
    | _ => False
  | .lshr => match st with
    | .int y :: .long x :: r => G d M mc ms nx lv (.long (x >>> (y.toInt64 &&& 63)) :: r) h cs sl Q
    | _ => False
  | .lushr => match st with
    | .int y :: .long x :: r => G d M mc ms nx lv (.long ((x.toUInt64 >>> (y.toInt64.toUInt64 &&& Int64.toUInt64 63)).toInt64) :: r) h cs sl Q
    | _ => False
  | .lcmp => match st with
    | .long y :: .long x :: r => G d M mc ms nx lv (.int (lg_cmp x y) :: r) h cs sl Q
    | _ => False
  | .i2l => match st with
    | .int x :: r => G d M mc ms nx lv (.long (x.toInt64) :: r) h cs sl Q
    | _ => False
  | .l2i => match st with
    | .long x :: r => G d M mc ms nx lv (.int (x.toInt32) :: r) h cs sl Q
    | _ => False
  | .i2b => match st with
    | .int x :: r => G d M mc ms nx lv (.int (x.toInt8.toInt32) :: r) h cs sl Q
    | _ => False
  | .i2s => match st with
    | .int x :: r => G d M mc ms nx lv (.int (x.toInt16.toInt32) :: r) h cs sl Q
    | _ => False
  | .i2c => match st with
    | .int x :: r => G d M mc ms nx lv (.int ((x.toUInt32 % 65536).toInt32) :: r) h cs sl Q
    | _ => False
  | .dup => match st with
    | v :: r => match Nat.beq v.category 1 with
      | true => G d M mc ms nx lv (v :: v :: r) h cs sl Q
      | false => False
    | _ => False
  | .pop => match st with
    | v :: r => match Nat.beq v.category 1 with
      | true => G d M mc ms nx lv r h cs sl Q
      | false => False
    | _ => False
  | .pop2 => match st with
    | v :: r => match Nat.beq v.category 2 with
      | true => G d M mc ms nx lv r h cs sl Q
      | false => False
    | _ => False
  | .dup_x1 => match st with
    | v :: w :: r => match Nat.beq v.category 1 && Nat.beq w.category 1 with
      | true => G d M mc ms nx lv (v :: w :: v :: r) h cs sl Q
      | false => False
    | _ => False
  | .dup_x2 => match st with
    | v :: w :: z :: r => match Nat.beq v.category 1 && Nat.beq w.category 1 && Nat.beq z.category 1 with
      | true => G d M mc ms nx lv (v :: w :: z :: v :: r) h cs sl Q
      | false => False
    | _ => False
  | .dup2 => match st with
    | v :: w :: r => match Nat.beq v.category 1 && Nat.beq w.category 1 with
      | true => G d M mc ms nx lv (v :: w :: v :: w :: r) h cs sl Q
      | false => False
    | _ => False
  | .goto _ => G d M mc ms p1 lv st h cs sl Q
  | .ifCond cd _ => match cd, st with
    | .eq, .int x :: r => (x = 0 → G d M mc ms p1 lv r h cs sl Q) ∧ (¬ x = 0 → G d M mc ms nx lv r h cs sl Q)
    | .ne, .int x :: r => (¬ x = 0 → G d M mc ms p1 lv r h cs sl Q) ∧ (x = 0 → G d M mc ms nx lv r h cs sl Q)
    | .lt, .int x :: r => (x < 0 → G d M mc ms p1 lv r h cs sl Q) ∧ (¬ x < 0 → G d M mc ms nx lv r h cs sl Q)
    | .ge, .int x :: r => (0 ≤ x → G d M mc ms p1 lv r h cs sl Q) ∧ (¬ 0 ≤ x → G d M mc ms nx lv r h cs sl Q)
    | .gt, .int x :: r => (0 < x → G d M mc ms p1 lv r h cs sl Q) ∧ (¬ 0 < x → G d M mc ms nx lv r h cs sl Q)
    | .le, .int x :: r => (x ≤ 0 → G d M mc ms p1 lv r h cs sl Q) ∧ (¬ x ≤ 0 → G d M mc ms nx lv r h cs sl Q)
    | _, _ => False
  | .if_icmp cd _ => match cd, st with
    | .eq, .int y :: .int x :: r => (x = y → G d M mc ms p1 lv r h cs sl Q) ∧ (¬ x = y → G d M mc ms nx lv r h cs sl Q)
    | .ne, .int y :: .int x :: r => (¬ x = y → G d M mc ms p1 lv r h cs sl Q) ∧ (x = y → G d M mc ms nx lv r h cs sl Q)
    | .lt, .int y :: .int x :: r => (x < y → G d M mc ms p1 lv r h cs sl Q) ∧ (¬ x < y → G d M mc ms nx lv r h cs sl Q)
    | .ge, .int y :: .int x :: r => (y ≤ x → G d M mc ms p1 lv r h cs sl Q) ∧ (¬ y ≤ x → G d M mc ms nx lv r h cs sl Q)
    | .gt, .int y :: .int x :: r => (y < x → G d M mc ms p1 lv r h cs sl Q) ∧ (¬ y < x → G d M mc ms nx lv r h cs sl Q)
    | .le, .int y :: .int x :: r => (x ≤ y → G d M mc ms p1 lv r h cs sl Q) ∧ (¬ x ≤ y → G d M mc ms nx lv r h cs sl Q)
    | _, _ => False
  | .ifnull _ => match st with
    | .ref _ :: r => G d M mc ms nx lv r h cs sl Q
    | .null :: r => G d M mc ms p1 lv r h cs sl Q
    | _ => False
  | .ifnonnull _ => match st with
    | .ref _ :: r => G d M mc ms p1 lv r h cs sl Q
    | .null :: r => G d M mc ms nx lv r h cs sl Q
    | _ => False
  | .if_acmp cd _ => match cd, st with
    | .eq, .ref y :: .ref x :: r => (x = y → G d M mc ms p1 lv r h cs sl Q) ∧ (¬ x = y → G d M mc ms nx lv r h cs sl Q)
    | .ne, .ref y :: .ref x :: r => (¬ x = y → G d M mc ms p1 lv r h cs sl Q) ∧ (x = y → G d M mc ms nx lv r h cs sl Q)
    | .eq, .null :: .ref _ :: r => G d M mc ms nx lv r h cs sl Q
    | .ne, .null :: .ref _ :: r => G d M mc ms p1 lv r h cs sl Q
    | .eq, .ref _ :: .null :: r => G d M mc ms nx lv r h cs sl Q
    | .ne, .ref _ :: .null :: r => G d M mc ms p1 lv r h cs sl Q
    | .eq, .null :: .null :: r => G d M mc ms p1 lv r h cs sl Q
    | .ne, .null :: .null :: r => G d M mc ms nx lv r h cs sl Q
    | _, _ => False
  | .tableswitch df lo hi offs => match st with
    | .int x :: r => ∃ t : Nat, (((x.toInt < lo ∨ hi < x.toInt) ∧ (pc : Int) + df = (t : Int)) ∨ (¬ x.toInt < lo ∧ ¬ hi < x.toInt ∧ ∃ off : Int, offs[(x.toInt - lo).toNat]? = some off ∧ (pc : Int) + off = (t : Int))) ∧ G d M mc ms t lv r h cs sl Q
    | _ => False
  | .lookupswitch df ps => match st with
    | .int x :: r => ∃ t : Nat, (pc : Int) + Jvm.Op.lookupswitch.offset ps.toList df x.toInt = (t : Int) ∧ G d M mc ms t lv r h cs sl Q
    | _ => False
  | .getfield _ => match st with
    | .ref a :: r => ∃ (fs : List Value) (v : Value), h a = some (.inr (p1, fs)) ∧ fs[p2]? = some v ∧ G d M mc ms nx lv (v :: r) h cs sl Q
    | _ => False
  | .putfield _ => match st with
    | v :: .ref a :: r => ∃ fs : List Value, h a = some (.inr (p1, fs)) ∧ p2 < fs.length ∧ narrow (x_fty p1 p2) v = v ∧ fits (x_fty p1 p2) v = true ∧ ∀ h' : xH, h' = x_up h a (.inr (p1, fs.set p2 v)) → G d M mc ms nx lv r h' cs sl Q
    | _ => False
  | .getstatic _ => G d M mc ms nx lv (sv p1 :: st) h cs sl Q
  | .new _ => cs + 1 ≤ mc ∧ sl + (x_cn p1).1 ≤ ms ∧ ∀ a : Nat, h a = none → ∀ h' : xH, h' = x_up h a (.inr (p1, (x_cn p1).2)) → G d M mc ms nx lv (.ref a :: st) h' (cs + 1) (sl + (x_cn p1).1) Q
  | .newarray _ => match st with
    | .int n :: r => ¬ n < 0 ∧ n.toNatClampNeg ≤ 1000000 ∧ cs + 1 ≤ mc ∧ sl + n.toNatClampNeg ≤ ms ∧ ∀ a : Nat, h a = none → ∀ h' : xH, h' = x_up h a (.inl (p1, x_zero (x_tys.getD p1 .int) n.toNatClampNeg)) → G d M mc ms nx lv (.ref a :: r) h' (cs + 1) (sl + n.toNatClampNeg) Q
    | _ => False
  | .anewarray _ => match st with
    | .int n :: r => ¬ n < 0 ∧ n.toNatClampNeg ≤ 1000000 ∧ cs + 1 ≤ mc ∧ sl + n.toNatClampNeg ≤ ms ∧ ∀ a : Nat, h a = none → ∀ h' : xH, h' = x_up h a (.inl (p1, n.toNatClampNeg, .inr (.inr (.inr (.inr (fun _ => none)))))) → G d M mc ms nx lv (.ref a :: r) h' (cs + 1) (sl + n.toNatClampNeg) Q
    | _ => False
  | .arraylength => match st with
    | .ref a :: r => ∃ n : Nat, ((∃ (t : Nat) (y : vp_A), h a = some (.inl (t, y)) ∧ t < x_tys.length ∧ y.1 = n) ∨ ∃ f : Nat → Int32, ro a = some (n, f)) ∧ G d M mc ms nx lv (.int (Int32.ofNat n) :: r) h cs sl Q
    | _ => False
  | .iaload => match st with
    | .int i :: .ref a :: r => ∃ (n : Nat) (f : Nat → Int32), ((∃ t : Nat, h a = some (.inl (t, n, .inl f)) ∧ x_tys[t]? = some .int) ∨ ro a = some (n, f)) ∧ vp_in i n ∧ G d M mc ms nx lv (.int (f i.toNatClampNeg) :: r) h cs sl Q
    | _ => False
  | .baload => match st with
    | .int i :: .ref a :: r => ∃ (t n : Nat) (f : Nat → Int32), h a = some (.inl (t, n, .inl f)) ∧ (x_tys[t]? = some .byte ∨ x_tys[t]? = some .boolean) ∧ vp_in i n ∧ G d M mc ms nx lv (.int (f i.toNatClampNeg) :: r) h cs sl Q
    | _ => False
  | .laload => match st with
    | .int i :: .ref a :: r => ∃ (t n : Nat) (f : Nat → Int64), h a = some (.inl (t, n, .inr (.inl f))) ∧ x_tys[t]? = some .long ∧ vp_in i n ∧ G d M mc ms nx lv (.long (f i.toNatClampNeg) :: r) h cs sl Q
    | _ => False
  | .aaload => match st with
    | .int i :: .ref a :: r => ∃ (t n : Nat) (C : String) (f : Nat → Option Nat) (o : Option Nat), h a = some (.inl (t, n, .inr (.inr (.inr (.inr f))))) ∧ x_tys[t]? = some (.object C) ∧ vp_in i n ∧ f i.toNatClampNeg = o ∧ G d M mc ms nx lv (va_rf o :: r) h cs sl Q
    | _ => False
  | .iastore => match st with
    | .int x :: .int i :: .ref a :: r => ∃ (t n : Nat) (f : Nat → Int32), h a = some (.inl (t, n, .inl f)) ∧ x_tys[t]? = some .int ∧ vp_in i n ∧ ∀ h' : xH, h' = x_up h a (.inl (t, n, .inl (upd f i.toNatClampNeg x))) → G d M mc ms nx lv r h' cs sl Q
    | _ => False
  | .bastore => match st with
    | .int x :: .int i :: .ref a :: r => ∃ (t n : Nat) (f : Nat → Int32) (ty : FieldType), h a = some (.inl (t, n, .inl f)) ∧ x_tys[t]? = some ty ∧ (ty = .byte ∨ ty = .boolean) ∧ vp_in i n ∧ ∀ h' : xH, h' = x_up h a (.inl (t, n, .inl (upd f i.toNatClampNeg (vp_nar ty x)))) → G d M mc ms nx lv r h' cs sl Q
    | _ => False
  | .lastore => match st with
    | .long x :: .int i :: .ref a :: r => ∃ (t n : Nat) (f : Nat → Int64), h a = some (.inl (t, n, .inr (.inl f))) ∧ x_tys[t]? = some .long ∧ vp_in i n ∧ ∀ h' : xH, h' = x_up h a (.inl (t, n, .inr (.inl (vp_updL f i.toNatClampNeg x)))) → G d M mc ms nx lv r h' cs sl Q
    | _ => False
  | .aastore => match st with
    | .ref v :: .int i :: .ref a :: r => ∃ (t n ci : Nat) (vs : List Value) (f : Nat → Option Nat), h a = some (.inl (t, n, .inr (.inr (.inr (.inr f))))) ∧ h v = some (.inr (ci, vs)) ∧ x_tys[t]? = (vwCl[ci]?).map (fun q => FieldType.object q.1) ∧ vp_in i n ∧ ∀ h' : xH, h' = x_up h a (.inl (t, n, .inr (.inr (.inr (.inr (va_up f i.toNatClampNeg (some v))))))) → G d M mc ms nx lv r h' cs sl Q
    | .null :: .int i :: .ref a :: r => ∃ (t n : Nat) (C : String) (f : Nat → Option Nat), h a = some (.inl (t, n, .inr (.inr (.inr (.inr f))))) ∧ x_tys[t]? = some (.object C) ∧ vp_in i n ∧ ∀ h' : xH, h' = x_up h a (.inl (t, n, .inr (.inr (.inr (.inr (va_up f i.toNatClampNeg none)))))) → G d M mc ms nx lv r h' cs sl Q
    | _ => False
  | .invokevirtual _ => match x_args p2 st [] with
    | some (As, .ref b :: r) => (∃ fs : List Value, h b = some (.inr ((x_mt p1).2.2.2.2.2.1, fs))) ∧ x_call G d M mc ms nx lv h cs sl Q p1 (.ref b :: As) r
    | _ => False
  | .invokespecial _ => match Nat.beq p1 9000, x_args p2 st [] with
    | true, some (_, .ref _ :: r) => match Nat.ble ((r.map fun v => v.category).sum) 8 with
      | true => G d M mc ms nx lv r h cs sl Q
      | false => False
    | false, some (As, .ref b :: r) => x_call G d M mc ms nx lv h cs sl Q p1 (.ref b :: As) r
    | _, _ => False
  | .invokestatic _ => match Nat.blt p1 9001 with
    | true => match x_args p2 st [] with
      | some (As, r) => x_call G d M mc ms nx lv h cs sl Q p1 As r
      | none => False
    | false => match Nat.beq p1 9001, st with
      | true, .int n :: .int dp :: .ref a1 :: .int sp :: .ref a0 :: r => match Nat.ble ((r.map fun v => v.category).sum) 8 with
        | true => ∃ (t n0 n1 : Nat) (f g : Nat → Int32) (ty : FieldType), h a0 = some (.inl (t, n0, .inl f)) ∧ h a1 = some (.inl (t, n1, .inl g)) ∧ x_tys[t]? = some ty ∧ refKind ty = false ∧ ¬ sp < 0 ∧ ¬ dp < 0 ∧ ¬ n < 0 ∧ sp.toNatClampNeg + n.toNatClampNeg ≤ n0 ∧ dp.toNatClampNeg + n.toNatClampNeg ≤ n1 ∧ (∀ i, i < n.toNatClampNeg → fits ty (.int (f (sp.toNatClampNeg + i))) = true) ∧ ∀ h' : xH, h' = x_up h a1 (.inl (t, n1, .inl (va_cpy f g sp.toNatClampNeg dp.toNatClampNeg n.toNatClampNeg))) → G d M mc ms nx lv r h' cs sl Q
        | false => False
      | false, .int y :: .int x :: r => match Nat.ble ((r.map fun v => v.category).sum) 8 with
        | true => match Nat.beq p1 9002, Nat.beq p1 9003 with
          | true, _ => G d M mc ms nx lv (.int (if x < y then y else x) :: r) h cs sl Q
          | false, true => G d M mc ms nx lv (.int (if y < x then y else x) :: r) h cs sl Q
          | false, false => False
        | false => False
      | _, _ => False
  | .ireturn => match st, (x_mt M).2.2.2.1 with
    | [.int v], some ty => narrow ty (.int v) = .int v ∧ cs ≤ mc ∧ sl ≤ ms ∧ Q (some (.int v)) h
    | _, _ => False
  | .lreturn => match st, (x_mt M).2.2.2.1 with
    | [.long v], some .long => cs ≤ mc ∧ sl ≤ ms ∧ Q (some (.long v)) h
    | _, _ => False
  | .areturn => match st, (x_mt M).2.2.2.1 with
    | [.ref a], some (.object _) => cs ≤ mc ∧ sl ≤ ms ∧ Q (some (.ref a)) h
    | [.null], some (.object _) => cs ≤ mc ∧ sl ≤ ms ∧ Q (some .null) h
    | [.ref a], some (.array _) => cs ≤ mc ∧ sl ≤ ms ∧ Q (some (.ref a)) h
    | [.null], some (.array _) => cs ≤ mc ∧ sl ≤ ms ∧ Q (some .null) h
    | _, _ => False
  | .return_ => match st, (x_mt M).2.2.2.1 with
    | [], none => cs ≤ mc ∧ sl ≤ ms ∧ Q none h
    | _, _ => False
  | _ => False
def x_step (G : xG) (ro : xR) (sv : Nat → Value) (d M mc ms pc : Nat) (lv : xL) (st : List Value) (h : xH) (cs sl : Nat) (Q : xQ) : Prop :=
  match cond (Nat.blt pc (x_mt M).2.2.2.2.2.2.2.1.2.2.2.2) ((x_mt M).2.2.2.2.2.2.2.2 pc) none with
  | some (i, nx, p1, p2, _, kv, k2) => x_do G ro sv d M mc ms pc lv st h cs sl Q i nx p1 p2 kv k2
  | none => False
def x_Good (G : xG) (ro : xR) (sv : Nat → Value) : Prop := ∀ (d M mc ms pc : Nat) (lv : xL) (st : List Value) (h : xH) (cs sl : Nat) (Q : xQ), x_step G ro sv d M mc ms pc lv st h cs sl Q → G d M mc ms pc lv st h cs sl Q

