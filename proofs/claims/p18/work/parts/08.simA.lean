section SIMA
variable {l : Launch} {dC : Nat → ClassId} {dI : Nat → Nat → Nat} {cA : Nat → ClassId} {base : Nat} {ro : xR} {sv : Nat → Value}
variable {p : Program} {e : Env} {R : Room} {s : State} {m : MethodId} {args : Array Value} {below : List Frame} {meth : Method} {c : Code} {H : Heap} {locs : List Loc} {ls : Array Slot} {Z : State → Prop}
variable {d M mc ms pc cs sl p1 p2 : Nat} {lv : xL} {st : List Value} {h : xH} {Q : xQ} {kv : Int32} {k2 : Int64}

theorem x_go {pc' : Nat} {lv' : xL} {st' : List Value} {ls' : Array Slot} (K : x_Hy l dC dI cA base ro sv d M mc ms lv h cs sl Q p e R s m args below meth c H locs ls Z) (hl' : lv_has ls' (x_ml M) lv') (g : x_GW l dC dI cA base ro sv d M mc ms pc' lv' st' h cs sl Q) : W p l e R s m args below meth c H locs cs sl Z (F0 m pc' ls' st') :=
  g p e R s m args below meth c H locs ls' Z K.1 K.2.1 K.2.2.1 hl' K.2.2.2.2

theorem x_blt {a b : Nat} (h : Nat.blt a b = true) : a < b := Nat.le_of_ble_eq_true h
theorem x_mem {lv : xL} {i : Nat} {v : Value} (hg : x_get lv i = some v) : ∃ k : Nat, lv[k]? = some (i, v) := by
  apply List.getElem?_of_mem
  induction lv with
  | nil => simp [x_get] at hg
  | cons q r ih =>
    unfold x_get at hg
    split at hg
    · rename_i hb
      have hq : q.1 = i := Nat.eq_of_beq_eq_true hb
      obtain ⟨q1, q2⟩ := q
      simp only [Option.some.injEq] at hg
      subst hq; subst hg
      exact List.mem_cons_self
    · exact List.mem_cons_of_mem _ (ih hg)

theorem xs_iconst {n : Int} (K : x_Hy l dC dI cA base ro sv d M mc ms lv h cs sl Q p e R s m args below meth c H locs ls Z) (hd : decode (x_b M) pc = .ok (.iconst n, 1)) (hk : Int32.ofInt n = kv) (hs : x_do (x_GW l dC dI cA base ro sv) ro sv d M mc ms pc lv st h cs sl Q (.iconst n) (pc + 1) p1 p2 kv k2) : W p l e R s m args below meth c H locs cs sl Z (F0 m pc ls st) := by
  obtain ⟨⟨⟨hx, hb, hml, hr, hown, hlk, hin, hts⟩, hST, hR, hRet⟩, hW, hS, hl, hcs⟩ := id K
  delta x_do at hs
  dsimp only at hs
  exact lv_iconst hx hb hd hk (x_go K hl hs)

theorem xs_bipush {n : Int} (K : x_Hy l dC dI cA base ro sv d M mc ms lv h cs sl Q p e R s m args below meth c H locs ls Z) (hd : decode (x_b M) pc = .ok (.bipush n, 2)) (hk : (Int8.ofInt n).toInt32 = kv) (hs : x_do (x_GW l dC dI cA base ro sv) ro sv d M mc ms pc lv st h cs sl Q (.bipush n) (pc + 2) p1 p2 kv k2) : W p l e R s m args below meth c H locs cs sl Z (F0 m pc ls st) := by
  obtain ⟨⟨⟨hx, hb, hml, hr, hown, hlk, hin, hts⟩, hST, hR, hRet⟩, hW, hS, hl, hcs⟩ := id K
  delta x_do at hs
  dsimp only at hs
  exact lv_bipush hx hb hd hk (x_go K hl hs)

theorem xs_sipush {n : Int} (K : x_Hy l dC dI cA base ro sv d M mc ms lv h cs sl Q p e R s m args below meth c H locs ls Z) (hd : decode (x_b M) pc = .ok (.sipush n, 3)) (hk : (Int16.ofInt n).toInt32 = kv) (hs : x_do (x_GW l dC dI cA base ro sv) ro sv d M mc ms pc lv st h cs sl Q (.sipush n) (pc + 3) p1 p2 kv k2) : W p l e R s m args below meth c H locs cs sl Z (F0 m pc ls st) := by
  obtain ⟨⟨⟨hx, hb, hml, hr, hown, hlk, hin, hts⟩, hST, hR, hRet⟩, hW, hS, hl, hcs⟩ := id K
  delta x_do at hs
  dsimp only at hs
  exact lv_sipush hx hb hd hk (x_go K hl hs)

theorem xs_ldc {n : Nat} (K : x_Hy l dC dI cA base ro sv d M mc ms lv h cs sl Q p e R s m args below meth c H locs ls Z) (hd : decode (x_b M) pc = .ok (.ldc n, 2)) (hk : Cond.constant (x_y M).cls n kv ∈ x_T) (hs : x_do (x_GW l dC dI cA base ro sv) ro sv d M mc ms pc lv st h cs sl Q (.ldc n) (pc + 2) p1 p2 kv k2) : W p l e R s m args below meth c H locs cs sl Z (F0 m pc ls st) := by
  obtain ⟨⟨⟨hx, hb, hml, hr, hown, hlk, hin, hts⟩, hST, hR, hRet⟩, hW, hS, hl, hcs⟩ := id K
  delta x_do at hs
  dsimp only at hs
  exact lv_ldc hx hb hown (hts _ hk) hd (x_go K hl hs)

theorem xs_ldcw {n : Nat} (K : x_Hy l dC dI cA base ro sv d M mc ms lv h cs sl Q p e R s m args below meth c H locs ls Z) (hd : decode (x_b M) pc = .ok (.ldc_w n, 3)) (hk : Cond.constant (x_y M).cls n kv ∈ x_T) (hs : x_do (x_GW l dC dI cA base ro sv) ro sv d M mc ms pc lv st h cs sl Q (.ldc_w n) (pc + 3) p1 p2 kv k2) : W p l e R s m args below meth c H locs cs sl Z (F0 m pc ls st) := by
  obtain ⟨⟨⟨hx, hb, hml, hr, hown, hlk, hin, hts⟩, hST, hR, hRet⟩, hW, hS, hl, hcs⟩ := id K
  delta x_do at hs
  dsimp only at hs
  exact lv_ldcw hx hb hown (hts _ hk) hd (x_go K hl hs)

theorem xs_lconst {n : Fin 2} (K : x_Hy l dC dI cA base ro sv d M mc ms lv h cs sl Q p e R s m args below meth c H locs ls Z) (hd : decode (x_b M) pc = .ok (.lconst n, 1)) (hk : Int64.ofNat (n : Nat) = k2) (hs : x_do (x_GW l dC dI cA base ro sv) ro sv d M mc ms pc lv st h cs sl Q (.lconst n) (pc + 1) p1 p2 kv k2) : W p l e R s m args below meth c H locs cs sl Z (F0 m pc ls st) := by
  obtain ⟨⟨⟨hx, hb, hml, hr, hown, hlk, hin, hts⟩, hST, hR, hRet⟩, hW, hS, hl, hcs⟩ := id K
  delta x_do at hs
  dsimp only at hs
  exact lv_lconst hx hb hd hk (x_go K hl hs)

theorem xs_ldc2 {n : Nat} (K : x_Hy l dC dI cA base ro sv d M mc ms lv h cs sl Q p e R s m args below meth c H locs ls Z) (hd : decode (x_b M) pc = .ok (.ldc2_w n, 3)) (hk : Cond.constantLong (x_y M).cls n k2 ∈ x_T) (hs : x_do (x_GW l dC dI cA base ro sv) ro sv d M mc ms pc lv st h cs sl Q (.ldc2_w n) (pc + 3) p1 p2 kv k2) : W p l e R s m args below meth c H locs cs sl Z (F0 m pc ls st) := by
  obtain ⟨⟨⟨hx, hb, hml, hr, hown, hlk, hin, hts⟩, hST, hR, hRet⟩, hW, hS, hl, hcs⟩ := id K
  delta x_do at hs
  dsimp only at hs
  exact lv_ldc2 hx hb hown (hts _ hk) hd (x_go K hl hs)

theorem xs_null (K : x_Hy l dC dI cA base ro sv d M mc ms lv h cs sl Q p e R s m args below meth c H locs ls Z) (hd : decode (x_b M) pc = .ok (.aconst_null, 1)) (hs : x_do (x_GW l dC dI cA base ro sv) ro sv d M mc ms pc lv st h cs sl Q (.aconst_null) (pc + 1) p1 p2 kv k2) : W p l e R s m args below meth c H locs cs sl Z (F0 m pc ls st) := by
  obtain ⟨⟨⟨hx, hb, hml, hr, hown, hlk, hin, hts⟩, hST, hR, hRet⟩, hW, hS, hl, hcs⟩ := id K
  delta x_do at hs
  dsimp only at hs
  exact lv_null hx hb hd (x_go K hl hs)

theorem xs_iload {i : Nat} (K : x_Hy l dC dI cA base ro sv d M mc ms lv h cs sl Q p e R s m args below meth c H locs ls Z) (hd : decode (x_b M) pc = .ok (.iload i, 2)) (hs : x_do (x_GW l dC dI cA base ro sv) ro sv d M mc ms pc lv st h cs sl Q (.iload i) (pc + 2) p1 p2 kv k2) : W p l e R s m args below meth c H locs cs sl Z (F0 m pc ls st) := by
  obtain ⟨⟨⟨hx, hb, hml, hr, hown, hlk, hin, hts⟩, hST, hR, hRet⟩, hW, hS, hl, hcs⟩ := id K
  delta x_do at hs
  dsimp only at hs
  split at hs
  · rename_i hg
    exact lv_iload hx hb hd (x_get_at hl hg) (x_go K hl hs)
  · exact hs.elim

theorem xs_iload_n {k : Fin 4} (K : x_Hy l dC dI cA base ro sv d M mc ms lv h cs sl Q p e R s m args below meth c H locs ls Z) (hd : decode (x_b M) pc = .ok (.iload_n k, 1)) (hs : x_do (x_GW l dC dI cA base ro sv) ro sv d M mc ms pc lv st h cs sl Q (.iload_n k) (pc + 1) p1 p2 kv k2) : W p l e R s m args below meth c H locs cs sl Z (F0 m pc ls st) := by
  obtain ⟨⟨⟨hx, hb, hml, hr, hown, hlk, hin, hts⟩, hST, hR, hRet⟩, hW, hS, hl, hcs⟩ := id K
  delta x_do at hs
  dsimp only at hs
  split at hs
  · rename_i hg
    exact lv_iload_n hx hb hd rfl (x_get_at hl hg) (x_go K hl hs)
  · exact hs.elim

theorem xs_lload {i : Nat} (K : x_Hy l dC dI cA base ro sv d M mc ms lv h cs sl Q p e R s m args below meth c H locs ls Z) (hd : decode (x_b M) pc = .ok (.lload i, 2)) (hs : x_do (x_GW l dC dI cA base ro sv) ro sv d M mc ms pc lv st h cs sl Q (.lload i) (pc + 2) p1 p2 kv k2) : W p l e R s m args below meth c H locs cs sl Z (F0 m pc ls st) := by
  obtain ⟨⟨⟨hx, hb, hml, hr, hown, hlk, hin, hts⟩, hST, hR, hRet⟩, hW, hS, hl, hcs⟩ := id K
  delta x_do at hs
  dsimp only at hs
  split at hs
  · rename_i hg
    exact lv_lload hx hb hd (x_get_at hl hg) (x_go K hl hs)
  · exact hs.elim

theorem xs_lload_n {k : Fin 4} (K : x_Hy l dC dI cA base ro sv d M mc ms lv h cs sl Q p e R s m args below meth c H locs ls Z) (hd : decode (x_b M) pc = .ok (.lload_n k, 1)) (hs : x_do (x_GW l dC dI cA base ro sv) ro sv d M mc ms pc lv st h cs sl Q (.lload_n k) (pc + 1) p1 p2 kv k2) : W p l e R s m args below meth c H locs cs sl Z (F0 m pc ls st) := by
  obtain ⟨⟨⟨hx, hb, hml, hr, hown, hlk, hin, hts⟩, hST, hR, hRet⟩, hW, hS, hl, hcs⟩ := id K
  delta x_do at hs
  dsimp only at hs
  split at hs
  · rename_i hg
    exact lv_lload_n hx hb hd rfl (x_get_at hl hg) (x_go K hl hs)
  · exact hs.elim

theorem xs_aload {i : Nat} (K : x_Hy l dC dI cA base ro sv d M mc ms lv h cs sl Q p e R s m args below meth c H locs ls Z) (hd : decode (x_b M) pc = .ok (.aload i, 2)) (hs : x_do (x_GW l dC dI cA base ro sv) ro sv d M mc ms pc lv st h cs sl Q (.aload i) (pc + 2) p1 p2 kv k2) : W p l e R s m args below meth c H locs cs sl Z (F0 m pc ls st) := by
  obtain ⟨⟨⟨hx, hb, hml, hr, hown, hlk, hin, hts⟩, hST, hR, hRet⟩, hW, hS, hl, hcs⟩ := id K
  delta x_do at hs
  dsimp only at hs
  split at hs
  · rename_i hg
    exact lv_aload hx hb hd (x_get_at hl hg) (x_go K hl hs)
  · rename_i hg
    exact lv_aloadN hx hb hd (x_get_at hl hg) (x_go K hl hs)
  · exact hs.elim

theorem xs_aload_n {k : Fin 4} (K : x_Hy l dC dI cA base ro sv d M mc ms lv h cs sl Q p e R s m args below meth c H locs ls Z) (hd : decode (x_b M) pc = .ok (.aload_n k, 1)) (hs : x_do (x_GW l dC dI cA base ro sv) ro sv d M mc ms pc lv st h cs sl Q (.aload_n k) (pc + 1) p1 p2 kv k2) : W p l e R s m args below meth c H locs cs sl Z (F0 m pc ls st) := by
  obtain ⟨⟨⟨hx, hb, hml, hr, hown, hlk, hin, hts⟩, hST, hR, hRet⟩, hW, hS, hl, hcs⟩ := id K
  delta x_do at hs
  dsimp only at hs
  split at hs
  · rename_i hg
    exact lv_aload_n hx hb hd rfl (x_get_at hl hg) (x_go K hl hs)
  · rename_i hg
    exact lv_aload_nN hx hb hd rfl (x_get_at hl hg) (x_go K hl hs)
  · exact hs.elim

theorem xs_istore {i : Nat} (K : x_Hy l dC dI cA base ro sv d M mc ms lv h cs sl Q p e R s m args below meth c H locs ls Z) (hd : decode (x_b M) pc = .ok (.istore i, 2)) (hs : x_do (x_GW l dC dI cA base ro sv) ro sv d M mc ms pc lv st h cs sl Q (.istore i) (pc + 2) p1 p2 kv k2) : W p l e R s m args below meth c H locs cs sl Z (F0 m pc ls st) := by
  obtain ⟨⟨⟨hx, hb, hml, hr, hown, hlk, hin, hts⟩, hST, hR, hRet⟩, hW, hS, hl, hcs⟩ := id K
  delta x_do at hs
  dsimp only at hs
  split at hs
  · rename_i hg
    exact lv_istore hx hb hd hl (x_blt hg) rfl (fun ls' hl' => x_go K hl' hs)
  · exact hs.elim

theorem xs_istore_n {k : Fin 4} (K : x_Hy l dC dI cA base ro sv d M mc ms lv h cs sl Q p e R s m args below meth c H locs ls Z) (hd : decode (x_b M) pc = .ok (.istore_n k, 1)) (hs : x_do (x_GW l dC dI cA base ro sv) ro sv d M mc ms pc lv st h cs sl Q (.istore_n k) (pc + 1) p1 p2 kv k2) : W p l e R s m args below meth c H locs cs sl Z (F0 m pc ls st) := by
  obtain ⟨⟨⟨hx, hb, hml, hr, hown, hlk, hin, hts⟩, hST, hR, hRet⟩, hW, hS, hl, hcs⟩ := id K
  delta x_do at hs
  dsimp only at hs
  split at hs
  · rename_i hg
    exact lv_istore_n hx hb hd rfl hl (x_blt hg) rfl (fun ls' hl' => x_go K hl' hs)
  · exact hs.elim

theorem xs_lstore {i : Nat} (K : x_Hy l dC dI cA base ro sv d M mc ms lv h cs sl Q p e R s m args below meth c H locs ls Z) (hd : decode (x_b M) pc = .ok (.lstore i, 2)) (hs : x_do (x_GW l dC dI cA base ro sv) ro sv d M mc ms pc lv st h cs sl Q (.lstore i) (pc + 2) p1 p2 kv k2) : W p l e R s m args below meth c H locs cs sl Z (F0 m pc ls st) := by
  obtain ⟨⟨⟨hx, hb, hml, hr, hown, hlk, hin, hts⟩, hST, hR, hRet⟩, hW, hS, hl, hcs⟩ := id K
  delta x_do at hs
  dsimp only at hs
  split at hs
  · rename_i hg
    exact lv_lstore hx hb hd hl (x_blt hg) rfl (fun ls' hl' => x_go K hl' hs)
  · exact hs.elim

theorem xs_lstore_n {k : Fin 4} (K : x_Hy l dC dI cA base ro sv d M mc ms lv h cs sl Q p e R s m args below meth c H locs ls Z) (hd : decode (x_b M) pc = .ok (.lstore_n k, 1)) (hs : x_do (x_GW l dC dI cA base ro sv) ro sv d M mc ms pc lv st h cs sl Q (.lstore_n k) (pc + 1) p1 p2 kv k2) : W p l e R s m args below meth c H locs cs sl Z (F0 m pc ls st) := by
  obtain ⟨⟨⟨hx, hb, hml, hr, hown, hlk, hin, hts⟩, hST, hR, hRet⟩, hW, hS, hl, hcs⟩ := id K
  delta x_do at hs
  dsimp only at hs
  split at hs
  · rename_i hg
    exact lv_lstore_n hx hb hd rfl hl (x_blt hg) rfl (fun ls' hl' => x_go K hl' hs)
  · exact hs.elim

theorem xs_astore {i : Nat} (K : x_Hy l dC dI cA base ro sv d M mc ms lv h cs sl Q p e R s m args below meth c H locs ls Z) (hd : decode (x_b M) pc = .ok (.astore i, 2)) (hs : x_do (x_GW l dC dI cA base ro sv) ro sv d M mc ms pc lv st h cs sl Q (.astore i) (pc + 2) p1 p2 kv k2) : W p l e R s m args below meth c H locs cs sl Z (F0 m pc ls st) := by
  obtain ⟨⟨⟨hx, hb, hml, hr, hown, hlk, hin, hts⟩, hST, hR, hRet⟩, hW, hS, hl, hcs⟩ := id K
  delta x_do at hs
  dsimp only at hs
  split at hs
  · rename_i hg
    exact lv_astore hx hb hd hl (x_blt hg) rfl (fun ls' hl' => x_go K hl' hs)
  · rename_i hg
    exact lv_astoreN hx hb hd hl (x_blt hg) rfl (fun ls' hl' => x_go K hl' hs)
  · exact hs.elim

theorem xs_astore_n {k : Fin 4} (K : x_Hy l dC dI cA base ro sv d M mc ms lv h cs sl Q p e R s m args below meth c H locs ls Z) (hd : decode (x_b M) pc = .ok (.astore_n k, 1)) (hs : x_do (x_GW l dC dI cA base ro sv) ro sv d M mc ms pc lv st h cs sl Q (.astore_n k) (pc + 1) p1 p2 kv k2) : W p l e R s m args below meth c H locs cs sl Z (F0 m pc ls st) := by
  obtain ⟨⟨⟨hx, hb, hml, hr, hown, hlk, hin, hts⟩, hST, hR, hRet⟩, hW, hS, hl, hcs⟩ := id K
  delta x_do at hs
  dsimp only at hs
  split at hs
  · rename_i hg
    exact lv_astore_n hx hb hd rfl hl (x_blt hg) rfl (fun ls' hl' => x_go K hl' hs)
  · rename_i hg
    exact lv_astore_nN hx hb hd rfl hl (x_blt hg) rfl (fun ls' hl' => x_go K hl' hs)
  · exact hs.elim

theorem xs_iinc {i : Nat} {n : Int} (K : x_Hy l dC dI cA base ro sv d M mc ms lv h cs sl Q p e R s m args below meth c H locs ls Z) (hd : decode (x_b M) pc = .ok (.iinc i n, 3)) (hk : Int32.ofInt n = kv) (hs : x_do (x_GW l dC dI cA base ro sv) ro sv d M mc ms pc lv st h cs sl Q (.iinc i n) (pc + 3) p1 p2 kv k2) : W p l e R s m args below meth c H locs cs sl Z (F0 m pc ls st) := by
  obtain ⟨⟨⟨hx, hb, hml, hr, hown, hlk, hin, hts⟩, hST, hR, hRet⟩, hW, hS, hl, hcs⟩ := id K
  delta x_do at hs
  dsimp only at hs
  split at hs
  · rename_i hg hg2
    obtain ⟨k, hk1⟩ := x_mem hg
    exact lv_iinc hx hb hd hl hk1 (by rw [hk]) (x_blt hg2) rfl (fun ls' hl' => x_go K hl' hs)
  · exact hs.elim

theorem xs_iadd (K : x_Hy l dC dI cA base ro sv d M mc ms lv h cs sl Q p e R s m args below meth c H locs ls Z) (hd : decode (x_b M) pc = .ok (.iadd, 1)) (hs : x_do (x_GW l dC dI cA base ro sv) ro sv d M mc ms pc lv st h cs sl Q (.iadd) (pc + 1) p1 p2 kv k2) : W p l e R s m args below meth c H locs cs sl Z (F0 m pc ls st) := by
  obtain ⟨⟨⟨hx, hb, hml, hr, hown, hlk, hin, hts⟩, hST, hR, hRet⟩, hW, hS, hl, hcs⟩ := id K
  delta x_do at hs
  dsimp only at hs
  split at hs
  · exact lv_iadd hx hb hd (x_go K hl hs)
  · exact hs.elim

theorem xs_isub (K : x_Hy l dC dI cA base ro sv d M mc ms lv h cs sl Q p e R s m args below meth c H locs ls Z) (hd : decode (x_b M) pc = .ok (.isub, 1)) (hs : x_do (x_GW l dC dI cA base ro sv) ro sv d M mc ms pc lv st h cs sl Q (.isub) (pc + 1) p1 p2 kv k2) : W p l e R s m args below meth c H locs cs sl Z (F0 m pc ls st) := by
  obtain ⟨⟨⟨hx, hb, hml, hr, hown, hlk, hin, hts⟩, hST, hR, hRet⟩, hW, hS, hl, hcs⟩ := id K
  delta x_do at hs
  dsimp only at hs
  split at hs
  · exact lv_isub hx hb hd (x_go K hl hs)
  · exact hs.elim

theorem xs_imul (K : x_Hy l dC dI cA base ro sv d M mc ms lv h cs sl Q p e R s m args below meth c H locs ls Z) (hd : decode (x_b M) pc = .ok (.imul, 1)) (hs : x_do (x_GW l dC dI cA base ro sv) ro sv d M mc ms pc lv st h cs sl Q (.imul) (pc + 1) p1 p2 kv k2) : W p l e R s m args below meth c H locs cs sl Z (F0 m pc ls st) := by
  obtain ⟨⟨⟨hx, hb, hml, hr, hown, hlk, hin, hts⟩, hST, hR, hRet⟩, hW, hS, hl, hcs⟩ := id K
  delta x_do at hs
  dsimp only at hs
  split at hs
  · exact lv_imul hx hb hd (x_go K hl hs)
  · exact hs.elim

theorem xs_iand (K : x_Hy l dC dI cA base ro sv d M mc ms lv h cs sl Q p e R s m args below meth c H locs ls Z) (hd : decode (x_b M) pc = .ok (.iand, 1)) (hs : x_do (x_GW l dC dI cA base ro sv) ro sv d M mc ms pc lv st h cs sl Q (.iand) (pc + 1) p1 p2 kv k2) : W p l e R s m args below meth c H locs cs sl Z (F0 m pc ls st) := by
  obtain ⟨⟨⟨hx, hb, hml, hr, hown, hlk, hin, hts⟩, hST, hR, hRet⟩, hW, hS, hl, hcs⟩ := id K
  delta x_do at hs
  dsimp only at hs
  split at hs
  · exact lv_iand hx hb hd (x_go K hl hs)
  · exact hs.elim

theorem xs_ior (K : x_Hy l dC dI cA base ro sv d M mc ms lv h cs sl Q p e R s m args below meth c H locs ls Z) (hd : decode (x_b M) pc = .ok (.ior, 1)) (hs : x_do (x_GW l dC dI cA base ro sv) ro sv d M mc ms pc lv st h cs sl Q (.ior) (pc + 1) p1 p2 kv k2) : W p l e R s m args below meth c H locs cs sl Z (F0 m pc ls st) := by
  obtain ⟨⟨⟨hx, hb, hml, hr, hown, hlk, hin, hts⟩, hST, hR, hRet⟩, hW, hS, hl, hcs⟩ := id K
  delta x_do at hs
  dsimp only at hs
  split at hs
  · exact lv_ior hx hb hd (x_go K hl hs)
  · exact hs.elim

theorem xs_ixor (K : x_Hy l dC dI cA base ro sv d M mc ms lv h cs sl Q p e R s m args below meth c H locs ls Z) (hd : decode (x_b M) pc = .ok (.ixor, 1)) (hs : x_do (x_GW l dC dI cA base ro sv) ro sv d M mc ms pc lv st h cs sl Q (.ixor) (pc + 1) p1 p2 kv k2) : W p l e R s m args below meth c H locs cs sl Z (F0 m pc ls st) := by
  obtain ⟨⟨⟨hx, hb, hml, hr, hown, hlk, hin, hts⟩, hST, hR, hRet⟩, hW, hS, hl, hcs⟩ := id K
  delta x_do at hs
  dsimp only at hs
  split at hs
  · exact lv_ixor hx hb hd (x_go K hl hs)
  · exact hs.elim

theorem xs_ishl (K : x_Hy l dC dI cA base ro sv d M mc ms lv h cs sl Q p e R s m args below meth c H locs ls Z) (hd : decode (x_b M) pc = .ok (.ishl, 1)) (hs : x_do (x_GW l dC dI cA base ro sv) ro sv d M mc ms pc lv st h cs sl Q (.ishl) (pc + 1) p1 p2 kv k2) : W p l e R s m args below meth c H locs cs sl Z (F0 m pc ls st) := by
  obtain ⟨⟨⟨hx, hb, hml, hr, hown, hlk, hin, hts⟩, hST, hR, hRet⟩, hW, hS, hl, hcs⟩ := id K
  delta x_do at hs
  dsimp only at hs
  split at hs
  · exact lv_ishl hx hb hd (x_go K hl hs)
  · exact hs.elim

theorem xs_ishr (K : x_Hy l dC dI cA base ro sv d M mc ms lv h cs sl Q p e R s m args below meth c H locs ls Z) (hd : decode (x_b M) pc = .ok (.ishr, 1)) (hs : x_do (x_GW l dC dI cA base ro sv) ro sv d M mc ms pc lv st h cs sl Q (.ishr) (pc + 1) p1 p2 kv k2) : W p l e R s m args below meth c H locs cs sl Z (F0 m pc ls st) := by
  obtain ⟨⟨⟨hx, hb, hml, hr, hown, hlk, hin, hts⟩, hST, hR, hRet⟩, hW, hS, hl, hcs⟩ := id K
  delta x_do at hs
  dsimp only at hs
  split at hs
  · exact lv_ishr hx hb hd (x_go K hl hs)
  · exact hs.elim

theorem xs_ladd (K : x_Hy l dC dI cA base ro sv d M mc ms lv h cs sl Q p e R s m args below meth c H locs ls Z) (hd : decode (x_b M) pc = .ok (.ladd, 1)) (hs : x_do (x_GW l dC dI cA base ro sv) ro sv d M mc ms pc lv st h cs sl Q (.ladd) (pc + 1) p1 p2 kv k2) : W p l e R s m args below meth c H locs cs sl Z (F0 m pc ls st) := by
  obtain ⟨⟨⟨hx, hb, hml, hr, hown, hlk, hin, hts⟩, hST, hR, hRet⟩, hW, hS, hl, hcs⟩ := id K
  delta x_do at hs
  dsimp only at hs
  split at hs
  · exact lv_ladd hx hb hd (x_go K hl hs)
  · exact hs.elim

theorem xs_lsub (K : x_Hy l dC dI cA base ro sv d M mc ms lv h cs sl Q p e R s m args below meth c H locs ls Z) (hd : decode (x_b M) pc = .ok (.lsub, 1)) (hs : x_do (x_GW l dC dI cA base ro sv) ro sv d M mc ms pc lv st h cs sl Q (.lsub) (pc + 1) p1 p2 kv k2) : W p l e R s m args below meth c H locs cs sl Z (F0 m pc ls st) := by
  obtain ⟨⟨⟨hx, hb, hml, hr, hown, hlk, hin, hts⟩, hST, hR, hRet⟩, hW, hS, hl, hcs⟩ := id K
  delta x_do at hs
  dsimp only at hs
  split at hs
  · exact lv_lsub hx hb hd (x_go K hl hs)
  · exact hs.elim

theorem xs_lmul (K : x_Hy l dC dI cA base ro sv d M mc ms lv h cs sl Q p e R s m args below meth c H locs ls Z) (hd : decode (x_b M) pc = .ok (.lmul, 1)) (hs : x_do (x_GW l dC dI cA base ro sv) ro sv d M mc ms pc lv st h cs sl Q (.lmul) (pc + 1) p1 p2 kv k2) : W p l e R s m args below meth c H locs cs sl Z (F0 m pc ls st) := by
  obtain ⟨⟨⟨hx, hb, hml, hr, hown, hlk, hin, hts⟩, hST, hR, hRet⟩, hW, hS, hl, hcs⟩ := id K
  delta x_do at hs
  dsimp only at hs
  split at hs
  · exact lv_lmul hx hb hd (x_go K hl hs)
  · exact hs.elim

theorem xs_land (K : x_Hy l dC dI cA base ro sv d M mc ms lv h cs sl Q p e R s m args below meth c H locs ls Z) (hd : decode (x_b M) pc = .ok (.land, 1)) (hs : x_do (x_GW l dC dI cA base ro sv) ro sv d M mc ms pc lv st h cs sl Q (.land) (pc + 1) p1 p2 kv k2) : W p l e R s m args below meth c H locs cs sl Z (F0 m pc ls st) := by
  obtain ⟨⟨⟨hx, hb, hml, hr, hown, hlk, hin, hts⟩, hST, hR, hRet⟩, hW, hS, hl, hcs⟩ := id K
  delta x_do at hs
  dsimp only at hs
  split at hs
  · exact lv_land hx hb hd (x_go K hl hs)
  · exact hs.elim

theorem xs_lor (K : x_Hy l dC dI cA base ro sv d M mc ms lv h cs sl Q p e R s m args below meth c H locs ls Z) (hd : decode (x_b M) pc = .ok (.lor, 1)) (hs : x_do (x_GW l dC dI cA base ro sv) ro sv d M mc ms pc lv st h cs sl Q (.lor) (pc + 1) p1 p2 kv k2) : W p l e R s m args below meth c H locs cs sl Z (F0 m pc ls st) := by
  obtain ⟨⟨⟨hx, hb, hml, hr, hown, hlk, hin, hts⟩, hST, hR, hRet⟩, hW, hS, hl, hcs⟩ := id K
  delta x_do at hs
  dsimp only at hs
  split at hs
  · exact lv_lor hx hb hd (x_go K hl hs)
  · exact hs.elim

theorem xs_lxor (K : x_Hy l dC dI cA base ro sv d M mc ms lv h cs sl Q p e R s m args below meth c H locs ls Z) (hd : decode (x_b M) pc = .ok (.lxor, 1)) (hs : x_do (x_GW l dC dI cA base ro sv) ro sv d M mc ms pc lv st h cs sl Q (.lxor) (pc + 1) p1 p2 kv k2) : W p l e R s m args below meth c H locs cs sl Z (F0 m pc ls st) := by
  obtain ⟨⟨⟨hx, hb, hml, hr, hown, hlk, hin, hts⟩, hST, hR, hRet⟩, hW, hS, hl, hcs⟩ := id K
  delta x_do at hs
  dsimp only at hs
  split at hs
  · exact lv_lxor hx hb hd (x_go K hl hs)
  · exact hs.elim

theorem xs_iushr (K : x_Hy l dC dI cA base ro sv d M mc ms lv h cs sl Q p e R s m args below meth c H locs ls Z) (hd : decode (x_b M) pc = .ok (.iushr, 1)) (hs : x_do (x_GW l dC dI cA base ro sv) ro sv d M mc ms pc lv st h cs sl Q (.iushr) (pc + 1) p1 p2 kv k2) : W p l e R s m args below meth c H locs cs sl Z (F0 m pc ls st) := by
  obtain ⟨⟨⟨hx, hb, hml, hr, hown, hlk, hin, hts⟩, hST, hR, hRet⟩, hW, hS, hl, hcs⟩ := id K
  delta x_do at hs
  dsimp only at hs
  split at hs
  · exact lv_iushr hx hb hd rfl (x_go K hl hs)
  · exact hs.elim

theorem xs_lshl (K : x_Hy l dC dI cA base ro sv d M mc ms lv h cs sl Q p e R s m args below meth c H locs ls Z) (hd : decode (x_b M) pc = .ok (.lshl, 1)) (hs : x_do (x_GW l dC dI cA base ro sv) ro sv d M mc ms pc lv st h cs sl Q (.lshl) (pc + 1) p1 p2 kv k2) : W p l e R s m args below meth c H locs cs sl Z (F0 m pc ls st) := by
  obtain ⟨⟨⟨hx, hb, hml, hr, hown, hlk, hin, hts⟩, hST, hR, hRet⟩, hW, hS, hl, hcs⟩ := id K
  delta x_do at hs
  dsimp only at hs
  split at hs
  · exact lv_lshl hx hb hd rfl (x_go K hl hs)
  · exact hs.elim

theorem xs_lshr (K : x_Hy l dC dI cA base ro sv d M mc ms lv h cs sl Q p e R s m args below meth c H locs ls Z) (hd : decode (x_b M) pc = .ok (.lshr, 1)) (hs : x_do (x_GW l dC dI cA base ro sv) ro sv d M mc ms pc lv st h cs sl Q (.lshr) (pc + 1) p1 p2 kv k2) : W p l e R s m args below meth c H locs cs sl Z (F0 m pc ls st) := by
  obtain ⟨⟨⟨hx, hb, hml, hr, hown, hlk, hin, hts⟩, hST, hR, hRet⟩, hW, hS, hl, hcs⟩ := id K
  delta x_do at hs
  dsimp only at hs
  split at hs
  · exact lv_lshr hx hb hd rfl (x_go K hl hs)
  · exact hs.elim

theorem xs_lushr (K : x_Hy l dC dI cA base ro sv d M mc ms lv h cs sl Q p e R s m args below meth c H locs ls Z) (hd : decode (x_b M) pc = .ok (.lushr, 1)) (hs : x_do (x_GW l dC dI cA base ro sv) ro sv d M mc ms pc lv st h cs sl Q (.lushr) (pc + 1) p1 p2 kv k2) : W p l e R s m args below meth c H locs cs sl Z (F0 m pc ls st) := by
  obtain ⟨⟨⟨hx, hb, hml, hr, hown, hlk, hin, hts⟩, hST, hR, hRet⟩, hW, hS, hl, hcs⟩ := id K
  delta x_do at hs
  dsimp only at hs
  split at hs
  · exact lv_lushr hx hb hd rfl (x_go K hl hs)
  · exact hs.elim

theorem xs_i2l (K : x_Hy l dC dI cA base ro sv d M mc ms lv h cs sl Q p e R s m args below meth c H locs ls Z) (hd : decode (x_b M) pc = .ok (.i2l, 1)) (hs : x_do (x_GW l dC dI cA base ro sv) ro sv d M mc ms pc lv st h cs sl Q (.i2l) (pc + 1) p1 p2 kv k2) : W p l e R s m args below meth c H locs cs sl Z (F0 m pc ls st) := by
  obtain ⟨⟨⟨hx, hb, hml, hr, hown, hlk, hin, hts⟩, hST, hR, hRet⟩, hW, hS, hl, hcs⟩ := id K
  delta x_do at hs
  dsimp only at hs
  split at hs
  · exact lv_i2l hx hb hd rfl (x_go K hl hs)
  · exact hs.elim

theorem xs_l2i (K : x_Hy l dC dI cA base ro sv d M mc ms lv h cs sl Q p e R s m args below meth c H locs ls Z) (hd : decode (x_b M) pc = .ok (.l2i, 1)) (hs : x_do (x_GW l dC dI cA base ro sv) ro sv d M mc ms pc lv st h cs sl Q (.l2i) (pc + 1) p1 p2 kv k2) : W p l e R s m args below meth c H locs cs sl Z (F0 m pc ls st) := by
  obtain ⟨⟨⟨hx, hb, hml, hr, hown, hlk, hin, hts⟩, hST, hR, hRet⟩, hW, hS, hl, hcs⟩ := id K
  delta x_do at hs
  dsimp only at hs
  split at hs
  · exact lv_l2i hx hb hd rfl (x_go K hl hs)
  · exact hs.elim

theorem xs_i2b (K : x_Hy l dC dI cA base ro sv d M mc ms lv h cs sl Q p e R s m args below meth c H locs ls Z) (hd : decode (x_b M) pc = .ok (.i2b, 1)) (hs : x_do (x_GW l dC dI cA base ro sv) ro sv d M mc ms pc lv st h cs sl Q (.i2b) (pc + 1) p1 p2 kv k2) : W p l e R s m args below meth c H locs cs sl Z (F0 m pc ls st) := by
  obtain ⟨⟨⟨hx, hb, hml, hr, hown, hlk, hin, hts⟩, hST, hR, hRet⟩, hW, hS, hl, hcs⟩ := id K
  delta x_do at hs
  dsimp only at hs
  split at hs
  · exact lv_i2b hx hb hd rfl (x_go K hl hs)
  · exact hs.elim

theorem xs_i2s (K : x_Hy l dC dI cA base ro sv d M mc ms lv h cs sl Q p e R s m args below meth c H locs ls Z) (hd : decode (x_b M) pc = .ok (.i2s, 1)) (hs : x_do (x_GW l dC dI cA base ro sv) ro sv d M mc ms pc lv st h cs sl Q (.i2s) (pc + 1) p1 p2 kv k2) : W p l e R s m args below meth c H locs cs sl Z (F0 m pc ls st) := by
  obtain ⟨⟨⟨hx, hb, hml, hr, hown, hlk, hin, hts⟩, hST, hR, hRet⟩, hW, hS, hl, hcs⟩ := id K
  delta x_do at hs
  dsimp only at hs
  split at hs
  · exact lv_i2s hx hb hd rfl (x_go K hl hs)
  · exact hs.elim

theorem xs_i2c (K : x_Hy l dC dI cA base ro sv d M mc ms lv h cs sl Q p e R s m args below meth c H locs ls Z) (hd : decode (x_b M) pc = .ok (.i2c, 1)) (hs : x_do (x_GW l dC dI cA base ro sv) ro sv d M mc ms pc lv st h cs sl Q (.i2c) (pc + 1) p1 p2 kv k2) : W p l e R s m args below meth c H locs cs sl Z (F0 m pc ls st) := by
  obtain ⟨⟨⟨hx, hb, hml, hr, hown, hlk, hin, hts⟩, hST, hR, hRet⟩, hW, hS, hl, hcs⟩ := id K
  delta x_do at hs
  dsimp only at hs
  split at hs
  · exact lv_i2c hx hb hd rfl (x_go K hl hs)
  · exact hs.elim

theorem xs_idiv (K : x_Hy l dC dI cA base ro sv d M mc ms lv h cs sl Q p e R s m args below meth c H locs ls Z) (hd : decode (x_b M) pc = .ok (.idiv, 1)) (hs : x_do (x_GW l dC dI cA base ro sv) ro sv d M mc ms pc lv st h cs sl Q (.idiv) (pc + 1) p1 p2 kv k2) : W p l e R s m args below meth c H locs cs sl Z (F0 m pc ls st) := by
  obtain ⟨⟨⟨hx, hb, hml, hr, hown, hlk, hin, hts⟩, hST, hR, hRet⟩, hW, hS, hl, hcs⟩ := id K
  delta x_do at hs
  dsimp only at hs
  split at hs
  · exact lv_idiv hx hb hd hs.1 (x_go K hl hs.2)
  · exact hs.elim

theorem xs_irem (K : x_Hy l dC dI cA base ro sv d M mc ms lv h cs sl Q p e R s m args below meth c H locs ls Z) (hd : decode (x_b M) pc = .ok (.irem, 1)) (hs : x_do (x_GW l dC dI cA base ro sv) ro sv d M mc ms pc lv st h cs sl Q (.irem) (pc + 1) p1 p2 kv k2) : W p l e R s m args below meth c H locs cs sl Z (F0 m pc ls st) := by
  obtain ⟨⟨⟨hx, hb, hml, hr, hown, hlk, hin, hts⟩, hST, hR, hRet⟩, hW, hS, hl, hcs⟩ := id K
  delta x_do at hs
  dsimp only at hs
  split at hs
  · exact lv_irem hx hb hd hs.1 (x_go K hl hs.2)
  · exact hs.elim

theorem xs_ineg (K : x_Hy l dC dI cA base ro sv d M mc ms lv h cs sl Q p e R s m args below meth c H locs ls Z) (hd : decode (x_b M) pc = .ok (.ineg, 1)) (hs : x_do (x_GW l dC dI cA base ro sv) ro sv d M mc ms pc lv st h cs sl Q (.ineg) (pc + 1) p1 p2 kv k2) : W p l e R s m args below meth c H locs cs sl Z (F0 m pc ls st) := by
  obtain ⟨⟨⟨hx, hb, hml, hr, hown, hlk, hin, hts⟩, hST, hR, hRet⟩, hW, hS, hl, hcs⟩ := id K
  delta x_do at hs
  dsimp only at hs
  split at hs
  · exact lv_ineg hx hb hd (x_go K hl hs)
  · exact hs.elim

theorem xs_lcmp (K : x_Hy l dC dI cA base ro sv d M mc ms lv h cs sl Q p e R s m args below meth c H locs ls Z) (hd : decode (x_b M) pc = .ok (.lcmp, 1)) (hs : x_do (x_GW l dC dI cA base ro sv) ro sv d M mc ms pc lv st h cs sl Q (.lcmp) (pc + 1) p1 p2 kv k2) : W p l e R s m args below meth c H locs cs sl Z (F0 m pc ls st) := by
  obtain ⟨⟨⟨hx, hb, hml, hr, hown, hlk, hin, hts⟩, hST, hR, hRet⟩, hW, hS, hl, hcs⟩ := id K
  delta x_do at hs
  dsimp only at hs
  split at hs
  · exact W.lcmp hx hb hd (x_go K hl hs)
  · exact hs.elim

theorem xs_dup (K : x_Hy l dC dI cA base ro sv d M mc ms lv h cs sl Q p e R s m args below meth c H locs ls Z) (hd : decode (x_b M) pc = .ok (.dup, 1)) (hs : x_do (x_GW l dC dI cA base ro sv) ro sv d M mc ms pc lv st h cs sl Q (.dup) (pc + 1) p1 p2 kv k2) : W p l e R s m args below meth c H locs cs sl Z (F0 m pc ls st) := by
  obtain ⟨⟨⟨hx, hb, hml, hr, hown, hlk, hin, hts⟩, hST, hR, hRet⟩, hW, hS, hl, hcs⟩ := id K
  delta x_do at hs
  dsimp only at hs
  split at hs
  · split at hs
    · rename_i hq
      exact lv_dup hx hb hd (Nat.eq_of_beq_eq_true hq) (x_go K hl hs)
    · exact hs.elim
  · exact hs.elim

theorem xs_pop (K : x_Hy l dC dI cA base ro sv d M mc ms lv h cs sl Q p e R s m args below meth c H locs ls Z) (hd : decode (x_b M) pc = .ok (.pop, 1)) (hs : x_do (x_GW l dC dI cA base ro sv) ro sv d M mc ms pc lv st h cs sl Q (.pop) (pc + 1) p1 p2 kv k2) : W p l e R s m args below meth c H locs cs sl Z (F0 m pc ls st) := by
  obtain ⟨⟨⟨hx, hb, hml, hr, hown, hlk, hin, hts⟩, hST, hR, hRet⟩, hW, hS, hl, hcs⟩ := id K
  delta x_do at hs
  dsimp only at hs
  split at hs
  · split at hs
    · rename_i hq
      exact lv_pop hx hb hd (Nat.eq_of_beq_eq_true hq) (x_go K hl hs)
    · exact hs.elim
  · exact hs.elim

theorem xs_pop2 (K : x_Hy l dC dI cA base ro sv d M mc ms lv h cs sl Q p e R s m args below meth c H locs ls Z) (hd : decode (x_b M) pc = .ok (.pop2, 1)) (hs : x_do (x_GW l dC dI cA base ro sv) ro sv d M mc ms pc lv st h cs sl Q (.pop2) (pc + 1) p1 p2 kv k2) : W p l e R s m args below meth c H locs cs sl Z (F0 m pc ls st) := by
  obtain ⟨⟨⟨hx, hb, hml, hr, hown, hlk, hin, hts⟩, hST, hR, hRet⟩, hW, hS, hl, hcs⟩ := id K
  delta x_do at hs
  dsimp only at hs
  split at hs
  · split at hs
    · rename_i hq
      exact lv_pop2_2 hx hb hd (Nat.eq_of_beq_eq_true hq) (x_go K hl hs)
    · exact hs.elim
  · exact hs.elim

theorem xs_dup_x1 (K : x_Hy l dC dI cA base ro sv d M mc ms lv h cs sl Q p e R s m args below meth c H locs ls Z) (hd : decode (x_b M) pc = .ok (.dup_x1, 1)) (hs : x_do (x_GW l dC dI cA base ro sv) ro sv d M mc ms pc lv st h cs sl Q (.dup_x1) (pc + 1) p1 p2 kv k2) : W p l e R s m args below meth c H locs cs sl Z (F0 m pc ls st) := by
  obtain ⟨⟨⟨hx, hb, hml, hr, hown, hlk, hin, hts⟩, hST, hR, hRet⟩, hW, hS, hl, hcs⟩ := id K
  delta x_do at hs
  dsimp only at hs
  split at hs
  · split at hs
    · rename_i hq
      simp only [Bool.and_eq_true] at hq
      exact lv_dup_x1 hx hb hd (Nat.eq_of_beq_eq_true hq.1) (Nat.eq_of_beq_eq_true hq.2) (x_go K hl hs)
    · exact hs.elim
  · exact hs.elim

theorem xs_dup_x2 (K : x_Hy l dC dI cA base ro sv d M mc ms lv h cs sl Q p e R s m args below meth c H locs ls Z) (hd : decode (x_b M) pc = .ok (.dup_x2, 1)) (hs : x_do (x_GW l dC dI cA base ro sv) ro sv d M mc ms pc lv st h cs sl Q (.dup_x2) (pc + 1) p1 p2 kv k2) : W p l e R s m args below meth c H locs cs sl Z (F0 m pc ls st) := by
  obtain ⟨⟨⟨hx, hb, hml, hr, hown, hlk, hin, hts⟩, hST, hR, hRet⟩, hW, hS, hl, hcs⟩ := id K
  delta x_do at hs
  dsimp only at hs
  split at hs
  · split at hs
    · rename_i hq
      simp only [Bool.and_eq_true] at hq
      exact lv_dup_x2 hx hb hd (Nat.eq_of_beq_eq_true hq.1.1) (Nat.eq_of_beq_eq_true hq.1.2) (Nat.eq_of_beq_eq_true hq.2) (x_go K hl hs)
    · exact hs.elim
  · exact hs.elim

theorem xs_dup2 (K : x_Hy l dC dI cA base ro sv d M mc ms lv h cs sl Q p e R s m args below meth c H locs ls Z) (hd : decode (x_b M) pc = .ok (.dup2, 1)) (hs : x_do (x_GW l dC dI cA base ro sv) ro sv d M mc ms pc lv st h cs sl Q (.dup2) (pc + 1) p1 p2 kv k2) : W p l e R s m args below meth c H locs cs sl Z (F0 m pc ls st) := by
  obtain ⟨⟨⟨hx, hb, hml, hr, hown, hlk, hin, hts⟩, hST, hR, hRet⟩, hW, hS, hl, hcs⟩ := id K
  delta x_do at hs
  dsimp only at hs
  split at hs
  · split at hs
    · rename_i hq
      simp only [Bool.and_eq_true] at hq
      exact lv_dup2_11 hx hb hd (Nat.eq_of_beq_eq_true hq.1) (Nat.eq_of_beq_eq_true hq.2) (x_go K hl hs)
    · exact hs.elim
  · exact hs.elim

theorem xs_goto {n : Int} (K : x_Hy l dC dI cA base ro sv d M mc ms lv h cs sl Q p e R s m args below meth c H locs ls Z) (hd : decode (x_b M) pc = .ok (.goto n, 3)) (hk : (pc : Int) + n = (p1 : Int)) (hs : x_do (x_GW l dC dI cA base ro sv) ro sv d M mc ms pc lv st h cs sl Q (.goto n) (pc + 3) p1 p2 kv k2) : W p l e R s m args below meth c H locs cs sl Z (F0 m pc ls st) := by
  obtain ⟨⟨⟨hx, hb, hml, hr, hown, hlk, hin, hts⟩, hST, hR, hRet⟩, hW, hS, hl, hcs⟩ := id K
  delta x_do at hs
  dsimp only at hs
  exact lv_goto hx hb hd hk (x_go K hl hs)

theorem xs_if_eq {n : Int} (K : x_Hy l dC dI cA base ro sv d M mc ms lv h cs sl Q p e R s m args below meth c H locs ls Z) (hd : decode (x_b M) pc = .ok (.ifCond .eq n, 3)) (hk : (pc : Int) + n = (p1 : Int)) (hs : x_do (x_GW l dC dI cA base ro sv) ro sv d M mc ms pc lv st h cs sl Q (.ifCond .eq n) (pc + 3) p1 p2 kv k2) : W p l e R s m args below meth c H locs cs sl Z (F0 m pc ls st) := by
  obtain ⟨⟨⟨hx, hb, hml, hr, hown, hlk, hin, hts⟩, hST, hR, hRet⟩, hW, hS, hl, hcs⟩ := id K
  delta x_do at hs
  dsimp only at hs
  split at hs
  all_goals first | exact hs.elim | contradiction | exact lv_if_eq hx hb hd hk (fun q => x_go K hl (hs.1 q)) (fun q => x_go K hl (hs.2 q))

theorem xs_icmp_eq {n : Int} (K : x_Hy l dC dI cA base ro sv d M mc ms lv h cs sl Q p e R s m args below meth c H locs ls Z) (hd : decode (x_b M) pc = .ok (.if_icmp .eq n, 3)) (hk : (pc : Int) + n = (p1 : Int)) (hs : x_do (x_GW l dC dI cA base ro sv) ro sv d M mc ms pc lv st h cs sl Q (.if_icmp .eq n) (pc + 3) p1 p2 kv k2) : W p l e R s m args below meth c H locs cs sl Z (F0 m pc ls st) := by
  obtain ⟨⟨⟨hx, hb, hml, hr, hown, hlk, hin, hts⟩, hST, hR, hRet⟩, hW, hS, hl, hcs⟩ := id K
  delta x_do at hs
  dsimp only at hs
  split at hs
  all_goals first | exact hs.elim | contradiction | exact lv_icmp_eq hx hb hd hk (fun q => x_go K hl (hs.1 q)) (fun q => x_go K hl (hs.2 q))

theorem xs_if_ne {n : Int} (K : x_Hy l dC dI cA base ro sv d M mc ms lv h cs sl Q p e R s m args below meth c H locs ls Z) (hd : decode (x_b M) pc = .ok (.ifCond .ne n, 3)) (hk : (pc : Int) + n = (p1 : Int)) (hs : x_do (x_GW l dC dI cA base ro sv) ro sv d M mc ms pc lv st h cs sl Q (.ifCond .ne n) (pc + 3) p1 p2 kv k2) : W p l e R s m args below meth c H locs cs sl Z (F0 m pc ls st) := by
  obtain ⟨⟨⟨hx, hb, hml, hr, hown, hlk, hin, hts⟩, hST, hR, hRet⟩, hW, hS, hl, hcs⟩ := id K
  delta x_do at hs
  dsimp only at hs
  split at hs
  all_goals first | exact hs.elim | contradiction | exact lv_if_ne hx hb hd hk (fun q => x_go K hl (hs.1 q)) (fun q => x_go K hl (hs.2 q))

theorem xs_icmp_ne {n : Int} (K : x_Hy l dC dI cA base ro sv d M mc ms lv h cs sl Q p e R s m args below meth c H locs ls Z) (hd : decode (x_b M) pc = .ok (.if_icmp .ne n, 3)) (hk : (pc : Int) + n = (p1 : Int)) (hs : x_do (x_GW l dC dI cA base ro sv) ro sv d M mc ms pc lv st h cs sl Q (.if_icmp .ne n) (pc + 3) p1 p2 kv k2) : W p l e R s m args below meth c H locs cs sl Z (F0 m pc ls st) := by
  obtain ⟨⟨⟨hx, hb, hml, hr, hown, hlk, hin, hts⟩, hST, hR, hRet⟩, hW, hS, hl, hcs⟩ := id K
  delta x_do at hs
  dsimp only at hs
  split at hs
  all_goals first | exact hs.elim | contradiction | exact lv_icmp_ne hx hb hd hk (fun q => x_go K hl (hs.1 q)) (fun q => x_go K hl (hs.2 q))

theorem xs_if_lt {n : Int} (K : x_Hy l dC dI cA base ro sv d M mc ms lv h cs sl Q p e R s m args below meth c H locs ls Z) (hd : decode (x_b M) pc = .ok (.ifCond .lt n, 3)) (hk : (pc : Int) + n = (p1 : Int)) (hs : x_do (x_GW l dC dI cA base ro sv) ro sv d M mc ms pc lv st h cs sl Q (.ifCond .lt n) (pc + 3) p1 p2 kv k2) : W p l e R s m args below meth c H locs cs sl Z (F0 m pc ls st) := by
  obtain ⟨⟨⟨hx, hb, hml, hr, hown, hlk, hin, hts⟩, hST, hR, hRet⟩, hW, hS, hl, hcs⟩ := id K
  delta x_do at hs
  dsimp only at hs
  split at hs
  all_goals first | exact hs.elim | contradiction | exact lv_if_lt hx hb hd hk (fun q => x_go K hl (hs.1 q)) (fun q => x_go K hl (hs.2 q))

theorem xs_icmp_lt {n : Int} (K : x_Hy l dC dI cA base ro sv d M mc ms lv h cs sl Q p e R s m args below meth c H locs ls Z) (hd : decode (x_b M) pc = .ok (.if_icmp .lt n, 3)) (hk : (pc : Int) + n = (p1 : Int)) (hs : x_do (x_GW l dC dI cA base ro sv) ro sv d M mc ms pc lv st h cs sl Q (.if_icmp .lt n) (pc + 3) p1 p2 kv k2) : W p l e R s m args below meth c H locs cs sl Z (F0 m pc ls st) := by
  obtain ⟨⟨⟨hx, hb, hml, hr, hown, hlk, hin, hts⟩, hST, hR, hRet⟩, hW, hS, hl, hcs⟩ := id K
  delta x_do at hs
  dsimp only at hs
  split at hs
  all_goals first | exact hs.elim | contradiction | exact lv_icmp_lt hx hb hd hk (fun q => x_go K hl (hs.1 q)) (fun q => x_go K hl (hs.2 q))

theorem xs_if_ge {n : Int} (K : x_Hy l dC dI cA base ro sv d M mc ms lv h cs sl Q p e R s m args below meth c H locs ls Z) (hd : decode (x_b M) pc = .ok (.ifCond .ge n, 3)) (hk : (pc : Int) + n = (p1 : Int)) (hs : x_do (x_GW l dC dI cA base ro sv) ro sv d M mc ms pc lv st h cs sl Q (.ifCond .ge n) (pc + 3) p1 p2 kv k2) : W p l e R s m args below meth c H locs cs sl Z (F0 m pc ls st) := by
  obtain ⟨⟨⟨hx, hb, hml, hr, hown, hlk, hin, hts⟩, hST, hR, hRet⟩, hW, hS, hl, hcs⟩ := id K
  delta x_do at hs
  dsimp only at hs
  split at hs
  all_goals first | exact hs.elim | contradiction | exact lv_if_ge hx hb hd hk (fun q => x_go K hl (hs.1 q)) (fun q => x_go K hl (hs.2 q))

theorem xs_icmp_ge {n : Int} (K : x_Hy l dC dI cA base ro sv d M mc ms lv h cs sl Q p e R s m args below meth c H locs ls Z) (hd : decode (x_b M) pc = .ok (.if_icmp .ge n, 3)) (hk : (pc : Int) + n = (p1 : Int)) (hs : x_do (x_GW l dC dI cA base ro sv) ro sv d M mc ms pc lv st h cs sl Q (.if_icmp .ge n) (pc + 3) p1 p2 kv k2) : W p l e R s m args below meth c H locs cs sl Z (F0 m pc ls st) := by
  obtain ⟨⟨⟨hx, hb, hml, hr, hown, hlk, hin, hts⟩, hST, hR, hRet⟩, hW, hS, hl, hcs⟩ := id K
  delta x_do at hs
  dsimp only at hs
  split at hs
  all_goals first | exact hs.elim | contradiction | exact lv_icmp_ge hx hb hd hk (fun q => x_go K hl (hs.1 q)) (fun q => x_go K hl (hs.2 q))

theorem xs_if_gt {n : Int} (K : x_Hy l dC dI cA base ro sv d M mc ms lv h cs sl Q p e R s m args below meth c H locs ls Z) (hd : decode (x_b M) pc = .ok (.ifCond .gt n, 3)) (hk : (pc : Int) + n = (p1 : Int)) (hs : x_do (x_GW l dC dI cA base ro sv) ro sv d M mc ms pc lv st h cs sl Q (.ifCond .gt n) (pc + 3) p1 p2 kv k2) : W p l e R s m args below meth c H locs cs sl Z (F0 m pc ls st) := by
  obtain ⟨⟨⟨hx, hb, hml, hr, hown, hlk, hin, hts⟩, hST, hR, hRet⟩, hW, hS, hl, hcs⟩ := id K
  delta x_do at hs
  dsimp only at hs
  split at hs
  all_goals first | exact hs.elim | contradiction | exact lv_if_gt hx hb hd hk (fun q => x_go K hl (hs.1 q)) (fun q => x_go K hl (hs.2 q))

theorem xs_icmp_gt {n : Int} (K : x_Hy l dC dI cA base ro sv d M mc ms lv h cs sl Q p e R s m args below meth c H locs ls Z) (hd : decode (x_b M) pc = .ok (.if_icmp .gt n, 3)) (hk : (pc : Int) + n = (p1 : Int)) (hs : x_do (x_GW l dC dI cA base ro sv) ro sv d M mc ms pc lv st h cs sl Q (.if_icmp .gt n) (pc + 3) p1 p2 kv k2) : W p l e R s m args below meth c H locs cs sl Z (F0 m pc ls st) := by
  obtain ⟨⟨⟨hx, hb, hml, hr, hown, hlk, hin, hts⟩, hST, hR, hRet⟩, hW, hS, hl, hcs⟩ := id K
  delta x_do at hs
  dsimp only at hs
  split at hs
  all_goals first | exact hs.elim | contradiction | exact lv_icmp_gt hx hb hd hk (fun q => x_go K hl (hs.1 q)) (fun q => x_go K hl (hs.2 q))

theorem xs_if_le {n : Int} (K : x_Hy l dC dI cA base ro sv d M mc ms lv h cs sl Q p e R s m args below meth c H locs ls Z) (hd : decode (x_b M) pc = .ok (.ifCond .le n, 3)) (hk : (pc : Int) + n = (p1 : Int)) (hs : x_do (x_GW l dC dI cA base ro sv) ro sv d M mc ms pc lv st h cs sl Q (.ifCond .le n) (pc + 3) p1 p2 kv k2) : W p l e R s m args below meth c H locs cs sl Z (F0 m pc ls st) := by
  obtain ⟨⟨⟨hx, hb, hml, hr, hown, hlk, hin, hts⟩, hST, hR, hRet⟩, hW, hS, hl, hcs⟩ := id K
  delta x_do at hs
  dsimp only at hs
  split at hs
  all_goals first | exact hs.elim | contradiction | exact lv_if_le hx hb hd hk (fun q => x_go K hl (hs.1 q)) (fun q => x_go K hl (hs.2 q))

theorem xs_icmp_le {n : Int} (K : x_Hy l dC dI cA base ro sv d M mc ms lv h cs sl Q p e R s m args below meth c H locs ls Z) (hd : decode (x_b M) pc = .ok (.if_icmp .le n, 3)) (hk : (pc : Int) + n = (p1 : Int)) (hs : x_do (x_GW l dC dI cA base ro sv) ro sv d M mc ms pc lv st h cs sl Q (.if_icmp .le n) (pc + 3) p1 p2 kv k2) : W p l e R s m args below meth c H locs cs sl Z (F0 m pc ls st) := by
  obtain ⟨⟨⟨hx, hb, hml, hr, hown, hlk, hin, hts⟩, hST, hR, hRet⟩, hW, hS, hl, hcs⟩ := id K
  delta x_do at hs
  dsimp only at hs
  split at hs
  all_goals first | exact hs.elim | contradiction | exact lv_icmp_le hx hb hd hk (fun q => x_go K hl (hs.1 q)) (fun q => x_go K hl (hs.2 q))

theorem xs_ifnull {n : Int} (K : x_Hy l dC dI cA base ro sv d M mc ms lv h cs sl Q p e R s m args below meth c H locs ls Z) (hd : decode (x_b M) pc = .ok (.ifnull n, 3)) (hk : (pc : Int) + n = (p1 : Int)) (hs : x_do (x_GW l dC dI cA base ro sv) ro sv d M mc ms pc lv st h cs sl Q (.ifnull n) (pc + 3) p1 p2 kv k2) : W p l e R s m args below meth c H locs cs sl Z (F0 m pc ls st) := by
  obtain ⟨⟨⟨hx, hb, hml, hr, hown, hlk, hin, hts⟩, hST, hR, hRet⟩, hW, hS, hl, hcs⟩ := id K
  delta x_do at hs
  dsimp only at hs
  split at hs
  · exact lv_ifnull hx hb hd (x_go K hl hs)
  · exact lv_ifnullN hx hb hd hk (x_go K hl hs)
  · exact hs.elim

theorem xs_ifnonnull {n : Int} (K : x_Hy l dC dI cA base ro sv d M mc ms lv h cs sl Q p e R s m args below meth c H locs ls Z) (hd : decode (x_b M) pc = .ok (.ifnonnull n, 3)) (hk : (pc : Int) + n = (p1 : Int)) (hs : x_do (x_GW l dC dI cA base ro sv) ro sv d M mc ms pc lv st h cs sl Q (.ifnonnull n) (pc + 3) p1 p2 kv k2) : W p l e R s m args below meth c H locs cs sl Z (F0 m pc ls st) := by
  obtain ⟨⟨⟨hx, hb, hml, hr, hown, hlk, hin, hts⟩, hST, hR, hRet⟩, hW, hS, hl, hcs⟩ := id K
  delta x_do at hs
  dsimp only at hs
  split at hs
  · exact lv_ifnonnull hx hb hd hk (x_go K hl hs)
  · exact lv_ifnonnullN hx hb hd (x_go K hl hs)
  · exact hs.elim

theorem xs_acmp_eq {n : Int} (K : x_Hy l dC dI cA base ro sv d M mc ms lv h cs sl Q p e R s m args below meth c H locs ls Z) (hd : decode (x_b M) pc = .ok (.if_acmp .eq n, 3)) (hk : (pc : Int) + n = (p1 : Int)) (hs : x_do (x_GW l dC dI cA base ro sv) ro sv d M mc ms pc lv st h cs sl Q (.if_acmp .eq n) (pc + 3) p1 p2 kv k2) : W p l e R s m args below meth c H locs cs sl Z (F0 m pc ls st) := by
  obtain ⟨⟨⟨hx, hb, hml, hr, hown, hlk, hin, hts⟩, hST, hR, hRet⟩, hW, hS, hl, hcs⟩ := id K
  delta x_do at hs
  dsimp only at hs
  split at hs
  all_goals first | exact hs.elim | contradiction | exact lv_acmp_eq (rx := (some _)) (ry := (some _)) hx hb hd hk (fun q => x_go K hl (hs.1 (Option.some.inj q))) (fun q => x_go K hl (hs.2 (fun z => q (congrArg some z)))) | exact lv_acmp_eq (rx := none) (ry := (some _)) hx hb hd hk (fun q => by cases q) (fun _ => x_go K hl hs) | exact lv_acmp_eq (rx := (some _)) (ry := none) hx hb hd hk (fun q => by cases q) (fun _ => x_go K hl hs) | exact lv_acmp_eq (rx := none) (ry := none) hx hb hd hk (fun _ => x_go K hl hs) (fun q => absurd rfl q)

theorem xs_acmp_ne {n : Int} (K : x_Hy l dC dI cA base ro sv d M mc ms lv h cs sl Q p e R s m args below meth c H locs ls Z) (hd : decode (x_b M) pc = .ok (.if_acmp .ne n, 3)) (hk : (pc : Int) + n = (p1 : Int)) (hs : x_do (x_GW l dC dI cA base ro sv) ro sv d M mc ms pc lv st h cs sl Q (.if_acmp .ne n) (pc + 3) p1 p2 kv k2) : W p l e R s m args below meth c H locs cs sl Z (F0 m pc ls st) := by
  obtain ⟨⟨⟨hx, hb, hml, hr, hown, hlk, hin, hts⟩, hST, hR, hRet⟩, hW, hS, hl, hcs⟩ := id K
  delta x_do at hs
  dsimp only at hs
  split at hs
  all_goals first | exact hs.elim | contradiction | exact lv_acmp_ne (rx := (some _)) (ry := (some _)) hx hb hd hk (fun q => x_go K hl (hs.1 (fun z => q (congrArg some z)))) (fun q => x_go K hl (hs.2 (Option.some.inj q))) | exact lv_acmp_ne (rx := none) (ry := (some _)) hx hb hd hk (fun _ => x_go K hl hs) (fun q => by cases q) | exact lv_acmp_ne (rx := (some _)) (ry := none) hx hb hd hk (fun _ => x_go K hl hs) (fun q => by cases q) | exact lv_acmp_ne (rx := none) (ry := none) hx hb hd hk (fun q => absurd rfl q) (fun _ => x_go K hl hs)

theorem xs_table {df lo hi : Int} {offs : Array Int} {LEN : Nat} (K : x_Hy l dC dI cA base ro sv d M mc ms lv h cs sl Q p e R s m args below meth c H locs ls Z) (hd : decode (x_b M) pc = .ok (.tableswitch df lo hi offs, LEN)) (hs : x_do (x_GW l dC dI cA base ro sv) ro sv d M mc ms pc lv st h cs sl Q (.tableswitch df lo hi offs) (pc + LEN) p1 p2 kv k2) : W p l e R s m args below meth c H locs cs sl Z (F0 m pc ls st) := by
  obtain ⟨⟨⟨hx, hb, hml, hr, hown, hlk, hin, hts⟩, hST, hR, hRet⟩, hW, hS, hl, hcs⟩ := id K
  delta x_do at hs
  dsimp only at hs
  split at hs
  · obtain ⟨t, h1, h2⟩ := hs
    rcases h1 with ⟨h3, h4⟩ | ⟨h3, h4, off, h5, h6⟩
    · exact lv_tableOut hx hb hd h3 h4 (x_go K hl h2)
    · exact lv_tableIn hx hb hd h3 h4 h5 h6 (x_go K hl h2)
  · exact hs.elim

theorem xs_lookup {df : Int} {ps : Array (Int × Int)} {LEN : Nat} (K : x_Hy l dC dI cA base ro sv d M mc ms lv h cs sl Q p e R s m args below meth c H locs ls Z) (hd : decode (x_b M) pc = .ok (.lookupswitch df ps, LEN)) (hk : (ps.toList.zip (ps.toList.drop 1)).all (fun (a, next) => a.1 < next.1) = true) (hs : x_do (x_GW l dC dI cA base ro sv) ro sv d M mc ms pc lv st h cs sl Q (.lookupswitch df ps) (pc + LEN) p1 p2 kv k2) : W p l e R s m args below meth c H locs cs sl Z (F0 m pc ls st) := by
  obtain ⟨⟨⟨hx, hb, hml, hr, hown, hlk, hin, hts⟩, hST, hR, hRet⟩, hW, hS, hl, hcs⟩ := id K
  delta x_do at hs
  dsimp only at hs
  split at hs
  · obtain ⟨t, h1, h2⟩ := hs
    exact lv_lookup hx hb hd hk rfl h1 (x_go K hl h2)
  · exact hs.elim

end SIMA
