section SIMB
variable {l : Launch} {dC : Nat → ClassId} {dI : Nat → Nat → Nat} {cA : Nat → ClassId} {base : Nat} {ro : xR} {sv : Nat → Value}
variable {p : Program} {e : Env} {R : Room} {s : State} {m : MethodId} {args : Array Value} {below : List Frame} {meth : Method} {c : Code} {H : Heap} {locs : List Loc} {ls : Array Slot} {Z : State → Prop}
variable {d M mc ms pc cs sl p1 p2 : Nat} {lv : xL} {st : List Value} {h : xH} {Q : xQ} {kv : Int32} {k2 : Int64}

theorem x_RA_eq {U : State} {c1 c2 : ClassId} {ty : FieldType} (h1 : va_RA U c1 ty) (h2 : va_RA U c2 ty) : c1 = c2 := by
  cases ty with
  | object C =>
    obtain ⟨_, _, _, _, _, g1⟩ := h1
    obtain ⟨_, _, _, _, _, g2⟩ := h2
    exact Option.some.inj (g1.symm.trans g2)
  | _ => exact Option.some.inj (Eq.trans (Eq.symm h1) h2)

theorem x_go2 {pc' : Nat} {st' : List Value} {h' : xH} {H' : Heap} {locs' : List Loc} {cs' sl' : Nat} (K : x_Hy l dC dI cA base ro sv d M mc ms lv h cs sl Q p e R s m args below meth c H locs ls Z) (hW' : x_Wd dC dI cA base h' H') (hS' : va_S (x_A base) s.heap H' locs') (hc' : cs' ≤ mc ∧ sl' ≤ ms) (g : x_GW l dC dI cA base ro sv d M mc ms pc' lv st' h' cs' sl' Q) : W p l e R s m args below meth c H' locs' cs' sl' Z (F0 m pc' ls st') :=
  g p e R s m args below meth c H' locs' ls Z K.1 hW' hS' K.2.2.2.1 hc'

theorem xs_getfield {n : Nat} {C : String} {T : u_T} {N : Nat} (K : x_Hy l dC dI cA base ro sv d M mc ms lv h cs sl Q p e R s m args below meth c H locs ls Z) (hd : decode (x_b M) pc = .ok (.getfield n, 3)) (hC : vwCl[p1]? = some (C, T, N)) (hk0 : p2 < N) (hk : Cond.fieldLink (x_y M).cls n (T p2).1 (T p2).2.1 (T p2).2.2.1 ∈ x_T) (hs : x_do (x_GW l dC dI cA base ro sv) ro sv d M mc ms pc lv st h cs sl Q (.getfield n) (pc + 3) p1 p2 kv k2) : W p l e R s m args below meth c H locs cs sl Z (F0 m pc ls st) := by
  obtain ⟨⟨⟨hx, hb, hml, hr, hown, hlk, hin, hts⟩, hST, hR, hRet⟩, hW, hS, hl, hcs⟩ := id K
  delta x_do at hs
  dsimp only at hs
  split at hs
  · obtain ⟨fs, v, h1, h2, h3⟩ := hs
    obtain ⟨L, f0, hP, hD, hf⟩ := hW
    obtain ⟨hL, k, hk1, hk2⟩ := x_at (base := base) (dC := dC) (dI := dI) (H := H) hf h1
    rw [hk2] at hk1
    exact va_get hx hb hts (x_cls hC) hown hST.1 hP k hk1 hC p2 hk0 (hts _ hk) (fun _ q => q) h2 hd (x_go K hl h3)
  · exact hs.elim

theorem xs_putfield {n : Nat} {C : String} {T : u_T} {N : Nat} (K : x_Hy l dC dI cA base ro sv d M mc ms lv h cs sl Q p e R s m args below meth c H locs ls Z) (hd : decode (x_b M) pc = .ok (.putfield n, 3)) (hC : vwCl[p1]? = some (C, T, N)) (hk0 : p2 < N) (hk : Cond.fieldLink (x_y M).cls n (T p2).1 (T p2).2.1 (T p2).2.2.1 ∈ x_T) (hk4 : (T p2).2.2.2 = false ∨ ((T p2).2.2.2 = true ∧ (x_y M).name = "<init>" ∧ (T p2).1 = (x_y M).cls)) (hs : x_do (x_GW l dC dI cA base ro sv) ro sv d M mc ms pc lv st h cs sl Q (.putfield n) (pc + 3) p1 p2 kv k2) : W p l e R s m args below meth c H locs cs sl Z (F0 m pc ls st) := by
  obtain ⟨⟨⟨hx, hb, hml, hr, hown, hlk, hin, hts⟩, hST, hR, hRet⟩, hW, hS, hl, hcs⟩ := id K
  delta x_do at hs
  dsimp only at hs
  split at hs
  · obtain ⟨fs, h1, h2, h3, h4, h5⟩ := hs
    obtain ⟨L, f0, hP, hD, hf⟩ := hW
    obtain ⟨hL, k, hk1, hk2⟩ := x_at (base := base) (dC := dC) (dI := dI) (H := H) hf h1
    have hk3 := hk1
    rw [hk2] at hk1
    obtain ⟨ht, hn⟩ := x_clt hC
    rcases hk4 with hk4 | ⟨hk4, hk5, hk6⟩
    · exact va_put hx hb hts (x_cls hC) (x_fty p1) ht hn hown hST.1 hP hD hS k hk1 hC p2 hk0 (hts _ hk) (fun _ q => q) hk4 (ht p2 hk0) h3 h4 h2 hd (fun H1 locs1 hP1 hD1 hS1 => x_go2 K (x_Wd.set (e := .inr (p1, fs.set p2 _)) hf hD hL hk3 rfl hP1 hD1) hS1 hcs (h5 _ rfl))
    · exact va_putF hx hb hts (x_cls hC) (x_fty p1) ht hn hown hST.1 hP hD hS k hk1 hC p2 hk0 (hts _ hk) (fun _ q => q) hk4 (hin hk5) hk6 (ht p2 hk0) h3 h4 h2 hd (fun H1 locs1 hP1 hD1 hS1 => x_go2 K (x_Wd.set (e := .inr (p1, fs.set p2 _)) hf hD hL hk3 rfl hP1 hD1) hS1 hcs (h5 _ rfl))
  · exact hs.elim

theorem xs_getstatic {n : Nat} {q : String × String × String} (K : x_Hy l dC dI cA base ro sv d M mc ms lv h cs sl Q p e R s m args below meth c H locs ls Z) (hd : decode (x_b M) pc = .ok (.getstatic n, 3)) (hq : x_stt[p1]? = some q) (hk : Cond.fieldLink (x_y M).cls n q.1 q.2.1 q.2.2 ∈ x_T) (hs : x_do (x_GW l dC dI cA base ro sv) ro sv d M mc ms pc lv st h cs sl Q (.getstatic n) (pc + 3) p1 p2 kv k2) : W p l e R s m args below meth c H locs cs sl Z (F0 m pc ls st) := by
  obtain ⟨⟨⟨hx, hb, hml, hr, hown, hlk, hin, hts⟩, hST, hR, hRet⟩, hW, hS, hl, hcs⟩ := id K
  delta x_do at hs
  dsimp only at hs
  exact va_gets hx hb (hST.2.2.2.1 p1 q hq) hS hown (hts _ hk) (fun _ z => z) hd (x_go K hl hs)

theorem xs_new {n : Nat} {C : String} {T : u_T} {N : Nat} (K : x_Hy l dC dI cA base ro sv d M mc ms lv h cs sl Q p e R s m args below meth c H locs ls Z) (hd : decode (x_b M) pc = .ok (.new n, 3)) (hC : vwCl[p1]? = some (C, T, N)) (hk : Cond.classLink (x_y M).cls n C ∈ x_T) (hs : x_do (x_GW l dC dI cA base ro sv) ro sv d M mc ms pc lv st h cs sl Q (.new n) (pc + 3) p1 p2 kv k2) : W p l e R s m args below meth c H locs cs sl Z (F0 m pc ls st) := by
  obtain ⟨⟨⟨hx, hb, hml, hr, hown, hlk, hin, hts⟩, hST, hR, hRet⟩, hW, hS, hl, hcs⟩ := id K
  delta x_do at hs
  dsimp only at hs
  obtain ⟨h1, h2, h3⟩ := hs
  obtain ⟨L, f0, hP, hD, hf⟩ := hW
  obtain ⟨hA1, hA2, hA3, hA4⟩ := x_cln hC
  rw [hA1] at h2 h3
  exact va_new hx hb hts (x_cls hC) (x_fty p1) (x_clt hC).1 hown (hts _ hk) (hts _ hA3) (hts _ hA4) hST.1 hP hD hS (fun q hq => Nat.le_trans hST.2.1 hq) hC (fs := (x_cn p1).2) hA2 (Nat.le_trans h1 hR.2.2.1) (Nat.le_trans h2 hR.2.2.2) hd (fun q H1 hP1 hD1 hS1 => by
    obtain ⟨hn, hW1⟩ := x_Wd.new (e := .inr (p1, (x_cn p1).2)) hf rfl hP1 hD1
    exact x_go2 K hW1 hS1 ⟨h1, h2⟩ (h3 q hn _ rfl))

theorem xs_newarray {n : ArrayType} (K : x_Hy l dC dI cA base ro sv d M mc ms lv h cs sl Q p e R s m args below meth c H locs ls Z) (hd : decode (x_b M) pc = .ok (.newarray n, 2)) (hk : x_tys[p1]? = some (newarray.typeOf n)) (hk2 : Cond.arrayClass (newarray.typeOf n) ∈ x_T) (hk3 : n ≠ .float ∧ n ≠ .double) (hs : x_do (x_GW l dC dI cA base ro sv) ro sv d M mc ms pc lv st h cs sl Q (.newarray n) (pc + 2) p1 p2 kv k2) : W p l e R s m args below meth c H locs cs sl Z (F0 m pc ls st) := by
  obtain ⟨⟨⟨hx, hb, hml, hr, hown, hlk, hin, hts⟩, hST, hR, hRet⟩, hW, hS, hl, hcs⟩ := id K
  delta x_do at hs
  dsimp only at hs
  split at hs
  · rename_i nn r0
    obtain ⟨h1, h2, h3, h4, h5⟩ := hs
    obtain ⟨L, f0, hP, hD, hf⟩ := hW
    have hg : x_tys.getD p1 .int = newarray.typeOf n := by simp [List.getD, hk]
    rw [hg] at h5
    have hcb : componentBytes (newarray.typeOf n) ≤ 8 := by cases n <;> decide
    refine va_newa hx hb (hts _ hk2) rfl hST.1 hP hD hS (fun q hq => Nat.le_trans hST.2.1 hq) (a0 := x_zero (newarray.typeOf n) nn.toNatClampNeg) (fun cB => ?_) h1 rfl (Nat.le_trans (Nat.mul_le_mul h2 hcb) (by decide)) (Nat.le_trans h3 hR.2.2.1) (Nat.le_trans h4 hR.2.2.2) hd (fun q cB H1 hK1 hP1 hD1 hS1 => ?_)
    · cases n <;> first | rfl | exact absurd rfl hk3.1 | exact absurd rfl hk3.2
    · have e1 : cB = cA p1 := by
        have g1 := (hK1.2 (x_tl cA).length (cB, newarray.typeOf n) (by simp)).2
        have g2 := (hST.1.2 p1 _ (x_tl_at hk)).2
        exact x_RA_eq g1 g2
      subst e1
      obtain ⟨hn, hW1⟩ := x_Wd.new (e := .inl (p1, x_zero (newarray.typeOf n) nn.toNatClampNeg)) hf rfl hP1 hD1
      exact x_go2 K hW1 hS1 ⟨h3, h4⟩ (h5 q hn _ rfl)
  · exact hs.elim

theorem xs_anewarray {n : Nat} {C : String} (K : x_Hy l dC dI cA base ro sv d M mc ms lv h cs sl Q p e R s m args below meth c H locs ls Z) (hd : decode (x_b M) pc = .ok (.anewarray n, 3)) (hk : x_tys[p1]? = some (.object C)) (hk2 : Cond.classLink (x_y M).cls n C ∈ x_T) (hs : x_do (x_GW l dC dI cA base ro sv) ro sv d M mc ms pc lv st h cs sl Q (.anewarray n) (pc + 3) p1 p2 kv k2) : W p l e R s m args below meth c H locs cs sl Z (F0 m pc ls st) := by
  obtain ⟨⟨⟨hx, hb, hml, hr, hown, hlk, hin, hts⟩, hST, hR, hRet⟩, hW, hS, hl, hcs⟩ := id K
  delta x_do at hs
  dsimp only at hs
  split at hs
  · rename_i nn r0
    obtain ⟨h1, h2, h3, h4, h5⟩ := hs
    obtain ⟨L, f0, hP, hD, hf⟩ := hW
    refine va_newq hx hb hown (hts _ hk2) (hST.2.2.2.2.1 C (List.mem_of_getElem? hk)) hST.1 hP hD hS (fun q hq => Nat.le_trans hST.2.1 hq) h1 rfl (by omega) (Nat.le_trans h3 hR.2.2.1) (Nat.le_trans h4 hR.2.2.2) hd (fun q cB H1 hK1 hP1 hD1 hS1 => ?_)
    have e1 : cB = cA p1 := by
      have g1 := (hK1.2 (x_tl cA).length (cB, .object C) (by simp)).2
      have g2 := (hST.1.2 p1 _ (x_tl_at hk)).2
      exact x_RA_eq g1 g2
    subst e1
    obtain ⟨hn, hW1⟩ := x_Wd.new (e := .inl (p1, nn.toNatClampNeg, .inr (.inr (.inr (.inr (fun _ => none)))))) hf rfl hP1 hD1
    exact x_go2 K hW1 hS1 ⟨h3, h4⟩ (h5 q hn _ rfl)
  · exact hs.elim

theorem xs_arraylength (K : x_Hy l dC dI cA base ro sv d M mc ms lv h cs sl Q p e R s m args below meth c H locs ls Z) (hd : decode (x_b M) pc = .ok (.arraylength, 1)) (hs : x_do (x_GW l dC dI cA base ro sv) ro sv d M mc ms pc lv st h cs sl Q (.arraylength) (pc + 1) p1 p2 kv k2) : W p l e R s m args below meth c H locs cs sl Z (F0 m pc ls st) := by
  obtain ⟨⟨⟨hx, hb, hml, hr, hown, hlk, hin, hts⟩, hST, hR, hRet⟩, hW, hS, hl, hcs⟩ := id K
  delta x_do at hs
  dsimp only at hs
  split at hs
  · obtain ⟨n, h1, h2⟩ := hs
    rcases h1 with ⟨t, y, h3, h4, h5⟩ | ⟨f, h3⟩
    · obtain ⟨L, f0, hP, hD, hf⟩ := hW
      obtain ⟨hL, k, hk1, hk2⟩ := x_at (base := base) (dC := dC) (dI := dI) (H := H) hf h3
      rw [hk2] at hk1
      obtain ⟨ty, hty⟩ := x_tl_lt (cA := cA) h4
      exact va_alen hx hb hST.1 hP k t hk1 hty (by rw [h5]) hd (x_go K hl h2)
    · obtain ⟨cell, g1, g2, g3, g4, g5, g6, g7⟩ := hST.2.2.1 _ _ _ h3
      exact W.alen hx hb (by rw [hS.2.1 _ (Array.getElem?_eq_some_iff.mp g1).1 g7]; exact g1) g2 g5 rfl rfl hd (x_go K hl h2)
  · exact hs.elim

theorem xs_iaload (K : x_Hy l dC dI cA base ro sv d M mc ms lv h cs sl Q p e R s m args below meth c H locs ls Z) (hd : decode (x_b M) pc = .ok (.iaload, 1)) (hs : x_do (x_GW l dC dI cA base ro sv) ro sv d M mc ms pc lv st h cs sl Q (.iaload) (pc + 1) p1 p2 kv k2) : W p l e R s m args below meth c H locs cs sl Z (F0 m pc ls st) := by
  obtain ⟨⟨⟨hx, hb, hml, hr, hown, hlk, hin, hts⟩, hST, hR, hRet⟩, hW, hS, hl, hcs⟩ := id K
  delta x_do at hs
  dsimp only at hs
  split at hs
  · obtain ⟨n, f, h1, h2, h3⟩ := hs
    rcases h1 with ⟨t, h4, h5⟩ | h4
    · obtain ⟨L, f0, hP, hD, hf⟩ := hW
      obtain ⟨hL, k, hk1, hk2⟩ := x_at (base := base) (dC := dC) (dI := dI) (H := H) hf h4
      rw [hk2] at hk1
      exact va_iald hx hb hST.1 hP k t hk1 (x_tl_at h5) h2 hd (x_go K hl h3)
    · obtain ⟨cell, g1, g2, g3, g4, g5, g6, g7⟩ := hST.2.2.1 _ _ _ h4
      have hlt := Nat.not_le.mp fun q => h2 (Or.inr q)
      exact W.iald hx hb (by rw [hS.2.1 _ (Array.getElem?_eq_some_iff.mp g1).1 g7]; exact g1) g2 g3 (fun q => q.elim (fun z => h2 (Or.inl z)) (fun z => absurd (Nat.lt_of_lt_of_le hlt g4) (Nat.not_lt.mpr z))) (g6 _ hlt) rfl rfl hd (x_go K hl h3)
  · exact hs.elim

theorem xs_baload (K : x_Hy l dC dI cA base ro sv d M mc ms lv h cs sl Q p e R s m args below meth c H locs ls Z) (hd : decode (x_b M) pc = .ok (.baload, 1)) (hs : x_do (x_GW l dC dI cA base ro sv) ro sv d M mc ms pc lv st h cs sl Q (.baload) (pc + 1) p1 p2 kv k2) : W p l e R s m args below meth c H locs cs sl Z (F0 m pc ls st) := by
  obtain ⟨⟨⟨hx, hb, hml, hr, hown, hlk, hin, hts⟩, hST, hR, hRet⟩, hW, hS, hl, hcs⟩ := id K
  delta x_do at hs
  dsimp only at hs
  split at hs
  · obtain ⟨t, n, f, h1, h2, h3, h4⟩ := hs
    obtain ⟨L, f0, hP, hD, hf⟩ := hW
    obtain ⟨hL, k, hk1, hk2⟩ := x_at (base := base) (dC := dC) (dI := dI) (H := H) hf h1
    rw [hk2] at hk1
    rcases h2 with h2 | h2
    · exact va_bald hx hb hST.1 hP k t hk1 (x_tl_at h2) h3 hd (x_go K hl h4)
    · exact va_zald hx hb hST.1 hP k t hk1 (x_tl_at h2) h3 hd (x_go K hl h4)
  · exact hs.elim

theorem xs_laload (K : x_Hy l dC dI cA base ro sv d M mc ms lv h cs sl Q p e R s m args below meth c H locs ls Z) (hd : decode (x_b M) pc = .ok (.laload, 1)) (hs : x_do (x_GW l dC dI cA base ro sv) ro sv d M mc ms pc lv st h cs sl Q (.laload) (pc + 1) p1 p2 kv k2) : W p l e R s m args below meth c H locs cs sl Z (F0 m pc ls st) := by
  obtain ⟨⟨⟨hx, hb, hml, hr, hown, hlk, hin, hts⟩, hST, hR, hRet⟩, hW, hS, hl, hcs⟩ := id K
  delta x_do at hs
  dsimp only at hs
  split at hs
  · obtain ⟨t, n, f, h1, h2, h3, h4⟩ := hs
    obtain ⟨L, f0, hP, hD, hf⟩ := hW
    obtain ⟨hL, k, hk1, hk2⟩ := x_at (base := base) (dC := dC) (dI := dI) (H := H) hf h1
    rw [hk2] at hk1
    exact va_lald hx hb hST.1 hP k t hk1 (x_tl_at h2) h3 hd (x_go K hl h4)
  · exact hs.elim

theorem xs_aaload (K : x_Hy l dC dI cA base ro sv d M mc ms lv h cs sl Q p e R s m args below meth c H locs ls Z) (hd : decode (x_b M) pc = .ok (.aaload, 1)) (hs : x_do (x_GW l dC dI cA base ro sv) ro sv d M mc ms pc lv st h cs sl Q (.aaload) (pc + 1) p1 p2 kv k2) : W p l e R s m args below meth c H locs cs sl Z (F0 m pc ls st) := by
  obtain ⟨⟨⟨hx, hb, hml, hr, hown, hlk, hin, hts⟩, hST, hR, hRet⟩, hW, hS, hl, hcs⟩ := id K
  delta x_do at hs
  dsimp only at hs
  split at hs
  · obtain ⟨t, n, C, f, o, h1, h2, h3, rfl, h4⟩ := hs
    obtain ⟨L, f0, hP, hD, hf⟩ := hW
    obtain ⟨hL, k, hk1, hk2⟩ := x_at (base := base) (dC := dC) (dI := dI) (H := H) hf h1
    rw [hk2] at hk1
    exact va_aldq hx hb hST.1 hP k t hk1 (x_tl_at h2) h3 hd (x_go K hl h4)
  · exact hs.elim

theorem xs_iastore (K : x_Hy l dC dI cA base ro sv d M mc ms lv h cs sl Q p e R s m args below meth c H locs ls Z) (hd : decode (x_b M) pc = .ok (.iastore, 1)) (hs : x_do (x_GW l dC dI cA base ro sv) ro sv d M mc ms pc lv st h cs sl Q (.iastore) (pc + 1) p1 p2 kv k2) : W p l e R s m args below meth c H locs cs sl Z (F0 m pc ls st) := by
  obtain ⟨⟨⟨hx, hb, hml, hr, hown, hlk, hin, hts⟩, hST, hR, hRet⟩, hW, hS, hl, hcs⟩ := id K
  delta x_do at hs
  dsimp only at hs
  split at hs
  · obtain ⟨t, n, f, h1, h2, h3, h4⟩ := hs
    obtain ⟨L, f0, hP, hD, hf⟩ := hW
    obtain ⟨hL, k, hk1, hk2⟩ := x_at (base := base) (dC := dC) (dI := dI) (H := H) hf h1
    have hk3 := hk1
    rw [hk2] at hk1
    exact va_iast hx hb hST.1 hP hD hS k t hk1 (x_tl_at h2) h3 hd (fun H1 locs1 hP1 hD1 hS1 => x_go2 K (x_Wd.set (e := .inl (t, n, .inl (upd f (Int32.toNatClampNeg _) _))) hf hD hL hk3 rfl hP1 hD1) hS1 hcs (h4 _ rfl))
  · exact hs.elim

theorem xs_bastore (K : x_Hy l dC dI cA base ro sv d M mc ms lv h cs sl Q p e R s m args below meth c H locs ls Z) (hd : decode (x_b M) pc = .ok (.bastore, 1)) (hs : x_do (x_GW l dC dI cA base ro sv) ro sv d M mc ms pc lv st h cs sl Q (.bastore) (pc + 1) p1 p2 kv k2) : W p l e R s m args below meth c H locs cs sl Z (F0 m pc ls st) := by
  obtain ⟨⟨⟨hx, hb, hml, hr, hown, hlk, hin, hts⟩, hST, hR, hRet⟩, hW, hS, hl, hcs⟩ := id K
  delta x_do at hs
  dsimp only at hs
  split at hs
  · obtain ⟨t, n, f, ty, h1, h2, h5, h3, h4⟩ := hs
    obtain ⟨L, f0, hP, hD, hf⟩ := hW
    obtain ⟨hL, k, hk1, hk2⟩ := x_at (base := base) (dC := dC) (dI := dI) (H := H) hf h1
    have hk3 := hk1
    rw [hk2] at hk1
    rcases h5 with rfl | rfl
    · exact va_bast hx hb hST.1 hP hD hS k t hk1 (x_tl_at h2) h3 hd (fun H1 locs1 hP1 hD1 hS1 => x_go2 K (x_Wd.set (e := .inl (t, n, .inl (upd f (Int32.toNatClampNeg _) (vp_nar .byte _)))) hf hD hL hk3 rfl hP1 hD1) hS1 hcs (h4 _ rfl))
    · exact va_zast hx hb hST.1 hP hD hS k t hk1 (x_tl_at h2) h3 hd (fun H1 locs1 hP1 hD1 hS1 => x_go2 K (x_Wd.set (e := .inl (t, n, .inl (upd f (Int32.toNatClampNeg _) (vp_nar .boolean _)))) hf hD hL hk3 rfl hP1 hD1) hS1 hcs (h4 _ rfl))
  · exact hs.elim

theorem xs_lastore (K : x_Hy l dC dI cA base ro sv d M mc ms lv h cs sl Q p e R s m args below meth c H locs ls Z) (hd : decode (x_b M) pc = .ok (.lastore, 1)) (hs : x_do (x_GW l dC dI cA base ro sv) ro sv d M mc ms pc lv st h cs sl Q (.lastore) (pc + 1) p1 p2 kv k2) : W p l e R s m args below meth c H locs cs sl Z (F0 m pc ls st) := by
  obtain ⟨⟨⟨hx, hb, hml, hr, hown, hlk, hin, hts⟩, hST, hR, hRet⟩, hW, hS, hl, hcs⟩ := id K
  delta x_do at hs
  dsimp only at hs
  split at hs
  · obtain ⟨t, n, f, h1, h2, h3, h4⟩ := hs
    obtain ⟨L, f0, hP, hD, hf⟩ := hW
    obtain ⟨hL, k, hk1, hk2⟩ := x_at (base := base) (dC := dC) (dI := dI) (H := H) hf h1
    have hk3 := hk1
    rw [hk2] at hk1
    exact va_last hx hb hST.1 hP hD hS k t hk1 (x_tl_at h2) h3 hd (fun H1 locs1 hP1 hD1 hS1 => x_go2 K (x_Wd.set (e := .inl (t, n, .inr (.inl (vp_updL f (Int32.toNatClampNeg _) _)))) hf hD hL hk3 rfl hP1 hD1) hS1 hcs (h4 _ rfl))
  · exact hs.elim

theorem xs_aastore (K : x_Hy l dC dI cA base ro sv d M mc ms lv h cs sl Q p e R s m args below meth c H locs ls Z) (hd : decode (x_b M) pc = .ok (.aastore, 1)) (hs : x_do (x_GW l dC dI cA base ro sv) ro sv d M mc ms pc lv st h cs sl Q (.aastore) (pc + 1) p1 p2 kv k2) : W p l e R s m args below meth c H locs cs sl Z (F0 m pc ls st) := by
  obtain ⟨⟨⟨hx, hb, hml, hr, hown, hlk, hin, hts⟩, hST, hR, hRet⟩, hW, hS, hl, hcs⟩ := id K
  delta x_do at hs
  dsimp only at hs
  split at hs
  · obtain ⟨t, n, ci, vs, f, h1, h5, h2, h3, h4⟩ := hs
    obtain ⟨L, f0, hP, hD, hf⟩ := hW
    obtain ⟨hL, k, hk1, hk2⟩ := x_at (base := base) (dC := dC) (dI := dI) (H := H) hf h1
    obtain ⟨hLv, kq, hq1, hq2⟩ := x_at (base := base) (dC := dC) (dI := dI) (H := H) hf h5
    have hk3 := hk1
    rw [hk2] at hk1
    rw [hq2] at hq1
    obtain ⟨r, hr1, -⟩ := hP kq _ hq1
    rw [hr1] at h2
    exact va_astq hx hb hST.1 hP hD hS k t kq ci hk1 (x_tl_at h2) hq1 hr1 h3 hd (fun H1 locs1 hP1 hD1 hS1 => x_go2 K (x_Wd.set (e := .inl (t, n, .inr (.inr (.inr (.inr (va_up f (Int32.toNatClampNeg _) (some _))))))) hf hD hL hk3 rfl hP1 hD1) hS1 hcs (h4 _ rfl))
  · obtain ⟨t, n, C, f, h1, h2, h3, h4⟩ := hs
    obtain ⟨L, f0, hP, hD, hf⟩ := hW
    obtain ⟨hL, k, hk1, hk2⟩ := x_at (base := base) (dC := dC) (dI := dI) (H := H) hf h1
    have hk3 := hk1
    rw [hk2] at hk1
    exact va_astqN hx hb hST.1 hP hD hS k t hk1 (x_tl_at h2) h3 hd (fun H1 locs1 hP1 hD1 hS1 => x_go2 K (x_Wd.set (e := .inl (t, n, .inr (.inr (.inr (.inr (va_up f (Int32.toNatClampNeg _) none)))))) hf hD hL hk3 rfl hP1 hD1) hS1 hcs (h4 _ rfl))
  · exact hs.elim

end SIMB
