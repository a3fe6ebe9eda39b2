def OLd (oa ob : Nat → Nat) : Nat → LC
  | 0 => []
  | k + 1 => ((26, k), (oa k, .inr (6, [.ref (ob k), .int 0, .int 0, .int 0, .int 0, .int 0]))) :: ((27, k), (ob k, Z64)) :: OLd oa ob k
theorem OLd_c {oa ob oa' ob' : Nat → Nat} : ∀ k, (∀ x, x < k → oa' x = oa x ∧ ob' x = ob x) → OLd oa' ob' k = OLd oa ob k
  | 0, _ => rfl
  | k + 1, h => by unfold OLd; rw [(h k (by omega)).1, (h k (by omega)).2, OLd_c k (fun x hx => h x (by omega))]
theorem m_X9l {G : xG} {ro : xR} {sv : Nat → Value} (hG : x_Good G ro sv) {d t kp mc ms : Nat} {hb : xH} {T : List Value} {Q : xQ} (hT : T[1]? = some (.ref kp)) (hkt : t ≠ kp) : ∀ (n k cs sl : Nat) (h : xH) (oa ob : Nat → Nat), k + n = 128 → h t = some (.inr (9, T)) → h kp = some (.inl (7, 128, .inr (.inr (.inr (.inr (trO k (fun x => some (oa x)))))))) → MK hb h kp (OLd oa ob k) → cs + 2 * n ≤ mc → sl + 70 * n ≤ ms → (∀ h' oa ob, MK hb h' kp (OLd oa ob 128) → h' kp = some (.inl (7, 128, .inr (.inr (.inr (.inr (trO 128 (fun x => some (oa x)))))))) → h' t = some (.inr (9, T)) → Q none h') → G (d + 1) n_X9_init mc ms 25 [(1, .int (nI k)), (0, .ref t)] [] h cs sl Q := by
  intro n
  induction n with
  | zero =>
    intro k cs sl h oa ob hk ht hkp M hcs hsl hQ
    repeat refine hG _ _ _ _ _ _ _ _ _ _ _ ?_
    refine ⟨_, _, ht, hT, ?_⟩
    repeat refine hG _ _ _ _ _ _ _ _ _ _ _ ?_
    refine ⟨128, Or.inl ⟨_, _, hkp, by decide, rfl⟩, ?_⟩
    repeat refine hG _ _ _ _ _ _ _ _ _ _ _ ?_
    refine ⟨fun _ => ?_, fun hc => absurd (by rw [show k = 128 by omega]; exact Int32.le_refl _) hc⟩
    repeat refine hG _ _ _ _ _ _ _ _ _ _ _ ?_
    have hk : k = 128 := by omega
    subst hk
    exact ⟨by omega, by omega, hQ h oa ob M hkp ht⟩
  | succ n ih =>
    intro k cs sl h oa ob hk ht hkp M hcs hsl hQ
    repeat refine hG _ _ _ _ _ _ _ _ _ _ _ ?_
    refine ⟨_, _, ht, hT, ?_⟩
    repeat refine hG _ _ _ _ _ _ _ _ _ _ _ ?_
    refine ⟨128, Or.inl ⟨_, _, hkp, by decide, rfl⟩, ?_⟩
    repeat refine hG _ _ _ _ _ _ _ _ _ _ _ ?_
    refine ⟨fun hc => absurd hc (nI_ge (b := 128) (by omega) (by decide)), fun _ => ?_⟩
    repeat refine hG _ _ _ _ _ _ _ _ _ _ _ ?_
    refine ⟨_, _, ht, hT, ?_⟩
    repeat refine hG _ _ _ _ _ _ _ _ _ _ _ ?_
    refine ⟨by omega, by show sl + 6 ≤ ms; omega, fun a ha => ?_⟩
    rintro h1 e1
    obtain ⟨M1, a1, k1, n1, l1, t1⟩ := M.fresh hkp ha e1
    have kt1 := x_upd e1 ha ht
    have nt : t ≠ a := x_fr ha ht
    repeat refine hG _ _ _ _ _ _ _ _ _ _ _ ?_
    refine ⟨1, 64, by omega, by show sl + 6 + 64 ≤ ms; omega, c_X6_init hG (by rw [e1, x_up_self]; rfl) (fun h2 b hn q0 q1 => ?_)⟩
    obtain ⟨M2, t2⟩ := MK.sub (26, k) M1 t1 a1 k1 n1 l1 (MK.nw1 (27, k) hn q1) q0
    have kt2 := hn.ext t _ kt1 nt
    repeat refine hG _ _ _ _ _ _ _ _ _ _ _ ?_
    refine ⟨_, _, _, _, _, t2, q0, rfl, vp_in_nI (by omega) (by decide), ?_⟩
    rintro h3 e3
    rw [nI_clamp (show k < 2 ^ 31 by omega), trO_s] at e3
    refine hG _ _ _ _ _ _ _ _ _ _ _ ?_
    refine hG _ _ _ _ _ _ _ _ _ _ _ ?_
    have ih1 := ih (k + 1)
    rw [nI_succ] at ih1
    refine ih1 (cs + 1 + 1) (sl + 6 + 64) h3 (fun x => if x = k then a else oa x) (fun x => if x = k then b else ob x) (by omega) (x_upo e3 hkt kt2) (by rw [e3, x_up_self]) ?_ (by omega) (by omega) hQ
    have M3 := M2.put e3
    unfold OLd
    rw [OLd_c (oa := oa) (ob := ob) k (fun x hx => ⟨if_neg (by omega), if_neg (by omega)⟩), if_pos rfl, if_pos rfl]
    exact M3
abbrev XL9 (bl wt : Nat) (oa ob : Nat → Nat) : LC := ((25, 0), (wt, .inl (7, 128, .inr (.inr (.inr (.inr (trO 128 (fun x => some (oa x))))))))) :: (OLd oa ob 128 ++ [((24, 0), (bl, .inl (1, 512, .inl fun _ => 0)))])
theorem m_X9 {G : xG} {ro : xR} {sv : Nat → Value} (hG : x_Good G ro sv) {d t : Nat} {h : xH} {Q : xQ} (ht : h t = some (.inr (9, [.null, .null, .int 0, .int 0, .int 0]))) (hQ : ∀ h' bl wt oa ob, MK h h' t (XL9 bl wt oa ob) → h' t = some (.inr (9, [.ref bl, .ref wt, .int 0, .int 0, .int 0])) → Q none h') : G (d + 1) n_X9_init 260 9700 0 [(0, .ref t)] [] h 0 0 Q := by
  repeat refine hG _ _ _ _ _ _ _ _ _ _ _ ?_
  refine ⟨by decide, by decide, by decide, by decide, fun bl hbl => ?_⟩
  rintro h1 e1
  obtain ⟨M1, a1, k1, n1, l1, t1⟩ := (MK.nil (h := h) (t := t)).fresh ht hbl e1
  have M1 := M1.add (c := .inl (1, 512, .inl fun _ => 0)) (24, 0) t1 a1 k1 n1 l1
  repeat refine hG _ _ _ _ _ _ _ _ _ _ _ ?_
  refine ⟨_, t1, Nat.le_of_ble_eq_true rfl, rfl, rfl, ?_⟩
  rintro h2 e2
  have t2 : h2 t = some (.inr (9, [.ref bl, .null, .int 0, .int 0, .int 0])) := by rw [e2, x_up_self]; rfl
  have M2 := M1.put e2
  repeat refine hG _ _ _ _ _ _ _ _ _ _ _ ?_
  refine ⟨by decide, by decide, by decide, by decide, fun wt hwt => ?_⟩
  rintro h3 e3
  obtain ⟨M3, a3, k3, n3, l3, t3⟩ := M2.fresh t2 hwt e3
  repeat refine hG _ _ _ _ _ _ _ _ _ _ _ ?_
  refine ⟨_, t3, Nat.le_of_ble_eq_true rfl, rfl, rfl, ?_⟩
  rintro h4 e4
  have t4 : h4 t = some (.inr (9, [.ref bl, .ref wt, .int 0, .int 0, .int 0])) := by rw [e4, x_up_self]; rfl
  have M4 := M3.put e4
  have k4 : h4 wt = some (.inl (7, 128, .inr (.inr (.inr (.inr (trO 0 (fun x => some 0))))))) := by
    have z : trO 0 (fun x => some 0) = (fun _ : Nat => (none : Option Nat)) := by funext x; unfold trO; rw [if_neg (by omega)]
    rw [e4, x_up_ne n3, k3, z]; rfl
  refine hG _ _ _ _ _ _ _ _ _ _ _ ?_
  refine hG _ _ _ _ _ _ _ _ _ _ _ ?_
  refine m_X9l hG (t := t) (kp := wt) (hb := h4) rfl (Ne.symm n3) 128 0 _ _ h4 (fun _ => 0) (fun _ => 0) rfl t4 k4 MK.nil (by decide) (by decide) (fun h' oa ob N q qt => ?_)
  obtain ⟨M5, -⟩ := MK.sub (25, 0) M4 t4 a3 k4 n3 l3 N q
  exact hQ h' bl wt oa ob M5 qt
def cH (i t g ib kp pl : Nat) (oa ob : Nat → Nat) (m dv rg ct mb mt a b1 b2 b3 b c1 c d1 : Nat) : Nat → Nat → Nat := fun k j => if k = 2 then t else if k = 3 then g else if k = 4 then m else if k = 5 then mb else if k = 6 then mt else if k = 7 then dv else if k = 8 then a else if k = 9 then b1 else if k = 10 then b2 else if k = 11 then b3 else if k = 12 then b else if k = 13 then c1 else if k = 14 then c else if k = 15 then d1 else if k = 16 then rg else if k = 17 then ct else if k = 18 then ib else if k = 19 then pl else if k = 20 then kp else if k = 21 then oa (j - 64 * i) else ob (j - 64 * i)
def uI (pg rm : Nat) : (Nat → Nat → Int32) := fun f j => if f = 111 then nI j else if f = 122 then -1 else if f = 123 then -1 else if f = 2 then nI pg else if f = 3 then nI rm else 0
def tI : (Nat → Nat → Int64) := fun _ _ => 0
def rI : Nat → Nat → Option Nat := fun _ _ => none
abbrev cI (ca : Nat → Nat → Nat) (n pg rm k j : Nat) : xE := c_cell ca n pg rm (uI pg rm) tI rI k j
theorem tr0 {L : Nat} : trI L (fun _ => 0) = fun _ => 0 := by funext x; unfold trI; split <;> rfl
theorem trN {L : Nat} : trO L (fun _ => none) = fun _ => none := by funext x; unfold trO; split <;> rfl
theorem ci_5 {ca : Nat → Nat → Nat} {n pg rm j : Nat} : cI ca n pg rm 5 j = .inl (1, pg * 256, .inl fun _ => 0) := by
  show (Sum.inl (1, 256 * pg, Sum.inl (trI (256 * pg) fun x => uI pg rm 15 (4096 * j + x))) : xE) = _
  rw [show (fun x => uI pg rm 15 (4096 * j + x)) = fun _ => 0 from rfl, tr0, Nat.mul_comm]
theorem ci_6 {ca : Nat → Nat → Nat} {n pg rm j : Nat} : cI ca n pg rm 6 j = .inl (2, pg, .inl fun _ => 0) := by
  show (Sum.inl (2, pg, Sum.inl (trI (pg) fun x => uI pg rm 105 (16 * j + x))) : xE) = _
  rw [show (fun x => uI pg rm 105 (16 * j + x)) = fun _ => 0 from rfl, tr0]
theorem ci_9 {ca : Nat → Nat → Nat} {n pg rm j : Nat} : cI ca n pg rm 9 j = .inl (0, 16, .inl fun _ => 0) := by
  show (Sum.inl (0, 16, Sum.inl (trI (16) fun x => uI pg rm 100 (16 * j + x))) : xE) = _
  rw [show (fun x => uI pg rm 100 (16 * j + x)) = fun _ => 0 from rfl, tr0]
theorem ci_10 {ca : Nat → Nat → Nat} {n pg rm j : Nat} : cI ca n pg rm 10 j = .inl (0, 4, .inl fun _ => 0) := by
  show (Sum.inl (0, 4, Sum.inl (trI (4) fun x => uI pg rm 102 (4 * j + x))) : xE) = _
  rw [show (fun x => uI pg rm 102 (4 * j + x)) = fun _ => 0 from rfl, tr0]
theorem ci_11 {ca : Nat → Nat → Nat} {n pg rm j : Nat} : cI ca n pg rm 11 j = .inl (1, 128, .inl fun _ => 0) := by
  show (Sum.inl (1, 128, Sum.inl (trI (128) fun x => uI pg rm 103 (128 * j + x))) : xE) = _
  rw [show (fun x => uI pg rm 103 (128 * j + x)) = fun _ => 0 from rfl, tr0]
theorem ci_13 {ca : Nat → Nat → Nat} {n pg rm j : Nat} : cI ca n pg rm 13 j = .inl (1, 64, .inl fun _ => 0) := by
  show (Sum.inl (1, 64, Sum.inl (trI (64) fun x => uI pg rm 31 (64 * j + x))) : xE) = _
  rw [show (fun x => uI pg rm 31 (64 * j + x)) = fun _ => 0 from rfl, tr0]
theorem ci_15 {ca : Nat → Nat → Nat} {n pg rm j : Nat} : cI ca n pg rm 15 j = .inl (1, 32, .inl fun _ => 0) := by
  show (Sum.inl (1, 32, Sum.inl (trI (32) fun x => uI pg rm 108 (32 * j + x))) : xE) = _
  rw [show (fun x => uI pg rm 108 (32 * j + x)) = fun _ => 0 from rfl, tr0]
theorem ci_16 {ca : Nat → Nat → Nat} {n pg rm j : Nat} : cI ca n pg rm 16 j = .inl (0, 32, .inl fun _ => 0) := by
  show (Sum.inl (0, 32, Sum.inl (trI (32) fun x => uI pg rm 16 (32 * j + x))) : xE) = _
  rw [show (fun x => uI pg rm 16 (32 * j + x)) = fun _ => 0 from rfl, tr0]
theorem ci_17 {ca : Nat → Nat → Nat} {n pg rm j : Nat} : cI ca n pg rm 17 j = .inl (0, 7, .inl fun _ => 0) := by
  show (Sum.inl (0, 7, Sum.inl (trI (7) fun x => uI pg rm 18 (7 * j + x))) : xE) = _
  rw [show (fun x => uI pg rm 18 (7 * j + x)) = fun _ => 0 from rfl, tr0]
theorem ci_22 {ca : Nat → Nat → Nat} {n pg rm j : Nat} : cI ca n pg rm 22 j = .inl (1, 32, .inl fun _ => 0) := by
  show (Sum.inl (1, 32, Sum.inl (trI (32) fun x => uI pg rm 119 (32 * j + x))) : xE) = _
  rw [show (fun x => uI pg rm 119 (32 * j + x)) = fun _ => 0 from rfl, tr0]
theorem ci_24 {ca : Nat → Nat → Nat} {n pg rm j : Nat} : cI ca n pg rm 24 j = .inl (1, 512, .inl fun _ => 0) := by
  show (Sum.inl (1, 512, Sum.inl (trI (512) fun x => uI pg rm 64 (512 * j + x))) : xE) = _
  rw [show (fun x => uI pg rm 64 (512 * j + x)) = fun _ => 0 from rfl, tr0]
theorem ci_27 {ca : Nat → Nat → Nat} {n pg rm j : Nat} : cI ca n pg rm 27 j = .inl (1, 64, .inl fun _ => 0) := by
  show (Sum.inl (1, 64, Sum.inl (trI (64) fun x => uI pg rm 131 (64 * j + x))) : xE) = _
  rw [show (fun x => uI pg rm 131 (64 * j + x)) = fun _ => 0 from rfl, tr0]
theorem ci_29 {ca : Nat → Nat → Nat} {n pg rm j : Nat} : cI ca n pg rm 29 j = .inl (0, 4096, .inl fun _ => 0) := by
  show (Sum.inl (0, 4096, Sum.inl (trI (4096) fun x => uI pg rm 73 (4096 * j + x))) : xE) = _
  rw [show (fun x => uI pg rm 73 (4096 * j + x)) = fun _ => 0 from rfl, tr0]
theorem ci_34 {ca : Nat → Nat → Nat} {n pg rm j : Nat} : cI ca n pg rm 34 j = .inl (1, pg * 256, .inl fun _ => 0) := by
  show (Sum.inl (1, 256 * pg, Sum.inl (trI (256 * pg) fun x => uI pg rm 6 (4096 * j + x))) : xE) = _
  rw [show (fun x => uI pg rm 6 (4096 * j + x)) = fun _ => 0 from rfl, tr0, Nat.mul_comm]
theorem ci_3 {ca : Nat → Nat → Nat} {n pg rm j : Nat} : cI ca n pg rm 3 j = .inr (3, [.ref (ca 4 j), .ref (ca 7 j), .ref (ca 16 j), .ref (ca 17 j), .int 0, .long 0, .int 0, .int 0]) := rfl
theorem ci_2 {ca : Nat → Nat → Nat} {n pg rm j : Nat} : cI ca n pg rm 2 j = .inr (4, [.int (nI j), .ref (ca 3 j), .ref (ca 18 j), .ref (ca 20 j), .int 0, .int 0, .int 0, .int 0, .int 0, .int 0, .int 0, .int 0]) := rfl
theorem ci_4 {ca : Nat → Nat → Nat} {n pg rm j : Nat} : cI ca n pg rm 4 j = .inr (5, [.ref (ca 5 j), .ref (ca 6 j)]) := rfl
theorem ci_7 {ca : Nat → Nat → Nat} {n pg rm j : Nat} : cI ca n pg rm 7 j = .inr (0, [.ref (ca 4 j), .ref (ca 8 j), .ref (ca 12 j), .ref (ca 14 j), .int 0, .int 0, .int 0, .int 0, .int 0, .int 0, .int 0]) := rfl
theorem ci_8 {ca : Nat → Nat → Nat} {n pg rm j : Nat} : cI ca n pg rm 8 j = .inr (10, [.ref (ca 9 j), .ref (ca 10 j), .ref (ca 11 j), .int 0, .int 0, .int 0, .int 0]) := rfl
theorem ci_12 {ca : Nat → Nat → Nat} {n pg rm j : Nat} : cI ca n pg rm 12 j = .inr (6, [.ref (ca 13 j), .int 0, .int 0, .int 0, .int 0, .int 0]) := rfl
theorem ci_14 {ca : Nat → Nat → Nat} {n pg rm j : Nat} : cI ca n pg rm 14 j = .inr (7, [.ref (ca 15 j), .int 0, .int 0]) := rfl
theorem ci_18 {ca : Nat → Nat → Nat} {n pg rm j : Nat} : cI ca n pg rm 18 j = .inr (2, [.ref (ca 19 j), .int 0, .int 0]) := rfl
theorem ci_21 {ca : Nat → Nat → Nat} {n pg rm j : Nat} : cI ca n pg rm 21 j = .inr (7, [.ref (ca 22 j), .int 0, .int 0]) := rfl
theorem ci_26 {ca : Nat → Nat → Nat} {n pg rm j : Nat} : cI ca n pg rm 26 j = .inr (6, [.ref (ca 27 j), .int 0, .int 0, .int 0, .int 0, .int 0]) := rfl
theorem ci_23 {ca : Nat → Nat → Nat} {n pg rm j : Nat} : cI ca n pg rm 23 j = .inr (9, [.ref (ca 24 j), .ref (ca 25 j), .int 0, .int 0, .int 0]) := rfl
theorem ci_28 {ca : Nat → Nat → Nat} {n pg rm j : Nat} : cI ca n pg rm 28 j = .inr (8, [.ref (ca 29 j), .int 0]) := rfl
theorem ci_30 {ca : Nat → Nat → Nat} {n pg rm j : Nat} : cI ca n pg rm 30 j = .inr (2, [.ref (ca 31 j), .int 0, .int 0]) := rfl
theorem ci_32 {ca : Nat → Nat → Nat} {n pg rm j : Nat} : cI ca n pg rm 32 j = .inr (2, [.ref (ca 33 j), .int 0, .int 0]) := rfl
theorem ci_0 {ca : Nat → Nat → Nat} {n pg rm : Nat} : cI ca n pg rm 0 0 = .inr (11, [.ref (ca 1 0), .int (nI pg), .int (nI rm), .ref (ca 34 0), .ref (ca 23 0), .ref (ca 28 0), .ref (ca 30 0), .ref (ca 32 0), .int 0, .int (-1), .int (-1), .int 0, .int 0]) := rfl
theorem ci_1 {ca : Nat → Nat → Nat} {n pg rm j : Nat} : cI ca n pg rm 1 j = .inl (4, n, .inr (.inr (.inr (.inr (trO n (fun x => some (ca 2 x))))))) := rfl
theorem ci_20 {ca : Nat → Nat → Nat} {n pg rm j : Nat} : cI ca n pg rm 20 j = .inl (6, 64, .inr (.inr (.inr (.inr (trO 64 (fun x => some (ca 21 (64 * j + x)))))))) := rfl
theorem ci_25 {ca : Nat → Nat → Nat} {n pg rm j : Nat} : cI ca n pg rm 25 j = .inl (7, 128, .inr (.inr (.inr (.inr (trO 128 (fun x => some (ca 26 x))))))) := rfl
theorem ci_19 {ca : Nat → Nat → Nat} {n pg rm j : Nat} : cI ca n pg rm 19 j = .inl (5, 512, .inr (.inr (.inr (.inr fun _ => none)))) := by
  show (Sum.inl (5, 512, Sum.inr (Sum.inr (Sum.inr (Sum.inr (trO 512 fun _ => none))))) : xE) = _
  rw [trN]
theorem ci_31 {ca : Nat → Nat → Nat} {n pg rm j : Nat} : cI ca n pg rm 31 j = .inl (5, rm, .inr (.inr (.inr (.inr fun _ => none)))) := by
  show (Sum.inl (5, rm, Sum.inr (Sum.inr (Sum.inr (Sum.inr (trO rm fun _ => none))))) : xE) = _
  rw [trN]
theorem ci_33 {ca : Nat → Nat → Nat} {n pg rm j : Nat} : cI ca n pg rm 33 j = .inl (5, rm, .inr (.inr (.inr (.inr fun _ => none)))) := by
  show (Sum.inl (5, rm, Sum.inr (Sum.inr (Sum.inr (Sum.inr (trO rm fun _ => none))))) : xE) = _
  rw [trN]
