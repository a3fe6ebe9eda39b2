def OLr (i : Nat) (oa ob : Nat → Nat) : Nat → LC
  | 0 => []
  | k + 1 => ((21, 64 * i + k), (oa k, .inr (7, [.ref (ob k), .int 0, .int 0]))) :: ((22, 64 * i + k), (ob k, Z32)) :: OLr i oa ob k
theorem OLr_c {i : Nat} {oa ob oa' ob' : Nat → Nat} : ∀ k, (∀ x, x < k → oa' x = oa x ∧ ob' x = ob x) → OLr i oa' ob' k = OLr i oa ob k
  | 0, _ => rfl
  | k + 1, h => by unfold OLr; rw [(h k (by omega)).1, (h k (by omega)).2, OLr_c k (fun x hx => h x (by omega))]
theorem trO_s {k a : Nat} {oa : Nat → Nat} : va_up (trO k (fun x => some (oa x))) k (some a) = trO (k + 1) (fun x => some (if x = k then a else oa x)) := by
  funext x
  unfold trO
  by_cases q : x = k
  · rw [q, va_up_self, if_pos (by omega)]
    show some a = some (if k = k then a else oa k)
    rw [if_pos rfl]
  · rw [va_up_ne _ _ q]
    by_cases r : x < k
    · rw [if_pos r, if_pos (by omega)]
      show some (oa x) = some (if x = k then a else oa x)
      rw [if_neg q]
    · rw [if_neg r, if_neg (by omega)]
theorem m_X4l {G : xG} {ro : xR} {sv : Nat → Value} (hG : x_Good G ro sv) {d t kp mc ms i : Nat} {hb : xH} {T : List Value} {Q : xQ} {i0 p : Int32} (hT : T[3]? = some (.ref kp)) (hkt : t ≠ kp) : ∀ (n k cs sl : Nat) (h : xH) (oa ob : Nat → Nat), k + n = 64 → h t = some (.inr (4, T)) → h kp = some (.inl (6, 64, .inr (.inr (.inr (.inr (trO k (fun x => some (oa x)))))))) → MK hb h kp (OLr i oa ob k) → cs + 2 * n ≤ mc → sl + 35 * n ≤ ms → (∀ h' oa ob, MK hb h' kp (OLr i oa ob 64) → h' kp = some (.inl (6, 64, .inr (.inr (.inr (.inr (trO 64 (fun x => some (oa x)))))))) → h' t = some (.inr (4, T)) → Q none h') → G (d + 1) n_X4_init mc ms 46 [(3, .int (nI k)), (0, .ref t), (1, .int i0), (2, .int p)] [] h cs sl Q := by
  intro n
  induction n with
  | zero =>
    intro k cs sl h oa ob hk ht hkp M hcs hsl hQ
    repeat refine hG _ _ _ _ _ _ _ _ _ _ _ ?_
    refine ⟨_, _, ht, hT, ?_⟩
    repeat refine hG _ _ _ _ _ _ _ _ _ _ _ ?_
    refine ⟨64, Or.inl ⟨_, _, hkp, by decide, rfl⟩, ?_⟩
    repeat refine hG _ _ _ _ _ _ _ _ _ _ _ ?_
    refine ⟨fun _ => ?_, fun hc => absurd (by rw [show k = 64 by omega]; exact Int32.le_refl _) hc⟩
    repeat refine hG _ _ _ _ _ _ _ _ _ _ _ ?_
    have hk : k = 64 := by omega
    subst hk
    exact ⟨by omega, by omega, hQ h oa ob M hkp ht⟩
  | succ n ih =>
    intro k cs sl h oa ob hk ht hkp M hcs hsl hQ
    repeat refine hG _ _ _ _ _ _ _ _ _ _ _ ?_
    refine ⟨_, _, ht, hT, ?_⟩
    repeat refine hG _ _ _ _ _ _ _ _ _ _ _ ?_
    refine ⟨64, Or.inl ⟨_, _, hkp, by decide, rfl⟩, ?_⟩
    repeat refine hG _ _ _ _ _ _ _ _ _ _ _ ?_
    refine ⟨fun hc => absurd hc (nI_ge (b := 64) (by omega) (by decide)), fun _ => ?_⟩
    repeat refine hG _ _ _ _ _ _ _ _ _ _ _ ?_
    refine ⟨_, _, ht, hT, ?_⟩
    repeat refine hG _ _ _ _ _ _ _ _ _ _ _ ?_
    refine ⟨by omega, by show sl + 3 ≤ ms; omega, fun a ha => ?_⟩
    rintro h1 e1
    obtain ⟨M1, a1, k1, n1, l1, t1⟩ := M.fresh hkp ha e1
    have kt1 := x_upd e1 ha ht
    have nt : t ≠ a := x_fr ha ht
    repeat refine hG _ _ _ _ _ _ _ _ _ _ _ ?_
    refine ⟨1, 32, by omega, by show sl + 3 + 32 ≤ ms; omega, c_X7_init hG (by rw [e1, x_up_self]; rfl) (fun h2 b hn q0 q1 => ?_)⟩
    obtain ⟨M2, t2⟩ := MK.sub (21, 64 * i + k) M1 t1 a1 k1 n1 l1 (MK.nw1 (22, 64 * i + k) hn q1) q0
    have kt2 := hn.ext t _ kt1 nt
    repeat refine hG _ _ _ _ _ _ _ _ _ _ _ ?_
    refine ⟨_, _, _, _, _, t2, q0, rfl, vp_in_nI (by omega) (by decide), ?_⟩
    rintro h3 e3
    rw [nI_clamp (show k < 2 ^ 31 by omega), trO_s] at e3
    refine hG _ _ _ _ _ _ _ _ _ _ _ ?_
    refine hG _ _ _ _ _ _ _ _ _ _ _ ?_
    have ih1 := ih (k + 1)
    rw [nI_succ] at ih1
    refine ih1 (cs + 1 + 1) (sl + 3 + 32) h3 (fun x => if x = k then a else oa x) (fun x => if x = k then b else ob x) (by omega) (x_upo e3 hkt kt2) (by rw [e3, x_up_self]) ?_ (by omega) (by omega) hQ
    have M3 := M2.put e3
    unfold OLr
    rw [OLr_c (oa := oa) (ob := ob) k (fun x hx => ⟨if_neg (by omega), if_neg (by omega)⟩), if_pos rfl, if_pos rfl]
    exact M3
abbrev XL4 (pg i g ib kp pl : Nat) (oa ob : Nat → Nat) (m dv rg ct mb mt a b1 b2 b3 b c1 c d1 : Nat) : LC := ((20, i), (kp, .inl (6, 64, .inr (.inr (.inr (.inr (trO 64 (fun x => some (oa x))))))))) :: (OLr i oa ob 64 ++ (((18, i), (ib, .inr (2, [.ref pl, .int 0, .int 0]))) :: ([((19, i), (pl, .inl (5, 512, .inr (.inr (.inr (.inr fun _ => none))))))] ++ (((3, i), (g, .inr (3, [.ref m, .ref dv, .ref rg, .ref ct, .int 0, .long 0, .int 0, .int 0]))) :: (XL3 pg i m dv rg ct mb mt a b1 b2 b3 b c1 c d1 ++ [])))))
theorem m_X4 {G : xG} {ro : xR} {sv : Nat → Value} (hG : x_Good G ro sv) {d t pg t0 i : Nat} {h : xH} {Q : xQ} (hs0 : sv 0 = .ref t0) (hro : ∃ f, ro t0 = some (7, f)) (hp : pg ≤ 16) (ht : h t = some (.inr (4, [.int 0, .null, .null, .null, .int 0, .int 0, .int 0, .int 0, .int 0, .int 0, .int 0, .int 0]))) (hQ : ∀ h' g ib kp pl oa ob m dv rg ct mb mt a b1 b2 b3 b c1 c d1, MK h h' t (XL4 pg i g ib kp pl oa ob m dv rg ct mb mt a b1 b2 b3 b c1 c d1) → h' t = some (.inr (4, [.int (nI i), .ref g, .ref ib, .ref kp, .int 0, .int 0, .int 0, .int 0, .int 0, .int 0, .int 0, .int 0])) → Q none h') : G (d + 3) n_X4_init 160 7500 0 [(0, .ref t), (1, .int (nI i)), (2, .int (nI pg))] [] h 0 0 Q := by
  repeat refine hG _ _ _ _ _ _ _ _ _ _ _ ?_
  refine ⟨_, ht, Nat.le_of_ble_eq_true rfl, rfl, rfl, ?_⟩
  rintro h1 e1
  have t1 : h1 t = some (.inr (4, [.int (nI i), .null, .null, .null, .int 0, .int 0, .int 0, .int 0, .int 0, .int 0, .int 0, .int 0])) := by rw [e1, x_up_self]; rfl
  have M1 := (MK.nil (h := h) (t := t)).put e1
  repeat refine hG _ _ _ _ _ _ _ _ _ _ _ ?_
  refine ⟨by decide, by decide, fun g hg => ?_⟩
  rintro h2 e2
  obtain ⟨M2, a2, k2, n2, l2, t2⟩ := M1.fresh t1 hg e2
  repeat refine hG _ _ _ _ _ _ _ _ _ _ _ ?_
  refine ⟨20, 4500, by decide, by decide, m_X3 hG (i := i) hs0 hro hp (by rw [e2, x_up_self]; rfl) (fun h3 m dv rg ct mb mt a b1 b2 b3 b c1 c d1 N3 q3 => ?_)⟩
  obtain ⟨M3, t3⟩ := MK.sub (3, i) M2 t2 a2 k2 n2 l2 N3 q3
  repeat refine hG _ _ _ _ _ _ _ _ _ _ _ ?_
  refine ⟨_, t3, Nat.le_of_ble_eq_true rfl, rfl, rfl, ?_⟩
  rintro h4 e4
  have t4 : h4 t = some (.inr (4, [.int (nI i), .ref g, .null, .null, .int 0, .int 0, .int 0, .int 0, .int 0, .int 0, .int 0, .int 0])) := by rw [e4, x_up_self]; rfl
  have M4 := M3.put e4
  repeat refine hG _ _ _ _ _ _ _ _ _ _ _ ?_
  refine ⟨by decide, by decide, fun ib hib => ?_⟩
  rintro h5 e5
  obtain ⟨M5, a5, k5, n5, l5, t5⟩ := M4.fresh t4 hib e5
  repeat refine hG _ _ _ _ _ _ _ _ _ _ _ ?_
  refine ⟨1, 512, by decide, by decide, m_X2 hG (19, i) (n := 512) ⟨by decide, by decide⟩ (by rw [e5, x_up_self]; rfl) (fun h6 pl N6 q6 => ?_)⟩
  obtain ⟨M6, t6⟩ := MK.sub (18, i) M5 t5 a5 k5 n5 l5 N6 q6
  repeat refine hG _ _ _ _ _ _ _ _ _ _ _ ?_
  refine ⟨_, t6, Nat.le_of_ble_eq_true rfl, rfl, rfl, ?_⟩
  rintro h7 e7
  have t7 : h7 t = some (.inr (4, [.int (nI i), .ref g, .ref ib, .null, .int 0, .int 0, .int 0, .int 0, .int 0, .int 0, .int 0, .int 0])) := by rw [e7, x_up_self]; rfl
  have M7 := M6.put e7
  repeat refine hG _ _ _ _ _ _ _ _ _ _ _ ?_
  refine ⟨by decide, by decide, by decide, by decide, fun kp hkp => ?_⟩
  rintro h8 e8
  obtain ⟨M8, a8, k8, n8, l8, t8⟩ := M7.fresh t7 hkp e8
  repeat refine hG _ _ _ _ _ _ _ _ _ _ _ ?_
  refine ⟨_, t8, Nat.le_of_ble_eq_true rfl, rfl, rfl, ?_⟩
  rintro h9 e9
  have t9 : h9 t = some (.inr (4, [.int (nI i), .ref g, .ref ib, .ref kp, .int 0, .int 0, .int 0, .int 0, .int 0, .int 0, .int 0, .int 0])) := by rw [e9, x_up_self]; rfl
  have M9 := M8.put e9
  have k9 : h9 kp = some (.inl (6, 64, .inr (.inr (.inr (.inr (trO 0 (fun x => some 0))))))) := by
    have z : trO 0 (fun x => some 0) = (fun _ : Nat => (none : Option Nat)) := by funext x; unfold trO; rw [if_neg (by omega)]
    rw [e9, x_up_ne n8, k8, z]; rfl
  refine hG _ _ _ _ _ _ _ _ _ _ _ ?_
  refine hG _ _ _ _ _ _ _ _ _ _ _ ?_
  refine m_X4l hG (t := t) (kp := kp) (i := i) (hb := h9) rfl (Ne.symm n8) 64 0 _ _ h9 (fun _ => 0) (fun _ => 0) rfl t9 k9 MK.nil (by decide) (by decide) (fun h' oa ob N q qt => ?_)
  obtain ⟨M10, -⟩ := MK.sub (20, i) M9 t9 a8 k9 n8 l8 N q
  exact hQ h' g ib kp pl oa ob m dv rg ct mb mt a b1 b2 b3 b c1 c d1 M10 qt
