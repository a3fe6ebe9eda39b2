theorem c_X3_init {G : xG} {ro : xR} {sv : Nat → Value} (hG : x_Good G ro sv) {d t pg t0 : Nat} {h : xH} {Q : xQ} (hs0 : sv 0 = .ref t0) (hro : ∃ f, ro t0 = some (7, f)) (hp : pg ≤ 16) (ht : h t = some (.inr (3, [.null, .null, .null, .null, .int 0, .long 0, .int 0, .int 0]))) (hQ : ∀ h' m dv rg ct mb mt, x_ext t h h' → h' t = some (.inr (3, [.ref m, .ref dv, .ref rg, .ref ct, .int 0, .long 0, .int 0, .int 0])) → h' m = some (.inr (5, [.ref mb, .ref mt])) → h' mb = some (.inl (1, pg * 256, .inl fun _ => 0)) → Q none h') : G (d + 2) n_X3_init 20 4500 0 [(0, .ref t), (1, .int (nI pg))] [] h 0 0 Q := by
  obtain ⟨f0, hf0⟩ := hro
  repeat refine hG _ _ _ _ _ _ _ _ _ _ _ ?_
  refine ⟨by decide, by decide, fun m hm => ?_⟩
  rintro h1 e1
  have n1 := x_fr hm ht
  have k1 := x_upd e1 hm ht
  repeat refine hG _ _ _ _ _ _ _ _ _ _ _ ?_
  refine ⟨2, 4112, by decide, by decide, c_X5_init hG hp (by rw [e1, x_up_self]; rfl) (fun h2 mb mt f2 km kmb kmt => ?_)⟩
  have k2 := f2 t _ k1 n1
  repeat refine hG _ _ _ _ _ _ _ _ _ _ _ ?_
  refine ⟨_, k2, Nat.le_of_ble_eq_true rfl, rfl, rfl, ?_⟩
  rintro h3 e3
  have k3 : h3 t = some (.inr (3, [.ref m, .null, .null, .null, .int 0, .long 0, .int 0, .int 0])) := by rw [e3, x_up_self]; rfl
  have nmb : mb ≠ t := fun q => by subst q; rw [k2] at kmb; cases kmb
  have km3 := x_upo e3 (Ne.symm n1) km
  have kmb3 := x_upo e3 nmb kmb
  repeat refine hG _ _ _ _ _ _ _ _ _ _ _ ?_
  refine ⟨by decide, by decide, fun dv hdv => ?_⟩
  rintro h4 e4
  have n4 := x_fr hdv k3
  have k4 := x_upd e4 hdv k3
  have km4 := x_upd e4 hdv km3
  have kmb4 := x_upd e4 hdv kmb3
  have ndm := x_fr hdv km3
  have ndb := x_fr hdv kmb3
  repeat refine hG _ _ _ _ _ _ _ _ _ _ _ ?_
  refine ⟨_, _, k4, rfl, ?_⟩
  repeat refine hG _ _ _ _ _ _ _ _ _ _ _ ?_
  refine ⟨8, 260, by decide, by decide, c_X0_init hG (by rw [e4, x_up_self]; rfl) (fun h5 a b c f5 kd => ?_)⟩
  have k5 := f5 t _ k4 n4
  have km5 := f5 m _ km4 ndm
  have kmb5 := f5 mb _ kmb4 ndb
  repeat refine hG _ _ _ _ _ _ _ _ _ _ _ ?_
  refine ⟨_, k5, Nat.le_of_ble_eq_true rfl, rfl, rfl, ?_⟩
  rintro h6 e6
  have k6 : h6 t = some (.inr (3, [.ref m, .ref dv, .null, .null, .int 0, .long 0, .int 0, .int 0])) := by rw [e6, x_up_self]; rfl
  have km6 := x_upo e6 (Ne.symm n1) km5
  have kmb6 := x_upo e6 nmb kmb5
  repeat refine hG _ _ _ _ _ _ _ _ _ _ _ ?_
  refine ⟨by decide, by decide, by decide, by decide, fun rg hrg => ?_⟩
  rintro h7 e7
  have k7 := x_upd e7 hrg k6
  have km7 := x_upd e7 hrg km6
  have kmb7 := x_upd e7 hrg kmb6
  repeat refine hG _ _ _ _ _ _ _ _ _ _ _ ?_
  refine ⟨_, k7, Nat.le_of_ble_eq_true rfl, rfl, rfl, ?_⟩
  rintro h8 e8
  have k8 : h8 t = some (.inr (3, [.ref m, .ref dv, .ref rg, .null, .int 0, .long 0, .int 0, .int 0])) := by rw [e8, x_up_self]; rfl
  have km8 := x_upo e8 (Ne.symm n1) km7
  have kmb8 := x_upo e8 nmb kmb7
  repeat refine hG _ _ _ _ _ _ _ _ _ _ _ ?_
  rw [hs0]
  refine ⟨7, Or.inr ⟨f0, hf0⟩, ?_⟩
  repeat refine hG _ _ _ _ _ _ _ _ _ _ _ ?_
  refine ⟨by decide, by decide, by decide, by decide, fun ct hct => ?_⟩
  rintro h9 e9
  have k9 := x_upd e9 hct k8
  have km9 := x_upd e9 hct km8
  have kmb9 := x_upd e9 hct kmb8
  repeat refine hG _ _ _ _ _ _ _ _ _ _ _ ?_
  refine ⟨_, k9, Nat.le_of_ble_eq_true rfl, rfl, rfl, ?_⟩
  rintro h10 e10
  repeat refine hG _ _ _ _ _ _ _ _ _ _ _ ?_
  refine ⟨by decide, by decide, hQ h10 m dv rg ct mb mt (fun q z hq hqt => ?_) (by rw [e10, x_up_self]; rfl) (by rw [e10, x_up_ne (Ne.symm n1)]; exact km9) (by rw [e10, x_up_ne nmb]; exact kmb9)⟩
  have q1 : h1 q = some z := (congrFun e1 q).trans (x_old hm hq)
  have q2 := f2 q z q1 (x_fr hm hq)
  have q3 : h3 q = some z := by rw [e3, x_up_ne hqt]; exact q2
  have q4 : h4 q = some z := (congrFun e4 q).trans (x_old hdv q3)
  have q5 := f5 q z q4 (x_fr hdv q3)
  have q6 : h6 q = some z := by rw [e6, x_up_ne hqt]; exact q5
  have q7 : h7 q = some z := (congrFun e7 q).trans (x_old hrg q6)
  have q8 : h8 q = some z := by rw [e8, x_up_ne hqt]; exact q7
  have q9 : h9 q = some z := (congrFun e9 q).trans (x_old hct q8)
  rw [e10, x_up_ne hqt]; exact q9
theorem c_X4_loop {G : xG} {ro : xR} {sv : Nat → Value} (hG : x_Good G ro sv) {d t kp mc ms : Nat} {T : List Value} {Q : xQ} {i p : Int32} (hT : T[3]? = some (.ref kp)) : ∀ (n k cs sl : Nat) (h : xH) (f : Nat → Option Nat), k + n = 64 → h t = some (.inr (4, T)) → h kp = some (.inl (6, 64, .inr (.inr (.inr (.inr f))))) → cs + 2 * n ≤ mc → sl + 35 * n ≤ ms → (∀ h', (∀ b e, h b = some e → b ≠ kp → h' b = some e) → Q none h') → G (d + 1) n_X4_init mc ms 46 [(3, .int (nI k)), (0, .ref t), (1, .int i), (2, .int p)] [] h cs sl Q := by
  intro n
  induction n with
  | zero =>
    intro k cs sl h f hk ht hkp hcs hsl hQ
    repeat refine hG _ _ _ _ _ _ _ _ _ _ _ ?_
    refine ⟨_, _, ht, hT, ?_⟩
    repeat refine hG _ _ _ _ _ _ _ _ _ _ _ ?_
    refine ⟨64, Or.inl ⟨_, _, hkp, by decide, rfl⟩, ?_⟩
    repeat refine hG _ _ _ _ _ _ _ _ _ _ _ ?_
    refine ⟨fun _ => ?_, fun hc => absurd (by rw [show k = 64 by omega]; exact Int32.le_refl _) hc⟩
    repeat refine hG _ _ _ _ _ _ _ _ _ _ _ ?_
    exact ⟨by omega, by omega, hQ h (fun b e hb _ => hb)⟩
  | succ n ih =>
    intro k cs sl h f hk ht hkp hcs hsl hQ
    repeat refine hG _ _ _ _ _ _ _ _ _ _ _ ?_
    refine ⟨_, _, ht, hT, ?_⟩
    repeat refine hG _ _ _ _ _ _ _ _ _ _ _ ?_
    refine ⟨64, Or.inl ⟨_, _, hkp, by decide, rfl⟩, ?_⟩
    repeat refine hG _ _ _ _ _ _ _ _ _ _ _ ?_
    refine ⟨fun hc => absurd hc (nI_ge (b := 64) (by omega) (by decide)), fun _ => ?_⟩
    repeat refine hG _ _ _ _ _ _ _ _ _ _ _ ?_
    refine ⟨_, _, ht, hT, ?_⟩
    repeat refine hG _ _ _ _ _ _ _ _ _ _ _ ?_
    refine ⟨by omega, by show sl + 3 ≤ ms; omega, fun a ha => ?_⟩
    rintro h1 e1
    have kt1 := x_upd e1 ha ht
    have kk1 := x_upd e1 ha hkp
    have nk : kp ≠ a := x_fr ha hkp
    have nt : t ≠ a := x_fr ha ht
    repeat refine hG _ _ _ _ _ _ _ _ _ _ _ ?_
    refine ⟨1, 32, by omega, by show sl + 3 + 32 ≤ ms; omega, c_X7_init hG (by rw [e1, x_up_self]; rfl) (fun h2 b hn k1 k2 => ?_)⟩
    have kt2 := hn.ext t _ kt1 nt
    have kk2 := hn.ext kp _ kk1 nk
    repeat refine hG _ _ _ _ _ _ _ _ _ _ _ ?_
    refine ⟨_, _, _, _, _, kk2, k1, rfl, vp_in_nI (by omega) (by decide), ?_⟩
    rintro h3 e3
    have ntk : t ≠ kp := fun q => by subst q; rw [ht] at hkp; cases hkp
    refine hG _ _ _ _ _ _ _ _ _ _ _ ?_
    refine hG _ _ _ _ _ _ _ _ _ _ _ ?_
    have ih1 := ih (k + 1)
    rw [nI_succ] at ih1
    refine ih1 (cs + 1 + 1) (sl + 3 + 32) h3 _ (by omega) (by rw [e3, x_up_ne ntk]; exact kt2) (by rw [e3, x_up_self]) (by omega) (by omega) (fun h' hf => hQ h' (fun q z hq hqk => ?_))
    have q1 : h1 q = some z := (congrFun e1 q).trans (x_old ha hq)
    have q2 := hn.ext q z q1 (x_fr ha hq)
    exact hf q z (by rw [e3, x_up_ne hqk]; exact q2) hqk
def HostOK (pg : Nat) (h : xH) (i H : Nat) : Prop := ∃ g ib kp m dv rg ct mb mt pl : Nat, h H = some (.inr (4, [.int (nI i), .ref g, .ref ib, .ref kp, .int 0, .int 0, .int 0, .int 0, .int 0, .int 0, .int 0, .int 0])) ∧ h g = some (.inr (3, [.ref m, .ref dv, .ref rg, .ref ct, .int 0, .long 0, .int 0, .int 0])) ∧ h m = some (.inr (5, [.ref mb, .ref mt])) ∧ h mb = some (.inl (1, pg * 256, .inl fun _ => 0)) ∧ h ib = some (.inr (2, [.ref pl, .int 0, .int 0]))
theorem HostOK.keep {pg i H : Nat} {h h' : xH} {P : Nat → Prop} (hk : HostOK pg h i H) (h4 : ∀ b fs, h b = some (.inr (4, fs)) → P b) (h3 : ∀ b fs, h b = some (.inr (3, fs)) → P b) (h5 : ∀ b fs, h b = some (.inr (5, fs)) → P b) (h1 : ∀ b y, h b = some (.inl (1, y)) → P b) (h2 : ∀ b fs, h b = some (.inr (2, fs)) → P b) (hf : ∀ b e, h b = some e → P b → h' b = some e) : HostOK pg h' i H := by
  obtain ⟨g, ib, kp, m, dv, rg, ct, mb, mt, pl, a1, a2, a3, a4, a5⟩ := hk
  exact ⟨g, ib, kp, m, dv, rg, ct, mb, mt, pl, hf _ _ a1 (h4 _ _ a1), hf _ _ a2 (h3 _ _ a2), hf _ _ a3 (h5 _ _ a3), hf _ _ a4 (h1 _ _ a4), hf _ _ a5 (h2 _ _ a5)⟩
theorem c_X4_init {G : xG} {ro : xR} {sv : Nat → Value} (hG : x_Good G ro sv) {d t pg t0 i : Nat} {h : xH} {Q : xQ} (hs0 : sv 0 = .ref t0) (hro : ∃ f, ro t0 = some (7, f)) (hp : pg ≤ 16) (ht : h t = some (.inr (4, [.int 0, .null, .null, .null, .int 0, .int 0, .int 0, .int 0, .int 0, .int 0, .int 0, .int 0]))) (hQ : ∀ h', x_ext t h h' → HostOK pg h' i t → Q none h') : G (d + 3) n_X4_init 160 7500 0 [(0, .ref t), (1, .int (nI i)), (2, .int (nI pg))] [] h 0 0 Q := by
  repeat refine hG _ _ _ _ _ _ _ _ _ _ _ ?_
  refine ⟨_, ht, Nat.le_of_ble_eq_true rfl, rfl, rfl, ?_⟩
  rintro h1 e1
  have k1 : h1 t = some (.inr (4, [.int (nI i), .null, .null, .null, .int 0, .int 0, .int 0, .int 0, .int 0, .int 0, .int 0, .int 0])) := by rw [e1, x_up_self]; rfl
  repeat refine hG _ _ _ _ _ _ _ _ _ _ _ ?_
  refine ⟨by decide, by decide, fun g hg => ?_⟩
  rintro h2 e2
  have n2 := x_fr hg k1
  have k2 := x_upd e2 hg k1
  repeat refine hG _ _ _ _ _ _ _ _ _ _ _ ?_
  refine ⟨20, 4500, by decide, by decide, c_X3_init hG hs0 hro hp (by rw [e2, x_up_self]; rfl) (fun h3 m dv rg ct mb mt f3 kg km kmb => ?_)⟩
  have k3 := f3 t _ k2 n2
  have nm : m ≠ t := fun q => by subst q; rw [k3] at km; cases km
  have nmb : mb ≠ t := fun q => by subst q; rw [k3] at kmb; cases kmb
  repeat refine hG _ _ _ _ _ _ _ _ _ _ _ ?_
  refine ⟨_, k3, Nat.le_of_ble_eq_true rfl, rfl, rfl, ?_⟩
  rintro h4 e4
  have k4 : h4 t = some (.inr (4, [.int (nI i), .ref g, .null, .null, .int 0, .int 0, .int 0, .int 0, .int 0, .int 0, .int 0, .int 0])) := by rw [e4, x_up_self]; rfl
  have kg4 := x_upo e4 (Ne.symm n2) kg
  have km4 := x_upo e4 nm km
  have kmb4 := x_upo e4 nmb kmb
  repeat refine hG _ _ _ _ _ _ _ _ _ _ _ ?_
  refine ⟨by decide, by decide, fun ib hib => ?_⟩
  rintro h5 e5
  have n5 := x_fr hib k4
  have k5 := x_upd e5 hib k4
  repeat refine hG _ _ _ _ _ _ _ _ _ _ _ ?_
  refine ⟨1, 512, by decide, by decide, c_X2_init hG (n := 512) ⟨by decide, by decide⟩ (by rw [e5, x_up_self]; rfl) (fun h6 pl f6 kib _ => ?_)⟩
  have o6 : ∀ b e, h4 b = some e → h6 b = some e := fun b e hb => f6 b e ((congrFun e5 b).trans (x_old hib hb)) (x_fr hib hb)
  repeat refine hG _ _ _ _ _ _ _ _ _ _ _ ?_
  refine ⟨_, o6 _ _ k4, Nat.le_of_ble_eq_true rfl, rfl, rfl, ?_⟩
  rintro h7 e7
  have k7 : h7 t = some (.inr (4, [.int (nI i), .ref g, .ref ib, .null, .int 0, .int 0, .int 0, .int 0, .int 0, .int 0, .int 0, .int 0])) := by rw [e7, x_up_self]; rfl
  have o7 : ∀ b e, h4 b = some e → b ≠ t → h7 b = some e := fun b e hb hbt => by rw [e7, x_up_ne hbt]; exact o6 b e hb
  repeat refine hG _ _ _ _ _ _ _ _ _ _ _ ?_
  refine ⟨by decide, by decide, by decide, by decide, fun kp hkp => ?_⟩
  rintro h8 e8
  have k8 := x_upd e8 hkp k7
  have n8 := x_fr hkp k7
  have o8 : ∀ b e, h7 b = some e → h8 b = some e := fun b e hb => (congrFun e8 b).trans (x_old hkp hb)
  repeat refine hG _ _ _ _ _ _ _ _ _ _ _ ?_
  refine ⟨_, k8, Nat.le_of_ble_eq_true rfl, rfl, rfl, ?_⟩
  rintro h9 e9
  have k9 : h9 t = some (.inr (4, [.int (nI i), .ref g, .ref ib, .ref kp, .int 0, .int 0, .int 0, .int 0, .int 0, .int 0, .int 0, .int 0])) := by rw [e9, x_up_self]; rfl
  have kib7 := x_upo e7 (Ne.symm n5) kib
  have kib9 := x_upo e9 (Ne.symm n5) (o8 _ _ kib7)
  refine hG _ _ _ _ _ _ _ _ _ _ _ ?_
  refine hG _ _ _ _ _ _ _ _ _ _ _ ?_
  refine c_X4_loop hG (t := t) (kp := kp) rfl 64 0 _ _ h9 (fun _ => none) rfl k9 (by rw [e9, x_up_ne (Ne.symm n8), e8, x_up_self]; rfl) (by decide) (by decide) (fun h' hf => hQ h' (fun q z hq hqt => ?_) ?_)
  · have q1 : h1 q = some z := by rw [e1, x_up_ne hqt]; exact hq
    have q2 : h2 q = some z := (congrFun e2 q).trans (x_old hg q1)
    have q3 := f3 q z q2 (x_fr hg q1)
    have q4 : h4 q = some z := by rw [e4, x_up_ne hqt]; exact q3
    have q7 := o7 q z q4 hqt
    exact hf q z (by rw [e9, x_up_ne hqt]; exact o8 q z q7) (x_fr hkp q7)
  · have key : ∀ b e, h4 b = some e → b ≠ t → h' b = some e := fun b e hb hbt => hf b e (by rw [e9, x_up_ne hbt]; exact o8 b e (o7 b e hb hbt)) (x_fr hkp (o7 b e hb hbt))
    exact ⟨g, ib, kp, m, dv, rg, ct, mb, mt, pl, hf t _ k9 n8, key g _ kg4 (Ne.symm n2), key m _ km4 nm, key mb _ kmb4 nmb, hf ib _ kib9 (x_fr hkp kib7)⟩
