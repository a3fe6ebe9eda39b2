def it (S : Nat) : Nat → VW → VW
  | 0, A => A
  | k + 1, A => it S k (gs S A)
def ou (A : VW) : Nat := cl (A.1 37 0)
def vok (S : Nat) (A : VW) : Prop := v_B S 0 A.1 ∧ A.1 38 0 = 0 ∧ nb (A.1 37 0) A.2.1 ∧ A.2.2 ≤ ou A
theorem it_m {S : Nat} : ∀ {k : Nat} {A : VW}, (it S k A).2.1 = A.2.1 + k
  | 0, _ => rfl
  | k + 1, A => by rw [it, it_m]; show A.2.1 + 1 + k = _; omega
theorem it_s {S : Nat} : ∀ {k : Nat} {A : VW}, it S (k + 1) A = gs S (it S k A)
  | 0, _ => rfl
  | k + 1, A => by rw [it, it_s]; rfl
theorem nIv_inc (n : Nat) : nI n + 1 = nI (n + 1) := by unfold nI; rw [Int32.ofNat_add]; rfl
theorem gs_ok {S : Nat} {A : VW} (H : vok S A) (hm : A.2.1 < 2147483000) : vok S (gs S A) ∧ (ou (gs S A) = ou A ∨ ou (gs S A) = ou A + 1) := by
  obtain ⟨h1, h2, h3, h4⟩ := H
  have hq : nb (A.1 38 0) 127 := by rw [h2]; exact nb_0
  have hR := st_R (τ := cT A.2.1) h1 hq
  have hB : v_B S 0 (cv S 0 (m_stx A.1 (cT A.2.1) 0)) := cv_B hR.2.2.1
  have e37 : (gs S A).1 37 0 = m_stx A.1 (cT A.2.1) 0 37 0 := by
    show cv S 0 (m_stx A.1 (cT A.2.1) 0) 37 0 = _
    exact cv_1 rfl
  obtain ⟨o, ho, _⟩ := v_O_stx (j := 0) (s := A.1) (τ := cT A.2.1)
  have hou : ou (gs S A) = ou A ∨ (ou (gs S A) = ou A + 1) := by
    cases o
    · left; unfold ou; rw [e37, (ho.2.1 rfl).1]
    · right; unfold ou
      rw [e37, (ho.2.2 rfl).1, h3.1, nIv_inc, cl_nI, cl_nI]
      · have := h3.2; omega
      · have := h3.2; omega
  have hnb : nb ((gs S A).1 37 0) (A.2.1 + 1) := by
    cases o
    · rw [e37, (ho.2.1 rfl).1]; exact nb_mono h3 (by omega)
    · rw [e37, (ho.2.2 rfl).1, h3.1, nIv_inc]; exact nb_n (by have := h3.2; omega) (by omega)
  refine ⟨⟨hB, cv_38 (S := S) (j := 0) (σ := m_stx A.1 (cT A.2.1) 0), hnb, ?_⟩, hou⟩
  show gl _ _ _ _ ≤ _
  unfold gl
  by_cases e : ¬ A.1 27 0 = 1 ∧ cv S 0 (m_stx A.1 (cT A.2.1) 0) 27 0 = 1
  · rw [if_pos e]; exact Nat.le_refl _
  · rw [if_neg e]; rcases hou with e | e <;> omega
theorem it_mono {S : Nat} : ∀ {k : Nat} {A : VW}, vok S A → A.2.1 + k < 2147483000 → ou A ≤ ou (it S k A)
  | 0, _, _, _ => Nat.le_refl _
  | k + 1, A, H, hm => by
    obtain ⟨h1, h2⟩ := gs_ok H (by omega)
    have := it_mono (k := k) h1 (by show A.2.1 + 1 + k < _; omega)
    rw [it]; omega
def EvS (D V : (Nat → Nat → Int32)) (e : Nat) : Prop := e < cl (D 44 0) ∧ cl (D 48 e) + cl (D 47 e) ≤ cl (D 50 0) ∧ (cl (D 45 e) = 0 → 1 ≤ cl (D 47 e)) ∧ (cl (D 45 e) = 3 → V 28 0 = 1 → cl (D 47 e) = 64)
def EnAt (D : (Nat → Nat → Int32)) (T : (Nat → Nat → Int64)) (M : Nat) (e : Nat) (A : VW) : Prop := A.2.1 ≤ M ∧ T 49 e = Int64.ofNat A.2.1 ∧ EvOK (mx D A.1) 0 e ∧ EvS D A.1 e ∧ nb (D 46 e) M ∧ ou A ≤ cl (D 46 e) + 32 ∧ (cl (D 45 e) = 3 → A.2.2 ≤ cl (D 46 e))
def Ch (S : Nat) (D : (Nat → Nat → Int32)) (T : (Nat → Nat → Int64)) (M : Nat) : List Nat → Nat → VW → VW → Prop
  | [], kb, A, B => kb = 1 ∧ B.2.1 ≤ M ∧ ∃ k, it S k A = B ∧ ou A = ou B
  | e :: es, kb, A, B => ∃ k, EnAt D T M e (it S k A) ∧ ou (it S k A) ≤ ou A + kb ∧ Ch S D T M es 1 (ge S D e (it S k A)) B
theorem ofNat64 {a b M : Nat} (h : (Int64.ofNat a) = Int64.ofNat b) (ha : a ≤ M) (hb : b ≤ M) (hM : M < 2147483000) : a = b := by
  have := congrArg Int64.toInt h
  rw [Int64.toInt_ofNat_of_lt (by omega), Int64.toInt_ofNat_of_lt (by omega)] at this
  omega
theorem ch_step {S M e kb : Nat} {D : (Nat → Nat → Int32)} {T : (Nat → Nat → Int64)} {es : List Nat} {A B : VW} (H : Ch S D T M (e :: es) kb A B) (hA : vok S A) (hm : A.2.1 ≤ M) (hM : M < 2147483000) (hne : ¬ T 49 e = Int64.ofNat A.2.1) : A.2.1 + 1 ≤ M ∧ ∃ kb', kb' + ou (gs S A) = kb + ou A ∧ Ch S D T M (e :: es) kb' (gs S A) B := by
  obtain ⟨k, h1, h2, h3⟩ := H
  cases k with
  | zero => exact absurd h1.2.1 hne
  | succ k =>
    have hk : A.2.1 + (k + 1) ≤ M := by have := h1.1; rw [it_m] at this; exact this
    have hg := gs_ok hA (by omega)
    have mono := it_mono (k := k) hg.1 (by show A.2.1 + 1 + k < _; omega)
    rw [it] at h1 h2 h3
    refine ⟨by omega, kb + ou A - ou (gs S A), by omega, k, h1, by omega, h3⟩
theorem ch_take {S M e kb : Nat} {D : (Nat → Nat → Int32)} {T : (Nat → Nat → Int64)} {es : List Nat} {A B : VW} (H : Ch S D T M (e :: es) kb A B) (hm : A.2.1 ≤ M) (hM : M < 2147483000) (he : T 49 e = Int64.ofNat A.2.1) : EnAt D T M e A ∧ Ch S D T M es 1 (ge S D e A) B := by
  obtain ⟨k, h1, h2, h3⟩ := H
  have := h1.2.1
  rw [he] at this
  have := ofNat64 this hm h1.1 hM
  rw [it_m] at this
  have : k = 0 := by omega
  subst this
  exact ⟨h1, h3⟩
theorem ch_ent {S M e : Nat} {D : (Nat → Nat → Int32)} {T : (Nat → Nat → Int64)} {B : VW} (hB : EnAt D T M e B) : ∀ {es : List Nat} {kb : Nat} {A : VW}, Ch S D T M es kb A B → Ch S D T M (es ++ [e]) kb A (ge S D e B)
  | [], kb, A, ⟨h1, _, k, h3, h4⟩ => by
    refine ⟨k, by rw [h3]; exact hB, by rw [h3]; omega, rfl, hB.1, 0, by rw [h3]; rfl, ?_⟩
    rw [h3]
  | x :: es, kb, A, ⟨k, h1, h2, h3⟩ => ⟨k, h1, h2, ch_ent hB h3⟩
theorem ch_quiet {S M : Nat} {D : (Nat → Nat → Int32)} {T : (Nat → Nat → Int64)} {B : VW} (h : (gs S B).2.1 ≤ M) (ho : ou (gs S B) = ou B) : ∀ {es : List Nat} {kb : Nat} {A : VW}, Ch S D T M es kb A B → Ch S D T M es kb A (gs S B)
  | [], kb, A, ⟨h1, _, k, h3, h4⟩ => ⟨h1, h, k + 1, by rw [it_s, h3], by rw [h4, ho]⟩
  | x :: es, kb, A, ⟨k, h1, h2, h3⟩ => ⟨k, h1, h2, ch_quiet h ho h3⟩
theorem ch_out {S M e : Nat} {D : (Nat → Nat → Int32)} {T : (Nat → Nat → Int64)} {B : VW} (hB : EnAt D T M e (gs S B)) (ho : ou (gs S B) ≤ ou B + 1) : ∀ {es : List Nat} {kb : Nat} {A : VW}, Ch S D T M es kb A B → Ch S D T M (es ++ [e]) kb A (ge S D e (gs S B))
  | [], kb, A, ⟨h1, _, k, h3, h4⟩ => by
    have e1 : it S (k + 1) A = gs S B := by rw [it_s, h3]
    refine ⟨k + 1, by rw [e1]; exact hB, by rw [e1]; omega, rfl, hB.1, 0, by rw [e1]; rfl, ?_⟩
    rw [e1]
  | x :: es, kb, A, ⟨k, h1, h2, h3⟩ => ⟨k, h1, h2, ch_out hB ho h3⟩
theorem ch_mono {S M N : Nat} {D : (Nat → Nat → Int32)} {T : (Nat → Nat → Int64)} {B : VW} (h : M ≤ N) : ∀ {es : List Nat} {kb : Nat} {A : VW}, Ch S D T M es kb A B → Ch S D T N es kb A B
  | [], kb, A, ⟨h1, h2, h3⟩ => ⟨h1, by omega, h3⟩
  | x :: es, kb, A, ⟨k, h1, h2, h3⟩ => ⟨k, ⟨by have := h1.1; omega, h1.2.1, h1.2.2.1, h1.2.2.2.1, nb_mono h1.2.2.2.2.1 h, h1.2.2.2.2.2⟩, h2, ch_mono h h3⟩
def AgE (D E : (Nat → Nat → Int32)) (T U : (Nat → Nat → Int64)) : Prop := cl (D 44 0) ≤ cl (E 44 0) ∧ cl (D 50 0) ≤ cl (E 50 0) ∧ (∀ e, e < cl (D 44 0) → (∀ f, 45 ≤ f → f ≤ 48 → E f e = D f e) ∧ U 49 e = T 49 e) ∧ (∀ i, i < cl (D 50 0) → E 51 i = D 51 i)
theorem evs_da {D E V : (Nat → Nat → Int32)} {T U : (Nat → Nat → Int64)} {e : Nat} (ag : AgE D E T U) (h : EvS D V e) : DA (mx D V) (mx E V) 0 e := by
  obtain ⟨h1, h2, h3, h4⟩ := h
  unfold DA
  rw [mx_D (by omega : 44 ≤ 45 ∧ 45 ≤ 51), mx_D (by omega : 44 ≤ 47 ∧ 47 ≤ 51), mx_D (by omega : 44 ≤ 48 ∧ 48 ≤ 51), mx_D (by omega : 44 ≤ 51 ∧ 51 ≤ 51), mx_D (by omega : 44 ≤ 51 ∧ 51 ≤ 51), mx_V (by omega : ¬ (44 ≤ 28 ∧ 28 ≤ 51))]
  refine ⟨?_, ?_, ?_⟩
  · intro a; have := h3 a; exact (ag.2.2.2 _ (by omega)).symm
  · intro a i hi; exact (ag.2.2.2 _ (by omega)).symm
  · intro a b i hi; have := h4 a b; exact (ag.2.2.2 _ (by omega)).symm
theorem evok_ag {D E V : (Nat → Nat → Int32)} {T U : (Nat → Nat → Int64)} {e : Nat} (ag : AgE D E T U) (h : e < cl (D 44 0)) (H : EvOK (mx D V) 0 e) : EvOK (mx E V) 0 e := by
  have q := (ag.2.2.1 e h).1
  unfold EvOK at *
  simp only [mx_D (show 44 ≤ 45 ∧ 45 ≤ 51 by omega), mx_D (show 44 ≤ 47 ∧ 47 ≤ 51 by omega), mx_D (show 44 ≤ 48 ∧ 48 ≤ 51 by omega), mx_V (show ¬ (44 ≤ 33 ∧ 33 ≤ 51) by omega), mx_V (show ¬ (44 ≤ 35 ∧ 35 ≤ 51) by omega), mx_V (show ¬ (44 ≤ 28 ∧ 28 ≤ 51) by omega), mx_V (show ¬ (44 ≤ 30 ∧ 30 ≤ 51) by omega)] at *
  rw [q 45 (by decide) (by decide), q 47 (by decide) (by decide), q 48 (by decide) (by decide)]
  exact H
theorem evs_ag {D E V : (Nat → Nat → Int32)} {T U : (Nat → Nat → Int64)} {e : Nat} (ag : AgE D E T U) (H : EvS D V e) : EvS E V e := by
  have q := (ag.2.2.1 e H.1).1
  unfold EvS at *
  rw [q 45 (by decide) (by decide), q 47 (by decide) (by decide), q 48 (by decide) (by decide)]
  have := ag.1; have := ag.2.1
  exact ⟨by omega, by omega, H.2.2⟩
theorem mx_W2 {S : Nat} {D E V : (Nat → Nat → Int32)} (H : v_B S 0 V) (h : nb (V 38 0) 127) : v_W S 0 0 (mx D V) (mx E V) (mx D V) (mx E V) := by
  have q : ∀ D : (Nat → Nat → Int32), v_B S 0 (mx D V) ∧ nb (mx D V 38 0) 127 := by
    intro D
    have e : ∀ f, ¬ (44 ≤ f ∧ f ≤ 51) → mx D V f = V f := fun f h => mx_V h
    obtain ⟨b1, b2, b3, b4, b5, b6, b7, b9, b8⟩ := H
    refine ⟨⟨by rw [e 4 (by omega)]; exact b1, b2, b3, by rw [e 33 (by omega)]; exact b4, by rw [e 35 (by omega)]; exact b5, by rw [e 34 (by omega)]; exact b6, by rw [e 30 (by omega)]; exact b7, by rw [e 29 (by omega)]; exact b9, ?_⟩, by rw [e 38 (by omega)]; exact h⟩
    intro f i hf
    rw [e f (by omega)]; exact b8 f i hf
  refine ⟨?_, v_R_rf (q D).1 (q D).2, v_R_rf (q E).1 (q E).2⟩
  intro f i h1 h2 h3 h4 h5 h6
  rw [mx_V (by omega), mx_V (by omega)]
theorem ge_ag {S e : Nat} {D E : (Nat → Nat → Int32)} {T U : (Nat → Nat → Int64)} {A : VW} (ag : AgE D E T U) (hA : vok S A) (hS : EvS D A.1 e) (hO : EvOK (mx D A.1) 0 e) : ge S D e A = ge S E e A := by
  unfold ge
  refine Prod.ext (cv_eq (v_ev (mx_W2 (D := D) (E := E) hA.1 (by rw [hA.2.1]; exact nb_0)) ?_ hO (evs_da ag hS)).1) rfl
  intro f h1 h2
  rw [mx_D (by omega), mx_D (by omega)]; exact ((ag.2.2.1 e hS.1).1 f h1 h2).symm
theorem ge_ok {S e : Nat} {D : (Nat → Nat → Int32)} {A : VW} (hA : vok S A) (hO : EvOK (mx D A.1) 0 e) : vok S (ge S D e A) ∧ ou (ge S D e A) = ou A := by
  have w := mx_W2 (D := D) (E := D) hA.1 (by rw [hA.2.1]; exact nb_0)
  have hR := (v_ev w (fun _ _ _ => rfl) hO ⟨fun _ => rfl, fun _ _ _ => rfl, fun _ _ _ _ => rfl⟩).2.1
  have e37 : (ge S D e A).1 37 0 = A.1 37 0 := by
    show cv S 0 (m_ev (mx D A.1) 0 e) 37 0 = _
    rw [cv_1 rfl]
    unfold m_ev
    rw [m_event_ne (by decide) (by decide) (by decide) (by decide) (by decide) (by decide) (by decide) (by decide) (by decide), mx_V (by omega)]
  have eo : ou (ge S D e A) = ou A := by unfold ou; rw [e37]
  exact ⟨⟨cv_B hR.2.2.1, cv_38 (S := S) (j := 0) (σ := m_ev (mx D A.1) 0 e), by rw [e37]; exact hA.2.2.1, by rw [eo]; exact hA.2.2.2⟩, eo⟩
theorem it_ok {S : Nat} : ∀ {k : Nat} {A : VW}, vok S A → A.2.1 + k < 2147483000 → vok S (it S k A)
  | 0, _, H, _ => H
  | k + 1, A, H, hm => it_ok (k := k) (gs_ok H (by omega)).1 (by show A.2.1 + 1 + k < _; omega)
theorem en_ag {D E : (Nat → Nat → Int32)} {T U : (Nat → Nat → Int64)} {M e : Nat} {A : VW} (ag : AgE D E T U) (H : EnAt D T M e A) : EnAt E U M e A := by
  have hv := H.2.2.2.1.1
  have q := ag.2.2.1 e hv
  obtain ⟨h1, h2, h3, h4, h5, h6, h7⟩ := H
  refine ⟨h1, by rw [q.2]; exact h2, evok_ag ag hv h3, evs_ag ag h4, ?_, ?_, ?_⟩
  · rw [q.1 46 (by decide) (by decide)]; exact h5
  · rw [q.1 46 (by decide) (by decide)]; exact h6
  · rw [q.1 46 (by decide) (by decide), q.1 45 (by decide) (by decide)]; exact h7
theorem ch_ag {S M : Nat} {D E : (Nat → Nat → Int32)} {T U : (Nat → Nat → Int64)} {B : VW} (ag : AgE D E T U) (hM : M < 2147483000) : ∀ {es : List Nat} {kb : Nat} {A : VW}, vok S A → Ch S D T M es kb A B → Ch S E U M es kb A B
  | [], kb, A, _, h => h
  | x :: es, kb, A, hA, ⟨k, h1, h2, h3⟩ => by
    have hk : A.2.1 + k ≤ M := by have := h1.1; rw [it_m] at this; exact this
    have ok := it_ok (k := k) hA (by omega)
    refine ⟨k, en_ag ag h1, h2, ?_⟩
    rw [← ge_ag ag ok h1.2.2.2.1 h1.2.2.1]
    exact ch_ag ag hM (ge_ok ok h1.2.2.1).1 h3
