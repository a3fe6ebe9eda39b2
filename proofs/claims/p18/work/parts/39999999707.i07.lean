def v_on (S f i : Nat) : Bool := decide (15 ≤ f ∧ f ≤ 37 ∧ f ≠ 19 ∧ f ≠ 20 ∧ i < v_s f ∧ (f = 15 → i < S))
def cv (S j : Nat) (σ : (Nat → Nat → Int32)) : (Nat → Nat → Int32) := fun f i => if v_on S f i = true then σ f (v_s f * j + i) else if f = 4 then nI S else 0
theorem cv_E {S j : Nat} {σ : (Nat → Nat → Int32)} : v_E S j 0 σ (cv S j σ) := by
  intro f i h1 h2 h3 h4 h5 h6
  rw [Nat.mul_zero, Nat.zero_add]
  unfold cv
  rw [if_pos (by unfold v_on; exact decide_eq_true ⟨h1, h2, h3, h4, h5, h6⟩)]
theorem cv_eq {S j k : Nat} {σ ς : (Nat → Nat → Int32)} (H : v_E S j k σ ς) : cv S j σ = cv S k ς := by
  funext f i
  unfold cv
  by_cases e : v_on S f i = true
  · rw [if_pos e, if_pos e]
    unfold v_on at e
    have e := of_decide_eq_true e
    exact H f i e.1 e.2.1 e.2.2.1 e.2.2.2.1 e.2.2.2.2.1 e.2.2.2.2.2
  · rw [if_neg e, if_neg e]
theorem cv_ee {S j k : Nat} {σ ς : (Nat → Nat → Int32)} (H : cv S j σ = cv S k ς) : v_E S j k σ ς := by
  intro f i h1 h2 h3 h4 h5 h6
  have := congrFun (congrFun H f) i
  unfold cv at this
  rwa [if_pos (by unfold v_on; exact decide_eq_true ⟨h1, h2, h3, h4, h5, h6⟩), if_pos (by unfold v_on; exact decide_eq_true ⟨h1, h2, h3, h4, h5, h6⟩)] at this
theorem cv_1 {S j f : Nat} {σ : (Nat → Nat → Int32)} (h : (decide (15 ≤ f ∧ f ≤ 37 ∧ f ≠ 19 ∧ f ≠ 20 ∧ v_s f = 1)) = true) : cv S j σ f 0 = σ f j := (v_g1 f (cv_E (S := S) (j := j) (σ := σ)) h).symm
theorem byt_0 : byt 0 := by unfold byt; decide
theorem cv_B {S j : Nat} {σ : (Nat → Nat → Int32)} (H : v_B S j σ) : v_B S 0 (cv S j σ) := by
  obtain ⟨b1, b2, b3, b4, b5, b6, b7, b9, b8⟩ := H
  refine ⟨?_, b2, b3, by rw [cv_1 rfl]; exact b4, by rw [cv_1 rfl]; exact b5, ?_, by rw [cv_1 rfl]; exact b7, by rw [cv_1 rfl]; exact b9, ?_⟩
  · unfold cv
    rw [if_neg (by unfold v_on; rw [decide_eq_false (by omega)]; decide), if_pos rfl]
  · intro i hi
    rw [← v_gz (i := i) (cv_E (S := S) (j := j) (σ := σ)) hi]; exact b6 i hi
  · intro f i hf
    unfold cv
    by_cases e : v_on S f i = true
    · rw [if_pos e]; exact b8 f _ hf
    · rw [if_neg e, if_neg (by omega)]; exact byt_0
theorem cv_38 {S j : Nat} {σ : (Nat → Nat → Int32)} : cv S j σ 38 0 = 0 := by
  unfold cv
  rw [if_neg (by unfold v_on; rw [decide_eq_false (by omega)]; decide), if_neg (by decide)]
theorem v_R_rf {S j : Nat} {s : (Nat → Nat → Int32)} (H : v_B S j s) (h : nb (s 38 j) 127) : v_R S j s s := ⟨fun _ _ => .inl rfl, fun _ _ _ => .inl rfl, H, h⟩
theorem nb_0 {n : Nat} : nb 0 n := ⟨rfl, Nat.zero_le _⟩
theorem cv_W {S j : Nat} {σ : (Nat → Nat → Int32)} (H : v_B S j σ) (h : nb (σ 38 j) 127) : v_W S j 0 σ (cv S j σ) σ (cv S j σ) := ⟨cv_E, v_R_rf H h, v_R_rf (cv_B H) (by rw [cv_38]; exact nb_0)⟩
abbrev VW := (Nat → Nat → Int32) × Nat × Nat
def cT (m : Nat) : (Nat → Nat → Int64) := fun _ _ => Int64.ofNat m
def gl (a b : Int32) (o l : Nat) : Nat := if ¬ a = 1 ∧ b = 1 then o else l
def gs (S : Nat) (A : VW) : VW := (cv S 0 (m_stx A.1 (cT A.2.1) 0), A.2.1 + 1, gl (A.1 27 0) (cv S 0 (m_stx A.1 (cT A.2.1) 0) 27 0) (cl (cv S 0 (m_stx A.1 (cT A.2.1) 0) 37 0)) A.2.2)
theorem gs_step {S j m l : Nat} {σ : (Nat → Nat → Int32)} {τ : (Nat → Nat → Int64)} (H : v_B S j σ) (h : nb (σ 38 j) 127) (hc : τ 19 j = Int64.ofNat m) : gs S (cv S j σ, m, l) = (cv S j (m_stx σ τ j), m + 1, gl (σ 27 j) (m_stx σ τ j 27 j) (cl (m_stx σ τ j 37 j)) l) := by
  have e := cv_eq (v_stx (τ := τ) (υ := cT m) (cv_W H h) hc).1
  unfold gs
  dsimp only
  rw [← e, cv_1 rfl, cv_1 rfl, cv_1 rfl]
theorem st_R {S j : Nat} {σ : (Nat → Nat → Int32)} {τ : (Nat → Nat → Int64)} (H : v_B S j σ) (h : nb (σ 38 j) 127) : v_R S j σ (m_stx σ τ j) := (v_stx (τ := τ) (υ := τ) (k := j) (z := σ) ⟨fun _ _ _ _ _ _ _ _ => rfl, v_R_rf H h, v_R_rf H h⟩ rfl).2.1
def mx (D V : (Nat → Nat → Int32)) : (Nat → Nat → Int32) := fun f i => if 44 ≤ f ∧ f ≤ 51 then D f i else V f i
theorem mx_D {D V : (Nat → Nat → Int32)} {f : Nat} (h : 44 ≤ f ∧ f ≤ 51) : mx D V f = D f := by funext i; unfold mx; rw [if_pos h]
theorem mx_V {D V : (Nat → Nat → Int32)} {f : Nat} (h : ¬ (44 ≤ f ∧ f ≤ 51)) : mx D V f = V f := by funext i; unfold mx; rw [if_neg h]
def DA (t u : (Nat → Nat → Int32)) (j e : Nat) : Prop := (cl (t 45 e) = 0 → t 51 (cl (t 48 e)) = u 51 (cl (t 48 e))) ∧ (cl (t 45 e) = 1 → ∀ i, i < cl (t 47 e) → t 51 (cl (t 48 e) + i) = u 51 (cl (t 48 e) + i)) ∧ (cl (t 45 e) = 3 → t 28 j = 1 → ∀ i, i < 64 → t 51 (cl (t 48 e) + i) = u 51 (cl (t 48 e) + i))
theorem nb_s {n b : Nat} (h : n < b) (hb : b < 2147483648) : nb (nI n + 1) b := by
  have : nI n + 1 = nI (n + 1) := by
    unfold nI; rw [Int32.ofNat_add]; rfl
  rw [this]; exact nb_n h hb
theorem v_evp {S j k p F n : Nat} {s z t u : (Nat → Nat → Int32)} (H : v_W S j k s z t u) (hp : p < 4) (hd : ∀ i, i < n → t 51 (F + i) = u 51 (F + i)) : ∀ i, i ≤ 32 → i ≤ n → v_W S j k s z (m_evp t j p F i) (m_evp u k p F i)
  | 0, _, _ => H
  | i + 1, h1, h2 => by
    have ih := v_evp H hp hd i (by omega) (by omega)
    have := v_W_36 (i := 32 * p + i) ih (by omega) (congrArg (fun x : Int32 => x.toInt8.toInt32) (hd i (by omega))) (byt_n _)
    simp only [← Nat.add_assoc] at this
    exact this
theorem v_evd {S j k A F n : Nat} {s z t u : (Nat → Nat → Int32)} (H : v_W S j k s z t u) (hA : A + n ≤ 4096) (hd : ∀ i, i < n → t 51 (F + i) = u 51 (F + i)) : ∀ i, i ≤ n → v_W S j k s z (m_evd t j A F i) (m_evd u k A F i)
  | 0, _ => H
  | i + 1, h2 => v_write (v_evd H hA hd i (by omega)) (by omega) (hd i (by omega))
theorem v_ev {S j k e : Nat} {s z t u : (Nat → Nat → Int32)} (H : v_W S j k s z t u) (he : ∀ f, 45 ≤ f → f ≤ 48 → t f e = u f e) (OK : EvOK t j e) (hd : DA t u j e) : v_W S j k s z (m_ev t j e) (m_ev u k e) := by
  obtain ⟨o1, o2, o3, o4, o5, o6, o7, o8, o9, o10⟩ := OK
  unfold m_ev
  rw [← he 45 (by decide) (by decide), ← he 47 (by decide) (by decide), ← he 48 (by decide) (by decide), ← v_g1 33 H.1 rfl, ← v_g1 35 H.1 rfl, ← v_g1 30 H.1 rfl]
  unfold m_event
  by_cases e0 : cl (t 45 e) = 0
  · rw [if_pos e0, if_pos e0]
    refine v_W_33 (v_W_u 32 H rfl (o7 e0) ?_) rfl (nb_s (o7 e0) (by decide))
    rw [hd.1 e0]
  rw [if_neg e0, if_neg e0]
  by_cases e0 : cl (t 45 e) = 1
  · rw [if_pos e0, if_pos e0]
    have H1 := v_W_34 (i := cl (t 35 j)) (v := nI (cl (t 47 e))) H (o9 e0) rfl (nb_n (o5 e0) (by decide))
    refine v_W_35 (v_evp (n := cl (t 47 e)) H1 (o9 e0) ?_ _ (o5 e0) (Nat.le_refl _)) rfl (nb_s (o9 e0) (by decide))
    intro i hi
    rw [u2_ne (by decide), u2_ne (by decide)]; exact hd.2.1 e0 i hi
  rw [if_neg e0, if_neg e0]
  by_cases e0 : cl (t 45 e) = 2
  · rw [if_pos e0, if_pos e0]
    exact v_W_1 21 H rfl rfl (by rw [v_g1 21 H.1 rfl])
  rw [if_neg e0, if_neg e0]
  by_cases e0 : cl (t 45 e) = 3
  · rw [if_pos e0, if_pos e0]
    have H1 := v_W_1 27 (v := 2) (w := 2) H rfl rfl rfl
    rw [← v_g1 28 H.1 rfl]
    by_cases e1 : t 28 j = 1
    · rw [if_pos e1, if_pos e1]
      refine v_evd (n := 64) H1 (by have := (o10 e0 e1).2; omega) ?_ 64 (Nat.le_refl _)
      intro i hi
      rw [u2_ne (by decide), u2_ne (by decide)]; exact hd.2.2 e0 e1 i hi
    · rw [if_neg e1, if_neg e1]; exact H1
  rw [if_neg e0, if_neg e0]; exact H
def ge (S : Nat) (D : (Nat → Nat → Int32)) (e : Nat) (A : VW) : VW := (cv S 0 (m_ev (mx D A.1) 0 e), A.2.1, A.2.2)
theorem mx_W {S j : Nat} {D σ : (Nat → Nat → Int32)} (H : v_B S j σ) (h : nb (σ 38 j) 127) : v_W S j 0 σ (mx D (cv S j σ)) σ (mx D (cv S j σ)) := by
  have e : ∀ f, ¬ (44 ≤ f ∧ f ≤ 51) → mx D (cv S j σ) f = cv S j σ f := fun f h => mx_V h
  have hb : v_B S 0 (mx D (cv S j σ)) := by
    obtain ⟨b1, b2, b3, b4, b5, b6, b7, b9, b8⟩ := cv_B H
    refine ⟨by rw [e 4 (by omega)]; exact b1, b2, b3, by rw [e 33 (by omega)]; exact b4, by rw [e 35 (by omega)]; exact b5, by rw [e 34 (by omega)]; exact b6, by rw [e 30 (by omega)]; exact b7, by rw [e 29 (by omega)]; exact b9, ?_⟩
    intro f i hf
    rw [e f (by omega)]; exact b8 f i hf
  refine ⟨?_, v_R_rf H h, v_R_rf hb (by rw [e 38 (by omega), cv_38]; exact nb_0)⟩
  intro f i h1 h2 h3 h4 h5 h6
  rw [e f (by omega)]; exact cv_E f i h1 h2 h3 h4 h5 h6
theorem ge_ev {S j e m l : Nat} {D σ : (Nat → Nat → Int32)} (H : v_B S j σ) (h : nb (σ 38 j) 127) (he : ∀ f, 45 ≤ f → f ≤ 48 → σ f e = D f e) (OK : EvOK σ j e) (hd : DA σ D j e) : ge S D e (cv S j σ, m, l) = (cv S j (m_ev σ j e), m, l) := by
  unfold ge
  dsimp only
  refine Prod.ext (cv_eq (v_ev (mx_W (D := D) H h) ?_ OK ?_).1).symm rfl
  · intro f h1 h2; rw [mx_D (by omega)]; exact he f h1 h2
  · unfold DA; rw [mx_D (by omega)]; exact hd
theorem ev_R {S j e : Nat} {σ : (Nat → Nat → Int32)} (H : v_B S j σ) (h : nb (σ 38 j) 127) (OK : EvOK σ j e) : v_R S j σ (m_ev σ j e) := (v_ev (k := j) (z := σ) (u := σ) ⟨fun _ _ _ _ _ _ _ _ => rfl, v_R_rf H h, v_R_rf H h⟩ (fun _ _ _ => rfl) OK ⟨fun _ => rfl, fun _ _ _ => rfl, fun _ _ _ _ => rfl⟩).2.1
