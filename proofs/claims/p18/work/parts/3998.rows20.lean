abbrev cl (x : Int32) : Nat := x.toNatClampNeg
def nb (x : Int32) (b : Nat) : Prop := x = nI (cl x) ∧ cl x ≤ b
theorem nb_of {x : Int32} {n b : Nat} (h : x = nI n) (hn : n ≤ b) (hb : b < 2 ^ 31) : nb x b := by
  have hc : cl x = n := by rw [h]; exact nI_clamp (by omega)
  exact ⟨by rw [hc]; exact h, by omega⟩
theorem cl_nI {n : Nat} (h : n < 2 ^ 31) : cl (nI n) = n := nI_clamp h
theorem cl_e {x : Int32} {n : Nat} (h : x = nI n) (hn : n < 2 ^ 31) : cl x = n := by rw [h]; exact nI_clamp hn
theorem lg_cmp0 {x y : Int64} : lg_cmp x y = 0 ↔ x = y := by
  unfold lg_cmp
  constructor
  · intro h
    by_cases h1 : x > y
    · rw [if_pos h1] at h; exact absurd h (by decide)
    · rw [if_neg h1] at h
      by_cases h2 : x = y
      · exact h2
      · rw [if_neg h2] at h; exact absurd h (by decide)
  · intro h
    subst h
    rw [if_neg (fun h => Int64.lt_irrefl h), if_pos rfl]
def m_ev (σ : (Nat → Nat → Int32)) (j E : Nat) : (Nat → Nat → Int32) := m_event σ j E (cl (σ 33 j)) (cl (σ 35 j)) (cl (σ 48 E)) (cl (σ 30 j)) (cl (σ 45 E)) (cl (σ 47 E))
def EvOK (σ : (Nat → Nat → Int32)) (j E : Nat)  : Prop := (E < 24000) ∧ (nb (σ 45 E) 4) ∧ (nb (σ 48 E) 269936) ∧ (nb (σ 47 E) 64) ∧ (cl (σ 45 E) = 1 → cl (σ 47 E) ≤ 32) ∧ (nb (σ 33 j) 16) ∧ (cl (σ 45 E) = 0 → cl (σ 33 j) < 16) ∧ (nb (σ 35 j) 4) ∧ (cl (σ 45 E) = 1 → cl (σ 35 j) < 4) ∧ (cl (σ 45 E) = 3 → σ 28 j = 1 → nb (σ 30 j) 4032)
theorem EvOK.e {σ : (Nat → Nat → Int32)} {j E : Nat} (h : EvOK σ j E) : E < 24000 := h.1
theorem EvOK.kd {σ : (Nat → Nat → Int32)} {j E : Nat} (h : EvOK σ j E) : nb (σ 45 E) 4 := h.2.1
theorem EvOK.fi {σ : (Nat → Nat → Int32)} {j E : Nat} (h : EvOK σ j E) : nb (σ 48 E) 269936 := h.2.2.1
theorem EvOK.sz {σ : (Nat → Nat → Int32)} {j E : Nat} (h : EvOK σ j E) : nb (σ 47 E) 64 := h.2.2.2.1
theorem EvOK.s1 {σ : (Nat → Nat → Int32)} {j E : Nat} (h : EvOK σ j E) : cl (σ 45 E) = 1 → cl (σ 47 E) ≤ 32 := h.2.2.2.2.1
theorem EvOK.q {σ : (Nat → Nat → Int32)} {j E : Nat} (h : EvOK σ j E) : nb (σ 33 j) 16 := h.2.2.2.2.2.1
theorem EvOK.q1 {σ : (Nat → Nat → Int32)} {j E : Nat} (h : EvOK σ j E) : cl (σ 45 E) = 0 → cl (σ 33 j) < 16 := h.2.2.2.2.2.2.1
theorem EvOK.p {σ : (Nat → Nat → Int32)} {j E : Nat} (h : EvOK σ j E) : nb (σ 35 j) 4 := h.2.2.2.2.2.2.2.1
theorem EvOK.p1 {σ : (Nat → Nat → Int32)} {j E : Nat} (h : EvOK σ j E) : cl (σ 45 E) = 1 → cl (σ 35 j) < 4 := h.2.2.2.2.2.2.2.2.1
theorem EvOK.a {σ : (Nat → Nat → Int32)} {j E : Nat} (h : EvOK σ j E) : cl (σ 45 E) = 3 → σ 28 j = 1 → nb (σ 30 j) 4032 := h.2.2.2.2.2.2.2.2.2
theorem rr_ev {G : xG} {ro : xR} {sv : Nat → Value} (hG : x_Good G ro sv) {d m j E : Nat} {ra : Nat → Nat} {σ : Nat → Nat → Int32} {τ : Nat → Nat → Int64} {h : xH} {Q : xQ} (hR : RepR m ra σ τ h) (hj : j < 4) (ok : EvOK σ j E) (hQ : ∀ h', RepR m ra (m_ev σ j E) τ h' → RF m ra h h' → Q none h') : G (d + 1) n_X12_event 0 0 0 [(0, .ref m), (1, .int (nI j)), (2, .int (nI E))] [] h 0 0 Q := by
  have h1 := ok.fi.2
  refine rr_event hG hR hj ok.e ok.kd.1 ok.kd.2 ok.fi.1 (by omega) ok.sz.1 ?_ ok.q.1 ?_ ok.p.1 ?_ (fun h3 h28 => ?_) hQ
  · by_cases h : cl (σ 45 E) = 1
    · exact Or.inl (ok.s1 h)
    · exact Or.inr h
  · by_cases h : cl (σ 45 E) = 0
    · exact Or.inl (ok.q1 h)
    · exact Or.inr h
  · by_cases h : cl (σ 45 E) = 1
    · exact Or.inl (ok.p1 h)
    · exact Or.inr h
  · have := (ok.a h3 h28).2
    exact ⟨(ok.a h3 h28).1, by omega⟩
def m_drs (L : Int32) (j : Nat) : Nat → (Nat → Nat → Int32) → (Nat → Nat → Int32)
  | 0, σ => σ
  | k + 1, σ => if σ 42 (128 * j) ≤ L then m_drs L j k (m_drop σ j k) else σ
theorem m_drs_ne {L : Int32} {j F : Nat} (h0 : F ≠ 38) (h1 : F ≠ 39) (h2 : F ≠ 40) (h3 : F ≠ 41) (h4 : F ≠ 42) (h5 : F ≠ 43) : ∀ (k : Nat) (σ : (Nat → Nat → Int32)), m_drs L j k σ F = σ F
  | 0, _ => rfl
  | k + 1, σ => by
    unfold m_drs
    split
    · rw [m_drs_ne h0 h1 h2 h3 h4 h5 k, m_drop_ne h0 h1 h2 h3 h4 h5]
    · rfl
theorem m_drop_KB {σ : (Nat → Nat → Int32)} {j k : Nat} (h : KB σ j (k + 1)) : KB (m_drop σ j k) j k := by
  intro i hi
  rw [m_drop_lo (by decide) hi, m_drop_lo (by decide) hi]
  exact h (i + 1) (by omega)
theorem m_drs_k {L : Int32} {j : Nat} : ∀ (k : Nat) (σ : (Nat → Nat → Int32)), σ 38 j = nI k → KB σ j k → ∃ k', k' ≤ k ∧ m_drs L j k σ 38 j = nI k' ∧ KB (m_drs L j k σ) j k'
  | 0, σ, h, hB => ⟨0, by omega, h, hB⟩
  | k + 1, σ, h, hB => by
    unfold m_drs
    split
    · obtain ⟨k', a, b, c⟩ := m_drs_k k (m_drop σ j k) m_drop_38 (m_drop_KB hB)
      exact ⟨k', by omega, b, c⟩
    · exact ⟨k + 1, by omega, h, hB⟩
abbrev m_tkE (σ : (Nat → Nat → Int32)) (j : Nat) : Nat := cl (σ 57 (4200 * j + cl (σ 58 j)))
def m_tkc (σ : (Nat → Nat → Int32)) (τ : (Nat → Nat → Int64)) (j : Nat) : Bool := decide (¬ σ 7 j = 1 ∧ cl (σ 58 j) < cl (σ 59 j) ∧ τ 49 (m_tkE σ j) = τ 19 j)
def m_tk2 (σ : (Nat → Nat → Int32)) (j : Nat) : (Nat → Nat → Int32) := m_ev (u2 σ 58 j (nI (cl (σ 58 j)) + 1)) j (m_tkE σ j)
def m_tk3 (σ : (Nat → Nat → Int32)) (j : Nat) : (Nat → Nat → Int32) := m_drs (σ 46 (m_tkE σ j)) j (cl (σ 38 j)) (m_tk2 σ j)
def m_take1 (σ : (Nat → Nat → Int32)) (j : Nat) : (Nat → Nat → Int32) := if σ 7 j = 3 ∧ cl (σ 58 j) + 1 = cl (σ 59 j) then m_goLive (m_tk3 σ j) j (cl (m_tk3 σ j 38 j)) else m_tk3 σ j
def m_tkr (σ : (Nat → Nat → Int32)) (j : Nat) : Bool := decide (σ 7 j = 1 ∨ cl (σ 58 j) < cl (σ 59 j))
def TkPre (σ : (Nat → Nat → Int32)) (j : Nat)  : Prop := (nb (σ 58 j) 4200) ∧ (nb (σ 59 j) 4200) ∧ (cl (σ 58 j) < cl (σ 59 j) → nb (σ 57 (4200 * j + cl (σ 58 j))) 23999)
theorem TkPre.f {σ : (Nat → Nat → Int32)} {j : Nat} (h : TkPre σ j) : nb (σ 58 j) 4200 := h.1
theorem TkPre.t {σ : (Nat → Nat → Int32)} {j : Nat} (h : TkPre σ j) : nb (σ 59 j) 4200 := h.2.1
theorem TkPre.c {σ : (Nat → Nat → Int32)} {j : Nat} (h : TkPre σ j) : cl (σ 58 j) < cl (σ 59 j) → nb (σ 57 (4200 * j + cl (σ 58 j))) 23999 := h.2.2
def TkOK (σ : (Nat → Nat → Int32)) (j : Nat)  : Prop := (EvOK σ j (m_tkE σ j)) ∧ (nb (σ 38 j) 128) ∧ (nb (σ 72 0) 4096) ∧ (nb (σ 66 0) 4071) ∧ (KB σ j (cl (σ 38 j)))
theorem TkOK.ev {σ : (Nat → Nat → Int32)} {j : Nat} (h : TkOK σ j) : EvOK σ j (m_tkE σ j) := h.1
theorem TkOK.k {σ : (Nat → Nat → Int32)} {j : Nat} (h : TkOK σ j) : nb (σ 38 j) 128 := h.2.1
theorem TkOK.O {σ : (Nat → Nat → Int32)} {j : Nat} (h : TkOK σ j) : nb (σ 72 0) 4096 := h.2.2.1
theorem TkOK.P {σ : (Nat → Nat → Int32)} {j : Nat} (h : TkOK σ j) : nb (σ 66 0) 4071 := h.2.2.2.1
theorem TkOK.B {σ : (Nat → Nat → Int32)} {j : Nat} (h : TkOK σ j) : KB σ j (cl (σ 38 j)) := h.2.2.2.2
def m_tk (τ : (Nat → Nat → Int64)) (j : Nat) : Nat → (Nat → Nat → Int32) → (Nat → Nat → Int32)
  | 0, σ => σ
  | n + 1, σ => if m_tkc σ τ j = true then m_tk τ j n (m_take1 σ j) else σ
