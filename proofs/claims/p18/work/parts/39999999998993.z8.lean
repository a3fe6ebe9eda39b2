theorem RD_op {I : Nat} {z z' : CZ} {y y' : RZ} {k b hv lv : Int32} {d : Nat → Int32} (H : RD z y) (b66 : nb (y.1 66 0) 4000) (h65 : cl (y.1 65 0) ≤ cl (y.1 66 0)) (h128 : cl (y.1 66 0) - cl (y.1 65 0) < 128) (eI : I = (cl (z.1 124 0) + cl (z.1 125 0)) % 128) (u124 : z'.1 124 0 = z.1 124 0) (u125 : z'.1 125 0 = nI (cl (z.1 125 0)) + 1) (u126 : ∀ x, z'.1 126 x = if x = I then k else z.1 126 x) (u127 : ∀ x, z'.1 127 x = if x = I then b else z.1 127 x) (u129 : ∀ x, z'.1 129 x = if x = I then hv else z.1 129 x) (u130 : ∀ x, z'.1 130 x = if x = I then lv else z.1 130 x) (u131 : ∀ q x, x < 64 → z'.1 131 (64 * q + x) = if q = I then d x else z.1 131 (64 * q + x)) (s65 : y'.1 65 0 = y.1 65 0) (s66 : y'.1 66 0 = y.1 66 0 + 1) (s67 : ∀ x, y'.1 67 x = if x = cl (y.1 66 0) then hv else y.1 67 x) (s68 : ∀ x, y'.1 68 x = if x = cl (y.1 66 0) then lv else y.1 68 x) (s69 : ∀ x, y'.1 69 x = if x = cl (y.1 66 0) then k else y.1 69 x) (s70 : ∀ x, y'.1 70 x = if x = cl (y.1 66 0) then b else y.1 70 x) (s71 : ∀ q x, x < 64 → y'.1 71 (64 * q + x) = if q = cl (y.1 66 0) then d x else y.1 71 (64 * q + x)) : RD z' y' := by
  have c66 := b66.2
  have e125 : cl (z.1 125 0) = cl (y.1 66 0) - cl (y.1 65 0) := by rw [H.1, cl_nI (by omega)]
  have c' : cl (y'.1 66 0) = cl (y.1 66 0) + 1 := by rw [s66, (cl_inc b66 (by omega)).2]
  refine ⟨?_, fun i hi => ?_⟩
  · rw [u125, c', s65, e125, nIv_inc, show cl (y.1 66 0) - cl (y.1 65 0) + 1 = cl (y.1 66 0) + 1 - cl (y.1 65 0) by omega]
  · rw [c', s65] at hi
    unfold RDo
    rw [u124, s65]
    by_cases q : i = cl (y.1 66 0) - cl (y.1 65 0)
    · have e1 : (cl (z.1 124 0) + i) % 128 = I := by rw [eI, e125, q]
      have e2 : cl (y.1 65 0) + i = cl (y.1 66 0) := by omega
      rw [e1, e2, u126, u127, u129, u130, s67, s68, s69, s70, if_pos rfl, if_pos rfl, if_pos rfl, if_pos rfl, if_pos rfl, if_pos rfl, if_pos rfl, if_pos rfl]
      exact ⟨rfl, rfl, rfl, rfl, fun x hx => by rw [u131 I x hx, s71 _ x hx, if_pos rfl, if_pos rfl]⟩
    · have n1 : ¬ (cl (z.1 124 0) + i) % 128 = I := by rw [eI, e125]; omega
      have n2 : ¬ cl (y.1 65 0) + i = cl (y.1 66 0) := by omega
      obtain ⟨r1, r2, r3, r4, r5⟩ := H.2 i (by omega)
      rw [u126, u127, u129, u130, s67, s68, s69, s70, if_neg n1, if_neg n1, if_neg n1, if_neg n1, if_neg n2, if_neg n2, if_neg n2, if_neg n2]
      exact ⟨r1, r2, r3, r4, fun x hx => by rw [u131 _ x hx, s71 _ x hx, if_neg n1, if_neg n2]; exact r5 x hx⟩
theorem TK_room {pg c j : Nat} {s : (Nat → Nat → Int32)} (H : TK pg c s) (hc : c ≤ 512) (hj : j < 4) (g : gst s j) (w : NW j s) : cl (s 66 0) - cl (s 65 0) < 128 := by
  obtain ⟨t, P, t1, t2, t3⟩ := H
  have := t1 j hj g w
  have h5 : (if s 5 0 = 0 then 0 else 1) ≤ 1 := by split <;> omega
  have h6 : 6 * P ≤ c := by omega
  omega
theorem TK_op {pg c j : Nat} {s s' : (Nat → Nat → Int32)} (H : TK pg c s) (hj : j < 4) (g : gst s j) (w : NW j s) (b66 : nb (s 66 0) 4000) (h65 : cl (s 65 0) ≤ cl (s 66 0)) (s65 : s' 65 0 = s 65 0) (s66 : s' 66 0 = s 66 0 + 1) (s67 : ∀ x, s' 67 x = if x = cl (s 66 0) then nI j else s 67 x) (s68 : ∀ x, s' 68 x = if x = cl (s 66 0) then s 10 j else s 68 x) (e : ∀ f, f = 5 ∨ f = 7 ∨ f = 10 ∨ f = 60 ∨ f = 63 → s' f = s f) : TK pg c s' := by
  obtain ⟨t, P, t1, t2, t3⟩ := H
  have tj := t1 j hj g w
  have c66 := b66.2
  have c' : cl (s' 66 0) = cl (s 66 0) + 1 := by rw [s66, (cl_inc b66 (by omega)).2]
  refine ⟨fun h => if h = j then t h - 1 else t h, P, fun h hh g' w' => ?_, ?_, ?_⟩
  · show 1 ≤ if h = j then t h - 1 else t h
    by_cases x : h = j
    · subst x
      exact absurd ⟨by rw [s67, if_pos rfl], by rw [s68, if_pos rfl, e 10 (by omega)]⟩ (w' (cl (s 66 0)) (by rw [s65]; exact h65) (by rw [c']; omega))
    · rw [if_neg x]
      refine t1 h hh ?_ (fun o q1 q2 q3 => ?_)
      · unfold gst at g' ⊢; rw [e 7 (by omega)] at g'; exact g'
      · refine w' o (by rw [s65]; exact q1) (by rw [c']; omega) ?_
        rw [s67, s68, if_neg (by omega), if_neg (by omega), e 10 (by omega)]; exact q3
  · rw [c', s65, e 5 (by omega)]
    show _ + ((if 0 = j then t 0 - 1 else t 0) + (if 1 = j then t 1 - 1 else t 1) + (if 2 = j then t 2 - 1 else t 2) + (if 3 = j then t 3 - 1 else t 3)) ≤ _
    have h4 : j = 0 ∨ j = 1 ∨ j = 2 ∨ j = 3 := by omega
    have : (if 0 = j then t 0 - 1 else t 0) + (if 1 = j then t 1 - 1 else t 1) + (if 2 = j then t 2 - 1 else t 2) + (if 3 = j then t 3 - 1 else t 3) + 1 = t 0 + t 1 + t 2 + t 3 := by
      rcases h4 with q | q | q | q <;> subst q
      · rw [if_pos rfl, if_neg (by decide), if_neg (by decide), if_neg (by decide)]; omega
      · rw [if_neg (by decide), if_pos rfl, if_neg (by decide), if_neg (by decide)]; omega
      · rw [if_neg (by decide), if_neg (by decide), if_pos rfl, if_neg (by decide)]; omega
      · rw [if_neg (by decide), if_neg (by decide), if_neg (by decide), if_pos rfl]; omega
    omega
  · rw [e 60 (by omega), pgc_e (s := s) pg (fun i _ => by rw [e 63 (by omega)])]; exact t3
