
/-! the class's trials while it searches -/
def fQ (v : VS) (j0 : Nat) (x0 : Int) (r : Nat) (y : Int) : VS := v2 (v2 (cl_asTold v) 67 j0 x0) 67 r y
def FK (v x : VS) (j0 : Nat) (x0 : Int) (r : Nat) : Prop :=
  (INV x) ∧
  (∀ k, k < 67 ∨ (78 < k ∧ k < 91) ∨ 104 < k → x k = v k) ∧
  (∀ j, j ≠ r → x 67 j = (v2 (cl_asTold v) 67 j0 x0) 67 j) ∧
  (∀ k, 68 ≤ k → k ≤ 72 → x k = (cl_asTold v) k)
theorem FK.i {v x : VS} {j0 : Nat} {x0 : Int} {r : Nat} (h : FK v x j0 x0 r) : INV x := h.1
theorem FK.e {v x : VS} {j0 : Nat} {x0 : Int} {r : Nat} (h : FK v x j0 x0 r) : ∀ k, k < 67 ∨ (78 < k ∧ k < 91) ∨ 104 < k → x k = v k := h.2.1
theorem FK.a {v x : VS} {j0 : Nat} {x0 : Int} {r : Nat} (h : FK v x j0 x0 r) : ∀ j, j ≠ r → x 67 j = (v2 (cl_asTold v) 67 j0 x0) 67 j := h.2.2.1
theorem FK.f {v x : VS} {j0 : Nat} {x0 : Int} {r : Nat} (h : FK v x j0 x0 r) : ∀ k, 68 ≤ k → k ≤ 72 → x k = (cl_asTold v) k := h.2.2.2
theorem FK.play {v x : VS} {j0 r : Nat} {x0 y : Int} (k : FK v x j0 x0 r) (sg : SG (fQ v j0 x0 r y)) (hy : inn (bd 67 r) y) : FK v (xplay 91 (v2 x 67 r y)) j0 x0 r ∧ RA 91 (arun (cP (fQ v j0 x0 r y))) (xplay 91 (v2 x 67 r y)) ∧ (xplay 91 (v2 x 67 r y)) 104 = x 104 := by
  have pk : ∀ j, 33 ≤ j → j ≤ 72 → (v2 x 67 r y) j = (fQ v j0 x0 r y) j := fun j h1 h2 => by
    unfold fQ
    by_cases q : j = 67
    · subst q
      funext i
      rw [v2_eq, v2_eq]
      by_cases z : i = r
      · rw [if_pos ⟨rfl, z⟩, if_pos ⟨rfl, z⟩]
      · rw [if_neg (fun w => z w.2), if_neg (fun w => z w.2), k.a i z]
    · rw [v2_row q, v2_row q, v2_row q]
      by_cases z : j < 67
      · rw [k.e j (by omega), o_cl_asTold (by omega)]
      · exact k.f j (by omega) h2
  have px : XI (v2 x 67 r y) := k.i.i.x.put hy
  have sg2 : SG (v2 x 67 r y) := sg.mod px (fun j a b => pk j a (by omega)) (fun j a b => pk j (by omega) (by omega)) (by rw [pk 67 (by omega) (by omega)])
  have ec : cP (v2 x 67 r y) = cP (fQ v j0 x0 r y) := by
    refine cP_of2 (fun j k1 k2 => pk j k1 (by omega)) ?_ ?_ ?_ ?_ ?_ ?_ ?_ ?_ ?_ (fun j hj => ⟨?_, ?_, ?_⟩) (fun j hj => ?_)
    all_goals rw [pk _ (by omega) (by omega)]
  obtain ⟨g1, g2, g3⟩ := k.i.play (p := v2 x 67 r y) (fun j hj => v2_row (by omega)) sg2
  rw [ec] at g2
  refine ⟨⟨g1, fun j hj => by rw [g3 j (by omega), k.e j hj], fun j hj => ?_, fun j j1 j2 => ?_⟩, g2, g3 104 (by omega)⟩
  · rw [xplay_row (by omega) (by omega), v2_eq, if_neg (fun w => hj w.2), k.a j hj]
  · rw [xplay_row (by omega) (by omega), v2_row (by omega), k.f j j1 j2]
theorem FK.of104 {v x w : VS} {j0 r : Nat} {x0 : Int} (k : FK v x j0 x0 r) (hx : XI w) (e : ∀ j, j ≠ 104 → w j = x j) : FK v w j0 x0 r := by
  refine ⟨k.i.trial hx ?_ (fun j hj => e j (by omega)), fun j hj => by rw [e j (by omega), k.e j hj], fun j hj => by rw [e 67 (by omega), k.a j hj], fun j j1 j2 => by rw [e j (by omega), k.f j j1 j2]⟩
  have := k.i.i.z
  unfold WZ at *
  rw [e 73 (by omega), e 74 (by omega)]
  exact this
theorem FK.init {v : VS} (h : INV v) {j0 r : Nat} {x0 : Int} (hj : inn (bd 67 j0) x0) : FK v (v2 (cl_asTold v) 67 j0 x0) j0 x0 r := by
  refine ⟨h.trial ((i_cl_asTold h.i.x).put hj) ?_ (fun j hj => by rw [v2_row (by omega), o_cl_asTold (by omega)]), fun j hj => by rw [v2_row (by omega), o_cl_asTold (by omega)], fun j _ => rfl, fun j j1 j2 => by rw [v2_row (by omega)]⟩
  have := h.i.z
  unfold WZ at *
  rw [v2_row (by omega), v2_row (by omega), o_cl_asTold (by omega), o_cl_asTold (by omega)]
  exact this
theorem fQ_sg {v : VS} (h : INV v) {j0 r : Nat} {x0 y : Int} (h0 : j0 = 7 ∨ j0 = 8 ∨ j0 = 9) (hr : r = 0 ∨ r = 1) (hj : inn (bd 67 j0) x0) (hy : inn (bd 67 r) y) : SG (fQ v j0 x0 r y) ∧ fQ v j0 x0 r y 67 6 = fQ v j0 x0 r y 33 1 - 1 := by
  obtain ⟨a0, a1, a4, a5, a6, a7, a8, a9, a68⟩ := asTold_r v
  unfold fQ
  have e6 : (v2 (v2 (cl_asTold v) 67 j0 x0) 67 r y) 67 6 = (cl_asTold v) 67 6 := by rw [v2_eq, if_neg (by omega), v2_eq, if_neg (by omega)]
  refine ⟨h.i.sg.mod (((i_cl_asTold h.i.x).put hj).put hy) (fun k a b => by rw [v2_row (by omega), v2_row (by omega)]) (fun k a b => by rw [v2_row (by omega), v2_row (by omega)]) e6, ?_⟩
  rw [e6, a6, v2_row (by omega), v2_row (by omega), o_cl_asTold (by omega)]
/-- rows of the parameters that do not see who is muffled, what is cut -/
theorem cP_67 {p p' : VS} {r : Nat} (hr : r = 0 ∨ r = 1) (e : ∀ k, k ≠ 67 → p' k = p k) (e2 : ∀ j, j ≠ r → p' 67 j = p 67 j) : ∀ k, k ≠ 6 + r → cP p' k = cP p k := by
  intro k hk
  have e33 := e 33 (by omega)
  have l : ∀ (z w : Int), xlag p' z w = xlag p z w := fun z w => by
    unfold xlag
    rw [e _ (by omega), e _ (by omega)]
  funext j
  unfold cP xwind
  rw [e 33 (by omega), e 34 (by omega), e 35 (by omega), e 36 (by omega), e 37 (by omega), e 38 (by omega), e 39 (by omega), e 63 (by omega), e 64 (by omega), e 65 (by omega), e 66 (by omega), e 68 (by omega), e 69 (by omega), e 70 (by omega), e 71 (by omega), e 72 (by omega), e2 4 (by omega), e2 5 (by omega), e2 6 (by omega), e2 7 (by omega), e2 8 (by omega), e2 9 (by omega)]
  rcases hr with rfl | rfl
  · rw [e2 1 (by omega), if_neg (show ¬ k = 6 from hk), if_neg (show ¬ k = 6 from hk)]
    simp only [l]
  · rw [e2 0 (by omega), if_neg (show ¬ k = 7 from hk), if_neg (show ¬ k = 7 from hk)]
    simp only [l]
