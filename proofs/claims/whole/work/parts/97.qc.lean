/-! changes of the bay -/
theorem AIR.of2 {v v' : VS} (h : AIR v) (e33 : v' 33 1 = v 33 1) (e : ∀ k, 46 ≤ k → k ≤ 66 → v' k = v k) : AIR v' := by
  unfold AIR at *
  rw [e33, e 46 (by omega) (by omega), e 47 (by omega) (by omega), e 48 (by omega) (by omega), e 50 (by omega) (by omega), e 51 (by omega) (by omega), e 52 (by omega) (by omega), e 53 (by omega) (by omega), e 54 (by omega) (by omega), e 55 (by omega) (by omega), e 56 (by omega) (by omega), e 57 (by omega) (by omega), e 58 (by omega) (by omega), e 59 (by omega) (by omega), e 60 (by omega) (by omega), e 61 (by omega) (by omega), e 63 (by omega) (by omega), e 64 (by omega) (by omega), e 65 (by omega) (by omega), e 66 (by omega) (by omega)]
  exact h
/-- a bay of the class that stays, and one of the reference that stays -/
theorem CPB.refl {a : Nat} {w s : VS} (e : ∀ j, a ≤ j → j ≤ a + 28 → w j = s j) : CPB a a w s := fun d i hd _ => by rw [e (a + d) (by omega) (by omega)]
theorem IMQ.of3 {v w : VS} (h : IMQ v) (hx : XI v) (e0 : w 0 13 = v 0 13) (e : ∀ j, 116 ≤ j → j ≤ 202 → w j = v j) (e18 : w 218 = v 218) (m : ∀ r : Nat, 1 ≤ r → r ≤ 3 → RCB r r w v) : IMQ w := by
  refine ⟨fun r hr => by rw [e0, e18]; exact h.k r hr, fun r hr hk => ?_⟩
  rw [e18] at hk
  obtain ⟨g1, g2⟩ := h.q r hr hk
  have c : CPB (116 + 29 * r) (116 + 29 * r) w v := CPB.refl (fun j a b => e j (by omega) (by omega))
  have t : BT (116 + 29 * r) v := hx.bt (by omega)
  exact ⟨g1.cp t c (m (1 + r) (by omega) (by omega)), g2.cp t c⟩
theorem INV.chg {v w : VS} (h : INV v) (hx : XI w) (hc : CF w) (e0 : ∀ j, j ≠ 10 → w 0 j = v 0 j) (s1 : w 0 10 = 1) (er : ∀ k, (1 ≤ k ∧ k < 33) ∨ (67 ≤ k ∧ k < 203) ∨ (204 ≤ k ∧ k ≤ 208) ∨ k = 218 → w k = v k) (f6 : w 203 6 = v 203 6) (f14 : w 203 14 = v 203 14) (f15 : w 203 15 = v 203 15) (b : BQ 33 0 w) (g : VB 33 w) (a : AIR w) (m : ∀ r : Nat, 1 ≤ r → r ≤ 3 → RCB r r w v) : INV w := by
  refine ⟨⟨hx, hc, ?_, h.i.t.of (e0 1 (by omega)) (er 1 (by omega)) (er 2 (by omega)) (er 208 (by omega)) f6 f14 f15, h.i.s.of (fun j a b => er j (by omega)) (fun j a b => er j (by omega)), h.i.i.of3 h.i.x (e0 13 (by omega)) (fun j a b => er j (by omega)) (er 218 (by omega)) m, b, g⟩, a, fun z => by omega⟩
  have := h.i.z
  unfold WZ at *
  rw [er 73 (by omega), er 74 (by omega)]
  exact this
theorem RCB.refl {r : Nat} {w v : VS} (e9 : w 209 r = v 209 r) (e10 : ∀ i, 11 * r ≤ i → i < 11 * r + 11 → w 210 i = v 210 i) (e11 : ∀ i, 27 * r ≤ i → i < 27 * r + 27 → w 211 i = v 211 i) (e12 : ∀ i, 48 * r ≤ i → i < 48 * r + 48 → w 212 i = v 212 i) (e13 : ∀ i, 15 * r ≤ i → i < 15 * r + 15 → w 213 i = v 213 i) (e14 : ∀ i, 12 * r ≤ i → i < 12 * r + 12 → w 214 i = v 214 i) (e15 : ∀ i, 18 * r ≤ i → i < 18 * r + 18 → w 215 i = v 215 i) (e16 : ∀ i, 18 * r ≤ i → i < 18 * r + 18 → w 216 i = v 216 i) (e17 : ∀ i, 18 * r ≤ i → i < 18 * r + 18 → w 217 i = v 217 i) : RCB r r w v :=
  ⟨e9, fun i hi => e10 _ (by omega) (by omega), fun i hi => e11 _ (by omega) (by omega), fun i hi => e12 _ (by omega) (by omega), fun i hi => e13 _ (by omega) (by omega), fun i hi => e14 _ (by omega) (by omega), fun i hi => e15 _ (by omega) (by omega), fun i hi => e16 _ (by omega) (by omega), fun i hi => e17 _ (by omega) (by omega)⟩
theorem BQ.set {v w : VS} (h : BQ 33 0 v) (er : ∀ j, 34 ≤ j → j ≤ 61 → w j = v j) (e33 : ∀ i, i < 4 → w 33 i = v 33 i) (eM : w 33 4 = w 210 9) (eX : w 33 5 = w 210 10) (e210 : ∀ i, i < 9 → w 210 i = v 210 i) (e2 : ∀ j, 209 ≤ j → j ≤ 217 → j ≠ 210 → w j = v j) : BQ 33 0 w := by
  obtain ⟨h1, h2, h3, h4, h5, h6, h7, h8, h9, h10, h11, h12, h13, h14, h15, h16, h17, h18, h19⟩ := h
  unfold BQ
  rw [er (33 + 1) (by omega) (by omega), er (33 + 2) (by omega) (by omega), er (33 + 3) (by omega) (by omega), er (33 + 4) (by omega) (by omega), er (33 + 5) (by omega) (by omega), er (33 + 6) (by omega) (by omega), er (33 + 7) (by omega) (by omega), er (33 + 8) (by omega) (by omega), er (33 + 9) (by omega) (by omega), er (33 + 10) (by omega) (by omega), er (33 + 11) (by omega) (by omega), er (33 + 12) (by omega) (by omega), er (33 + 13) (by omega) (by omega), er (33 + 14) (by omega) (by omega), er (33 + 15) (by omega) (by omega), er (33 + 17) (by omega) (by omega), er (33 + 18) (by omega) (by omega), er (33 + 19) (by omega) (by omega), er (33 + 20) (by omega) (by omega), er (33 + 21) (by omega) (by omega), er (33 + 22) (by omega) (by omega), er (33 + 23) (by omega) (by omega), er (33 + 24) (by omega) (by omega), er (33 + 25) (by omega) (by omega), er (33 + 26) (by omega) (by omega), er (33 + 27) (by omega) (by omega), er (33 + 28) (by omega) (by omega), e2 209 (by omega) (by omega) (by omega), e2 211 (by omega) (by omega) (by omega), e2 212 (by omega) (by omega) (by omega), e2 213 (by omega) (by omega) (by omega), e2 214 (by omega) (by omega) (by omega), e2 215 (by omega) (by omega) (by omega), e2 216 (by omega) (by omega) (by omega), e2 217 (by omega) (by omega) (by omega), e33 0 (by omega), e33 1 (by omega), e33 2 (by omega), e33 3 (by omega), e210 (11 * 0) (by omega), e210 (11 * 0 + 1) (by omega), e210 (11 * 0 + 2) (by omega), e210 (11 * 0 + 3) (by omega), e210 (11 * 0 + 4) (by omega), e210 (11 * 0 + 5) (by omega), e210 (11 * 0 + 6) (by omega), e210 (11 * 0 + 7) (by omega), e210 (11 * 0 + 8) (by omega)]
  exact ⟨h1, h2, h3, h4, eM, eX, h7, h8, h9, h10, h11, h12, h13, h14, h15, h16, h17, h18, h19⟩
theorem VB.set {v w : VS} (h : VB 33 v) (er : ∀ j, 34 ≤ j → j ≤ 61 → w j = v j) (e33 : ∀ i, i < 4 → w 33 i = v 33 i) : VB 33 w := by
  unfold VB at *
  rw [er (33 + 4) (by omega) (by omega), er (33 + 5) (by omega) (by omega), er (33 + 6) (by omega) (by omega), er (33 + 7) (by omega) (by omega), er (33 + 9) (by omega) (by omega), er (33 + 10) (by omega) (by omega), er (33 + 11) (by omega) (by omega), er (33 + 12) (by omega) (by omega), er (33 + 17) (by omega) (by omega), er (33 + 18) (by omega) (by omega), er (33 + 20) (by omega) (by omega), er (33 + 21) (by omega) (by omega), er (33 + 22) (by omega) (by omega), er (33 + 24) (by omega) (by omega), er (33 + 25) (by omega) (by omega), er (33 + 26) (by omega) (by omega), er (33 + 28) (by omega) (by omega), e33 0 (by omega), e33 1 (by omega), e33 2 (by omega)]
  exact h
theorem INV.bits {v : VS} (h : INV v) {x : Int} {j : Nat} (hj : j = 4 ∨ j = 5) (hx : XI (v2 (v2 (v2 (v2 v 33 j x) 0 10 1) 203 0 0) 210 (j + 5) x)) : INV (v2 (v2 (v2 (v2 v 33 j x) 0 10 1) 203 0 0) 210 (j + 5) x) := by
  obtain ⟨w, hw⟩ : ∃ w, w = v2 (v2 (v2 (v2 v 33 j x) 0 10 1) 203 0 0) 210 (j + 5) x := ⟨_, rfl⟩
  have r : ∀ k, k ≠ 0 → k ≠ 33 → k ≠ 203 → k ≠ 210 → w k = v k := fun k a b c d => by rw [hw, v2_row d, v2_row c, v2_row a, v2_row b]
  have r0 : ∀ i, i ≠ 10 → w 0 i = v 0 i := fun i hi => by rw [hw, v2_row (by omega), v2_row (by omega), v2_eq, if_neg (fun g => hi g.2), v2_row (by omega)]
  have r1 : w 0 10 = 1 := by rw [hw, v2_row (by omega), v2_row (by omega), v2_eq, if_pos ⟨rfl, rfl⟩]
  have r33 : ∀ i, w 33 i = if i = j then x else v 33 i := fun i => by
    rw [hw, v2_row (by omega), v2_row (by omega), v2_row (by omega), v2_eq]
    by_cases z : i = j
    · rw [if_pos ⟨rfl, z⟩, if_pos z]
    · rw [if_neg (fun g => z g.2), if_neg z]
  have r210 : ∀ i, w 210 i = if i = j + 5 then x else v 210 i := fun i => by
    rw [hw, v2_eq, v2_row (by omega), v2_row (by omega), v2_row (by omega)]
    by_cases z : i = j + 5
    · rw [if_pos ⟨rfl, z⟩, if_pos z]
    · rw [if_neg (fun g => z g.2), if_neg z]
  have r203 : ∀ i, i ≠ 0 → w 203 i = v 203 i := fun i hi => by rw [hw, v2_row (by omega), v2_eq, if_neg (fun g => hi g.2), v2_row (by omega), v2_row (by omega)]
  rw [← hw] at hx ⊢
  have bM := h.i.b.M
  have bX := h.i.b.X
  have bM : v 33 4 = v 210 9 := bM
  have bX : v 33 5 = v 210 10 := bX
  have e33 : ∀ i, i < 4 → w 33 i = v 33 i := fun i hi => by rw [r33, if_neg (by omega)]
  refine h.chg hx (h.i.c.of (fun k a b => r k (by omega) (by omega) (by omega) (by omega))) r0 r1 (fun k hk => r k (by omega) (by omega) (by omega) (by omega)) (r203 6 (by omega)) (r203 14 (by omega)) (r203 15 (by omega)) (h.i.b.set (fun j a b => r j (by omega) (by omega) (by omega) (by omega)) e33 ?_ ?_ (fun i hi => by rw [r210, if_neg (by omega)]) (fun j a b c => r j (by omega) (by omega) (by omega) c)) (h.i.g.set (fun j a b => r j (by omega) (by omega) (by omega) (by omega)) e33) (h.a.of2 (e33 1 (by omega)) (fun k a b => r k (by omega) (by omega) (by omega) (by omega))) (fun q q1 q2 => ?_)
  · rw [r33, r210]
    rcases hj with rfl | rfl
    · rw [if_pos rfl, if_pos rfl]
    · rw [if_neg (by omega), if_neg (by omega)]; exact bM
  · rw [r33, r210]
    rcases hj with rfl | rfl
    · rw [if_neg (by omega), if_neg (by omega)]; exact bX
    · rw [if_pos rfl, if_pos rfl]
  · refine RCB.refl (by rw [r 209 (by omega) (by omega) (by omega) (by omega)]) (fun i a b => by rw [r210, if_neg (by omega)]) (fun i a b => by rw [r 211 (by omega) (by omega) (by omega) (by omega)]) (fun i a b => by rw [r 212 (by omega) (by omega) (by omega) (by omega)]) (fun i a b => by rw [r 213 (by omega) (by omega) (by omega) (by omega)]) (fun i a b => by rw [r 214 (by omega) (by omega) (by omega) (by omega)]) (fun i a b => by rw [r 215 (by omega) (by omega) (by omega) (by omega)]) (fun i a b => by rw [r 216 (by omega) (by omega) (by omega) (by omega)]) (fun i a b => by rw [r 217 (by omega) (by omega) (by omega) (by omega)])
theorem q_muffle {v : VS} (h : INV v) (c i : Int) (h1 : R32 c) (h2 : R32 i) : (mo_muffle (cl_muffle v c i).2 c i).1 = (cl_muffle v c i).1 ∧ INV (mo_muffle (cl_muffle v c i).2 c i).2 := by
  have hx := i_mo_muffle (i_cl_muffle h.i.x h1 h2) h1 h2
  obtain ⟨b0, b1, b3, b4, bL, b9, b10⟩ := h.b0
  by_cases z : (0 ≤ c ∧ c < v 33 0) ∧ (0 ≤ i ∧ i ≤ 1)
  · obtain ⟨x, hX⟩ : ∃ x, x = if i = 1 then setb (v 33 4) c else clrb (v 33 4) c := ⟨_, rfl⟩
    have ec : cl_muffle v c i = (bt (v 33 4) c, v2 (v2 v 33 4 x) 0 10 1) := by
      unfold cl_muffle cl_bit cl_withBit
      rw [if_pos z.1, if_neg (by omega), if_neg (by omega), hX]
    have em : mo_muffle (v2 (v2 v 33 4 x) 0 10 1) c i = (bt (v 33 4) c, v2 (v2 (v2 (v2 v 33 4 x) 0 10 1) 203 0 0) 210 9 x) := by
      have e210 : (v2 (v2 v 33 4 x) 0 10 1) 210 = v 210 := by rw [v2_row (by omega), v2_row (by omega)]
      have e210' : (v2 (v2 (v2 v 33 4 x) 0 10 1) 203 0 0) 210 = v 210 := by rw [v2_row (by omega), e210]
      unfold mo_muffle mo_sets9
      rw [e210, b0, if_pos z.1, if_pos z.2, e210', b9, hX]
      by_cases y : i = 1
      · rw [if_pos y, if_pos y]
      · rw [if_neg y, if_neg y]
    rw [ec] at hx ⊢
    dsimp only at hx ⊢
    rw [em] at hx ⊢
    exact ⟨rfl, h.bits (Or.inl rfl) hx⟩
  · have ec : cl_muffle v c i = (-2, v) := by
      unfold cl_muffle
      repeat' split
      all_goals first | rfl | (exfalso; omega)
    rw [ec]
    show (mo_muffle v c i).1 = -2 ∧ INV (mo_muffle v c i).2
    have em : mo_muffle v c i = (-2, v2 v 203 0 0) := by
      unfold mo_muffle
      repeat' split
      all_goals first | rfl | (exfalso; omega)
    rw [em]
    exact ⟨rfl, h.thr⟩
theorem q_cut {v : VS} (h : INV v) (c i : Int) (h1 : R32 c) (h2 : R32 i) : (mo_cut (cl_cut v c i).2 c i).1 = (cl_cut v c i).1 ∧ INV (mo_cut (cl_cut v c i).2 c i).2 := by
  have hx := i_mo_cut (i_cl_cut h.i.x h1 h2) h1 h2
  obtain ⟨b0, b1, b3, b4, bL, b9, b10⟩ := h.b0
  by_cases z : (0 ≤ c ∧ c < v 37 0) ∧ (0 ≤ i ∧ i ≤ 1)
  · obtain ⟨x, hX⟩ : ∃ x, x = if i = 1 then setb (v 33 5) c else clrb (v 33 5) c := ⟨_, rfl⟩
    have ec : cl_cut v c i = (bt (v 33 5) c, v2 (v2 v 33 5 x) 0 10 1) := by
      unfold cl_cut cl_bit cl_withBit
      rw [if_pos z.1, if_neg (by omega), if_neg (by omega), hX]
    have em : mo_cut (v2 (v2 v 33 5 x) 0 10 1) c i = (bt (v 33 5) c, v2 (v2 (v2 (v2 v 33 5 x) 0 10 1) 203 0 0) 210 10 x) := by
      have e210 : (v2 (v2 v 33 5 x) 0 10 1) 210 = v 210 := by rw [v2_row (by omega), v2_row (by omega)]
      have e210' : (v2 (v2 (v2 v 33 5 x) 0 10 1) 203 0 0) 210 = v 210 := by rw [v2_row (by omega), e210]
      unfold mo_cut mo_sets10
      rw [e210, b3, if_pos z.1, if_pos z.2, e210', b10, hX]
      by_cases y : i = 1
      · rw [if_pos y, if_pos y]
      · rw [if_neg y, if_neg y]
    rw [ec] at hx ⊢
    dsimp only at hx ⊢
    rw [em] at hx ⊢
    exact ⟨rfl, h.bits (Or.inr rfl) hx⟩
  · have ec : cl_cut v c i = (-2, v) := by
      unfold cl_cut
      repeat' split
      all_goals first | rfl | (exfalso; omega)
    rw [ec]
    show (mo_cut v c i).1 = -2 ∧ INV (mo_cut v c i).2
    have em : mo_cut v c i = (-2, v2 v 203 0 0) := by
      unfold mo_cut
      repeat' split
      all_goals first | rfl | (exfalso; omega)
    rw [em]
    exact ⟨rfl, h.thr⟩
