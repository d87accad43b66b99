/-! changes of the bay, II -/
theorem q_tune {v : VS} (h : INV v) (c n : Int) (h1 : R32 c) (h2 : R32 n) : (mo_tune (cl_tune v c n).2 c n).1 = (cl_tune v c n).1 ∧ INV (mo_tune (cl_tune v c n).2 c n).2 := by
  have hx1 := i_cl_tune h.i.x h1 h2
  have hc1 : CF (cl_tune v c n).2 := h.i.c.of (fun k a b => o_cl_tune (by omega))
  have hx := i_mo_tune hx1 h1 h2 hc1
  have hc := n_mo_tune hx1 h1 h2 hc1
  obtain ⟨b0, b1, b3, b4, bL, b9, b10⟩ := h.b0
  have hE : 0 ≤ v 37 0 ∧ v 37 0 ≤ 12 := h.i.x 37 0
  obtain ⟨-, hea, -⟩ := h.che
  by_cases z : (0 ≤ c ∧ c < v 37 0) ∧ (1 ≤ n ∧ n ≤ 60)
  · obtain ⟨c, rfl⟩ := Int.eq_ofNat_of_zero_le z.1.1
    have ec : cl_tune v c n = (v 40 c, v2 (v2 v 40 c n) 0 10 1) := by
      unfold cl_tune
      rw [if_pos z.1, if_neg (by omega), if_neg (by omega), toN]
    have em : mo_tune (v2 (v2 v 40 c n) 0 10 1) c n = (v 40 c, v2 (v2 (v2 (v2 v 40 c n) 0 10 1) 203 0 0) 212 (4 * c + 2) n) := by
      unfold mo_tune
      rw [v2_row (show 210 ≠ 0 by omega), v2_row (show 210 ≠ 40 by omega), v2_row (show 212 ≠ 0 by omega), v2_row (show 212 ≠ 40 by omega), b3, if_pos z.1, if_pos z.2, show (4 * (c : Int) + 2).toNat = 4 * c + 2 by omega, (hea c z.1.2).2.2.1]
    rw [ec] at hx hc ⊢
    dsimp only at hx hc ⊢
    rw [em] at hx hc ⊢
    dsimp only at hx hc ⊢
    obtain ⟨w, hw⟩ : ∃ w, w = v2 (v2 (v2 (v2 v 40 c n) 0 10 1) 203 0 0) 212 (4 * c + 2) n := ⟨_, rfl⟩
    have r' : ∀ k, k ≠ 0 → k ≠ 40 → k ≠ 203 → k ≠ 212 → w k = v k := fun k a b c d => by rw [hw, v2_row d, v2_row c, v2_row a, v2_row b]
    have r : ∀ k, k ≠ 40 → k ≠ 212 → (k ≠ 0 ∧ k ≠ 203) → w k = v k := fun k a b c => r' k c.1 a c.2 b
    have r0 : ∀ i, i ≠ 10 → w 0 i = v 0 i := fun i hi => by rw [hw, v2_row (by omega), v2_row (by omega), v2_eq, if_neg (fun g => hi g.2), v2_row (by omega)]
    have r1 : w 0 10 = 1 := by rw [hw, v2_row (by omega), v2_row (by omega), v2_eq, if_pos ⟨rfl, rfl⟩]
    have r40 : ∀ i, w 40 i = if i = c then n else v 40 i := fun i => by
      rw [hw, v2_row (by omega), v2_row (by omega), v2_row (by omega), v2_eq]
      by_cases y : i = c
      · rw [if_pos ⟨rfl, y⟩, if_pos y]
      · rw [if_neg (fun g => y g.2), if_neg y]
    have r212 : ∀ i, w 212 i = if i = 4 * c + 2 then n else v 212 i := fun i => by
      rw [hw, v2_eq, v2_row (by omega), v2_row (by omega), v2_row (by omega)]
      by_cases y : i = 4 * c + 2
      · rw [if_pos ⟨rfl, y⟩, if_pos y]
      · rw [if_neg (fun g => y g.2), if_neg y]
    have r203 : ∀ i, i ≠ 0 → w 203 i = v 203 i := fun i hi => by rw [hw, v2_row (by omega), v2_eq, if_neg (fun g => hi g.2), v2_row (by omega), v2_row (by omega)]
    rw [← hw] at hx hc ⊢
    refine ⟨rfl, h.chg hx hc r0 r1 (fun k hk => r' k (by omega) (by omega) (by omega) (by omega)) (r203 6 (by omega)) (r203 14 (by omega)) (r203 15 (by omega)) ?_ ?_ (h.a.of2 (by rw [r' 33 (by omega) (by omega) (by omega) (by omega)]) (fun k a b => r' k (by omega) (by omega) (by omega) (by omega))) (fun q q1 q2 => ?_)⟩
    · obtain ⟨g1, g2, g3, g4, g5, g6, g7, g8, g9, g10, g11, g12, g13, g14, g15, g16, g17, g18, g19⟩ := h.i.b
      unfold BQ
      rw [r 33 (by omega) (by omega) (by omega), r (33 + 1) (by omega) (by omega) (by omega), r (33 + 2) (by omega) (by omega) (by omega), r (33 + 3) (by omega) (by omega) (by omega), r (33 + 4) (by omega) (by omega) (by omega), r (33 + 5) (by omega) (by omega) (by omega), r (33 + 6) (by omega) (by omega) (by omega), r (33 + 8) (by omega) (by omega) (by omega), r (33 + 9) (by omega) (by omega) (by omega), r (33 + 10) (by omega) (by omega) (by omega), r (33 + 11) (by omega) (by omega) (by omega), r (33 + 12) (by omega) (by omega) (by omega), r (33 + 13) (by omega) (by omega) (by omega), r (33 + 14) (by omega) (by omega) (by omega), r (33 + 15) (by omega) (by omega) (by omega), r (33 + 17) (by omega) (by omega) (by omega), r (33 + 18) (by omega) (by omega) (by omega), r (33 + 19) (by omega) (by omega) (by omega), r (33 + 20) (by omega) (by omega) (by omega), r (33 + 21) (by omega) (by omega) (by omega), r (33 + 22) (by omega) (by omega) (by omega), r (33 + 23) (by omega) (by omega) (by omega), r (33 + 24) (by omega) (by omega) (by omega), r (33 + 25) (by omega) (by omega) (by omega), r (33 + 26) (by omega) (by omega) (by omega), r (33 + 27) (by omega) (by omega) (by omega), r (33 + 28) (by omega) (by omega) (by omega), r 209 (by omega) (by omega) (by omega), r 210 (by omega) (by omega) (by omega), r 211 (by omega) (by omega) (by omega), r 213 (by omega) (by omega) (by omega), r 214 (by omega) (by omega) (by omega), r 215 (by omega) (by omega) (by omega), r 216 (by omega) (by omega) (by omega), r 217 (by omega) (by omega) (by omega)]
      refine ⟨g1, g2, g3, g4, g5, g6, g7, g8, fun e he => ?_, g10, g11, g12, g13, g14, g15, g16, g17, g18, g19⟩
      obtain ⟨k1, k2, k3, k4⟩ := g9 e he
      have x0 := r212 (48 * 0 + 4 * e)
      have x1 := r212 (48 * 0 + 4 * e + 1)
      have x3 := r212 (48 * 0 + 4 * e + 3)
      rw [if_neg (by omega)] at x0 x1 x3
      rw [x0, x1, r212 (48 * 0 + 4 * e + 2), x3]
      refine ⟨k1, k2, ?_, k4⟩
      show w 40 e = _
      rw [r40]
      by_cases y : e = c
      · rw [if_pos y, if_pos (by omega)]
      · rw [if_neg y, if_neg (by omega)]
        exact k3
    · obtain ⟨g1, g2, g3, g4, g5, g6, g7⟩ := h.i.g
      unfold VB
      rw [r 33 (by omega) (by omega) (by omega), r (33 + 4) (by omega) (by omega) (by omega), r (33 + 5) (by omega) (by omega) (by omega), r (33 + 6) (by omega) (by omega) (by omega), r (33 + 9) (by omega) (by omega) (by omega), r (33 + 10) (by omega) (by omega) (by omega), r (33 + 11) (by omega) (by omega) (by omega), r (33 + 12) (by omega) (by omega) (by omega), r (33 + 17) (by omega) (by omega) (by omega), r (33 + 18) (by omega) (by omega) (by omega), r (33 + 20) (by omega) (by omega) (by omega), r (33 + 21) (by omega) (by omega) (by omega), r (33 + 22) (by omega) (by omega) (by omega), r (33 + 24) (by omega) (by omega) (by omega), r (33 + 25) (by omega) (by omega) (by omega), r (33 + 26) (by omega) (by omega) (by omega), r (33 + 28) (by omega) (by omega) (by omega)]
      refine ⟨g1, g2, fun e he => ?_, g4, g5, g6, g7⟩
      obtain ⟨k1, k2, k3⟩ := g3 e he
      refine ⟨k1, k2, ?_⟩
      show 1 ≤ w 40 e
      rw [r40]
      split
      · omega
      · exact k3
    · exact RCB.refl (by rw [r 209 (by omega) (by omega) (by omega)]) (fun i a b => by rw [r 210 (by omega) (by omega) (by omega)]) (fun i a b => by rw [r 211 (by omega) (by omega) (by omega)]) (fun i a b => by rw [r212, if_neg (by omega)]) (fun i a b => by rw [r 213 (by omega) (by omega) (by omega)]) (fun i a b => by rw [r 214 (by omega) (by omega) (by omega)]) (fun i a b => by rw [r 215 (by omega) (by omega) (by omega)]) (fun i a b => by rw [r 216 (by omega) (by omega) (by omega)]) (fun i a b => by rw [r 217 (by omega) (by omega) (by omega)])
  · have ec : cl_tune v c n = (-2, v) := by
      unfold cl_tune
      repeat' split
      all_goals first | rfl | (exfalso; omega)
    rw [ec]
    show (mo_tune v c n).1 = -2 ∧ INV (mo_tune v c n).2
    have em : mo_tune v c n = (-2, v2 v 203 0 0) := by
      unfold mo_tune
      repeat' split
      all_goals first | rfl | (exfalso; omega)
    rw [em]
    exact ⟨rfl, h.thr⟩
theorem q_shift {v : VS} (h : INV v) (c n : Int) (h1 : R32 c) (h2 : R32 n) : (mo_shift (cl_shift v c n).2 c n).1 = (cl_shift v c n).1 ∧ INV (mo_shift (cl_shift v c n).2 c n).2 := by
  have hx1 := i_cl_shift h.i.x h1 h2
  have hc1 : CF (cl_shift v c n).2 := h.i.c.of (fun k a b => o_cl_shift (by omega))
  have hx := i_mo_shift hx1 h1 h2 hc1
  have hc := n_mo_shift hx1 h1 h2 hc1
  obtain ⟨b0, b1, b3, b4, bL, b9, b10⟩ := h.b0
  have hT : 0 ≤ v 42 0 ∧ v 42 0 ≤ 4 := h.i.x 42 0
  obtain ⟨-, -, hst⟩ := h.che
  by_cases z : (0 ≤ c ∧ c < v 42 0) ∧ (0 ≤ n ∧ n < v 33 1)
  · obtain ⟨c, rfl⟩ := Int.eq_ofNat_of_zero_le z.1.1
    have ec : cl_shift v c n = (v 44 c, v2 (v2 v 44 c n) 0 10 1) := by
      unfold cl_shift
      rw [if_pos z.1, if_pos z.2, toN]
    have em : mo_shift (v2 (v2 v 44 c n) 0 10 1) c n = (v 44 c, v2 (v2 (v2 (v2 v 44 c n) 0 10 1) 203 0 0) 213 (3 * c + 1) n) := by
      unfold mo_shift
      rw [v2_row (show 210 ≠ 0 by omega), v2_row (show 210 ≠ 44 by omega), v2_row (show 213 ≠ 0 by omega), v2_row (show 213 ≠ 44 by omega), b4, b1, if_pos z.1, if_pos z.2, show (3 * (c : Int) + 1).toNat = 3 * c + 1 by omega, (hst c z.1.2).2.1]
    rw [ec] at hx hc ⊢
    dsimp only at hx hc ⊢
    rw [em] at hx hc ⊢
    dsimp only at hx hc ⊢
    obtain ⟨w, hw⟩ : ∃ w, w = v2 (v2 (v2 (v2 v 44 c n) 0 10 1) 203 0 0) 213 (3 * c + 1) n := ⟨_, rfl⟩
    have r' : ∀ k, k ≠ 0 → k ≠ 44 → k ≠ 203 → k ≠ 213 → w k = v k := fun k a b c d => by rw [hw, v2_row d, v2_row c, v2_row a, v2_row b]
    have r : ∀ k, k ≠ 44 → k ≠ 213 → (k ≠ 0 ∧ k ≠ 203) → w k = v k := fun k a b c => r' k c.1 a c.2 b
    have r0 : ∀ i, i ≠ 10 → w 0 i = v 0 i := fun i hi => by rw [hw, v2_row (by omega), v2_row (by omega), v2_eq, if_neg (fun g => hi g.2), v2_row (by omega)]
    have r1 : w 0 10 = 1 := by rw [hw, v2_row (by omega), v2_row (by omega), v2_eq, if_pos ⟨rfl, rfl⟩]
    have r44 : ∀ i, w 44 i = if i = c then n else v 44 i := fun i => by
      rw [hw, v2_row (by omega), v2_row (by omega), v2_row (by omega), v2_eq]
      by_cases y : i = c
      · rw [if_pos ⟨rfl, y⟩, if_pos y]
      · rw [if_neg (fun g => y g.2), if_neg y]
    have r213 : ∀ i, w 213 i = if i = 3 * c + 1 then n else v 213 i := fun i => by
      rw [hw, v2_eq, v2_row (by omega), v2_row (by omega), v2_row (by omega)]
      by_cases y : i = 3 * c + 1
      · rw [if_pos ⟨rfl, y⟩, if_pos y]
      · rw [if_neg (fun g => y g.2), if_neg y]
    have r203 : ∀ i, i ≠ 0 → w 203 i = v 203 i := fun i hi => by rw [hw, v2_row (by omega), v2_eq, if_neg (fun g => hi g.2), v2_row (by omega), v2_row (by omega)]
    rw [← hw] at hx hc ⊢
    refine ⟨rfl, h.chg hx hc r0 r1 (fun k hk => r' k (by omega) (by omega) (by omega) (by omega)) (r203 6 (by omega)) (r203 14 (by omega)) (r203 15 (by omega)) ?_ ?_ (h.a.of2 (by rw [r' 33 (by omega) (by omega) (by omega) (by omega)]) (fun k a b => r' k (by omega) (by omega) (by omega) (by omega))) (fun q q1 q2 => ?_)⟩
    · obtain ⟨g1, g2, g3, g4, g5, g6, g7, g8, g9, g10, g11, g12, g13, g14, g15, g16, g17, g18, g19⟩ := h.i.b
      unfold BQ
      rw [r 33 (by omega) (by omega) (by omega), r (33 + 1) (by omega) (by omega) (by omega), r (33 + 2) (by omega) (by omega) (by omega), r (33 + 3) (by omega) (by omega) (by omega), r (33 + 4) (by omega) (by omega) (by omega), r (33 + 5) (by omega) (by omega) (by omega), r (33 + 6) (by omega) (by omega) (by omega), r (33 + 7) (by omega) (by omega) (by omega), r (33 + 8) (by omega) (by omega) (by omega), r (33 + 9) (by omega) (by omega) (by omega), r (33 + 10) (by omega) (by omega) (by omega), r (33 + 12) (by omega) (by omega) (by omega), r (33 + 13) (by omega) (by omega) (by omega), r (33 + 14) (by omega) (by omega) (by omega), r (33 + 15) (by omega) (by omega) (by omega), r (33 + 17) (by omega) (by omega) (by omega), r (33 + 18) (by omega) (by omega) (by omega), r (33 + 19) (by omega) (by omega) (by omega), r (33 + 20) (by omega) (by omega) (by omega), r (33 + 21) (by omega) (by omega) (by omega), r (33 + 22) (by omega) (by omega) (by omega), r (33 + 23) (by omega) (by omega) (by omega), r (33 + 24) (by omega) (by omega) (by omega), r (33 + 25) (by omega) (by omega) (by omega), r (33 + 26) (by omega) (by omega) (by omega), r (33 + 27) (by omega) (by omega) (by omega), r (33 + 28) (by omega) (by omega) (by omega), r 209 (by omega) (by omega) (by omega), r 210 (by omega) (by omega) (by omega), r 211 (by omega) (by omega) (by omega), r 212 (by omega) (by omega) (by omega), r 214 (by omega) (by omega) (by omega), r 215 (by omega) (by omega) (by omega), r 216 (by omega) (by omega) (by omega), r 217 (by omega) (by omega) (by omega)]
      refine ⟨g1, g2, g3, g4, g5, g6, g7, g8, g9, g10, fun e he => ?_, g12, g13, g14, g15, g16, g17, g18, g19⟩
      obtain ⟨k1, k2, k3⟩ := g11 e he
      have x0 := r213 (15 * 0 + 3 * e)
      have x2 := r213 (15 * 0 + 3 * e + 2)
      rw [if_neg (by omega)] at x0 x2
      rw [x0, r213 (15 * 0 + 3 * e + 1), x2]
      refine ⟨k1, ?_, k3⟩
      show w 44 e = _
      rw [r44]
      by_cases y : e = c
      · rw [if_pos y, if_pos (by omega)]
      · rw [if_neg y, if_neg (by omega)]
        exact k2
    · obtain ⟨g1, g2, g3, g4, g5, g6, g7⟩ := h.i.g
      unfold VB
      rw [r 33 (by omega) (by omega) (by omega), r (33 + 4) (by omega) (by omega) (by omega), r (33 + 5) (by omega) (by omega) (by omega), r (33 + 6) (by omega) (by omega) (by omega), r (33 + 7) (by omega) (by omega) (by omega), r (33 + 9) (by omega) (by omega) (by omega), r (33 + 10) (by omega) (by omega) (by omega), r (33 + 12) (by omega) (by omega) (by omega), r (33 + 17) (by omega) (by omega) (by omega), r (33 + 18) (by omega) (by omega) (by omega), r (33 + 20) (by omega) (by omega) (by omega), r (33 + 21) (by omega) (by omega) (by omega), r (33 + 22) (by omega) (by omega) (by omega), r (33 + 24) (by omega) (by omega) (by omega), r (33 + 25) (by omega) (by omega) (by omega), r (33 + 26) (by omega) (by omega) (by omega), r (33 + 28) (by omega) (by omega) (by omega)]
      refine ⟨g1, g2, g3, fun e he => ?_, g5, g6, g7⟩
      obtain ⟨k1, k2, k3⟩ := g4 e he
      refine ⟨k1, ?_, k3⟩
      show w 44 e < v 33 1
      rw [r44]
      split
      · exact z.2.2
      · exact k2
    · exact RCB.refl (by rw [r 209 (by omega) (by omega) (by omega)]) (fun i a b => by rw [r 210 (by omega) (by omega) (by omega)]) (fun i a b => by rw [r 211 (by omega) (by omega) (by omega)]) (fun i a b => by rw [r 212 (by omega) (by omega) (by omega)]) (fun i a b => by rw [r213, if_neg (by omega)]) (fun i a b => by rw [r 214 (by omega) (by omega) (by omega)]) (fun i a b => by rw [r 215 (by omega) (by omega) (by omega)]) (fun i a b => by rw [r 216 (by omega) (by omega) (by omega)]) (fun i a b => by rw [r 217 (by omega) (by omega) (by omega)])
  · have ec : cl_shift v c n = (-2, v) := by
      unfold cl_shift
      repeat' split
      all_goals first | rfl | (exfalso; omega)
    rw [ec]
    show (mo_shift v c n).1 = -2 ∧ INV (mo_shift v c n).2
    have em : mo_shift v c n = (-2, v2 v 203 0 0) := by
      unfold mo_shift
      repeat' split
      all_goals first | rfl | (exfalso; omega)
    rw [em]
    exact ⟨rfl, h.thr⟩
/-! images -/
theorem q_keepR {v : VS} (h : INV v) {r : Nat} (hr : r < 3) {u w : VS} (hu : u = v2 (cpy v 33 (116 + 29 * r)) 0 13 (setb ((cpy v 33 (116 + 29 * r)) 0 13) r)) (hw : w = v2 (mo_copyBay (v2 u 203 0 0) 0 ((1 + r : Nat) : Int)) 218 r 1) (hx : XI w) (hc : CF w) : INV w := by
  have h13 : 0 ≤ v 0 13 ∧ v 0 13 ≤ 7 := h.i.x 0 13
  have c0 : ∀ k, k < 116 + 29 * r ∨ 116 + 29 * r + 28 < k → cpy v 33 (116 + 29 * r) k = v k := fun k hk => cpy_row hk
  have uk : ∀ k, k ≠ 0 → k < 116 + 29 * r ∨ 116 + 29 * r + 28 < k → u k = v k := fun k h0 hk => by rw [hu, v2_row h0, c0 k hk]
  have u0 : ∀ j, u 0 j = if j = 13 then setb (v 0 13) r else v 0 j := fun j => by
    rw [hu, v2_eq, c0 0 (by omega)]
    by_cases y : j = 13
    · rw [if_pos ⟨rfl, y⟩, if_pos y]
    · rw [if_neg (fun g => y g.2), if_neg y]
  obtain ⟨m0, m9, m10, m11, m12, m13, m14, m15, m16, m17⟩ := copyBay_ok (v := v2 u 203 0 0) (i := 0) (o := 1 + r) (by omega)
  have e0 : ((0 : Nat) : Int) = 0 := rfl
  rw [e0] at m0 m9 m10 m11 m12 m13 m14 m15 m16 m17
  have wk : ∀ k, k ≠ 0 → k ≠ 203 → k < 209 ∨ 218 < k → k < 116 + 29 * r ∨ 116 + 29 * r + 28 < k → w k = v k := fun k a b c d => by rw [hw, v2_row (by omega), o_mo_copyBay (by omega), v2_row b, uk k a d]
  have w0 : ∀ j, w 0 j = u 0 j := fun j => by rw [hw, v2_row (by omega), o_mo_copyBay (by omega), v2_row (by omega)]
  have w203 : ∀ j, j ≠ 0 → w 203 j = v 203 j := fun j hj => by rw [hw, v2_row (by omega), o_mo_copyBay (by omega), v2_eq, if_neg (fun g => hj g.2), uk 203 (by omega) (by omega)]
  have w218 : ∀ j, w 218 j = if j = r then 1 else v 218 j := fun j => by
    rw [hw, v2_eq, o_mo_copyBay (by omega), v2_row (by omega), uk 218 (by omega) (by omega)]
    by_cases y : j = r
    · rw [if_pos ⟨rfl, y⟩, if_pos y]
    · rw [if_neg (fun g => y g.2), if_neg y]
  have wr : ∀ k, 209 ≤ k → k ≤ 217 → w k = (mo_copyBay (v2 u 203 0 0) 0 ((1 + r : Nat) : Int)) k := fun k a b => by rw [hw, v2_row (by omega)]
  have ur : ∀ k, 209 ≤ k → k ≤ 218 → (v2 u 203 0 0) k = v k := fun k a b => by rw [v2_row (by omega), uk k (by omega) (by omega)]
  have stay : ∀ q : Nat, q ≠ 1 + r → RCB q q w v := by
    intro q hq
    have lem : ∀ (n i : Nat), n * q ≤ i → i < n * q + n → i < n * (1 + r) ∨ n * (1 + r) + n ≤ i := by
      intro n i a b
      rcases Nat.lt_or_gt_of_ne hq with z | z
      · left
        have := Nat.mul_le_mul_left n (show q + 1 ≤ 1 + r by omega)
        rw [Nat.mul_add] at this
        omega
      · right
        have := Nat.mul_le_mul_left n (show 1 + r + 1 ≤ q by omega)
        rw [Nat.mul_add] at this
        omega
    refine RCB.refl (by rw [wr 209 (by omega) (by omega), m9 q hq, ur 209 (by omega) (by omega)]) (fun i a b => ?_) (fun i a b => ?_) (fun i a b => ?_) (fun i a b => ?_) (fun i a b => ?_) (fun i a b => ?_) (fun i a b => ?_) (fun i a b => ?_)
    · rw [wr 210 (by omega) (by omega), m10 i (lem 11 i a b), ur 210 (by omega) (by omega)]
    · rw [wr 211 (by omega) (by omega), m11 i (lem 27 i a b), ur 211 (by omega) (by omega)]
    · rw [wr 212 (by omega) (by omega), m12 i (lem 48 i a b), ur 212 (by omega) (by omega)]
    · rw [wr 213 (by omega) (by omega), m13 i (lem 15 i a b), ur 213 (by omega) (by omega)]
    · rw [wr 214 (by omega) (by omega), m14 i (lem 12 i a b), ur 214 (by omega) (by omega)]
    · rw [wr 215 (by omega) (by omega), m15 i (lem 18 i a b), ur 215 (by omega) (by omega)]
    · rw [wr 216 (by omega) (by omega), m16 i (lem 18 i a b), ur 216 (by omega) (by omega)]
    · rw [wr 217 (by omega) (by omega), m17 i (lem 18 i a b), ur 217 (by omega) (by omega)]
  have new : RCB (1 + r) 0 w v := by
    obtain ⟨n9, n10, n11, n12, n13, n14, n15, n16, n17⟩ := m0
    rw [ur 209 (by omega) (by omega)] at n9
    rw [ur 210 (by omega) (by omega)] at n10
    rw [ur 211 (by omega) (by omega)] at n11
    rw [ur 212 (by omega) (by omega)] at n12
    rw [ur 213 (by omega) (by omega)] at n13
    rw [ur 214 (by omega) (by omega)] at n14
    rw [ur 215 (by omega) (by omega)] at n15
    rw [ur 216 (by omega) (by omega)] at n16
    rw [ur 217 (by omega) (by omega)] at n17
    unfold RCB
    rw [wr 209 (by omega) (by omega), wr 210 (by omega) (by omega), wr 211 (by omega) (by omega), wr 212 (by omega) (by omega), wr 213 (by omega) (by omega), wr 214 (by omega) (by omega), wr 215 (by omega) (by omega), wr 216 (by omega) (by omega), wr 217 (by omega) (by omega)]
    exact ⟨n9, n10, n11, n12, n13, n14, n15, n16, n17⟩
  have t33 : BT 33 v := h.i.x.bt (by omega)
  have c33 : CPB 33 33 w v := CPB.refl (fun j a b => wk j (by omega) (by omega) (by omega) (by omega))
  have cK : CPB (116 + 29 * r) 33 w v := by
    intro d i hd hi
    rw [hw, v2_row (by omega), o_mo_copyBay (by omega), v2_row (by omega), hu, v2_row (by omega)]
    exact cpy_ok (by omega) d i hd hi
  have eT : tP w = tP v := tP_of (fun k a b => wk k (by omega) (by omega) (by omega) (by omega))
  refine ⟨⟨hx, hc, ?_, h.i.t.of (by rw [w0, u0, if_neg (by omega)]) (wk 1 (by omega) (by omega) (by omega) (by omega)) (wk 2 (by omega) (by omega) (by omega) (by omega)) (wk 208 (by omega) (by omega) (by omega) (by omega)) (w203 6 (by omega)) (w203 14 (by omega)) (w203 15 (by omega)), h.i.s.of (fun j a b => wk j (by omega) (by omega) (by omega) (by omega)) (fun j a b => wk j (by omega) (by omega) (by omega) (by omega)), ⟨fun q hq => ?_, fun q hq hk => ?_⟩, h.i.b.cp t33 c33 (stay 0 (by omega)), h.i.g.cp t33 c33⟩, h.a.of (fun k a b => wk k (by omega) (by omega) (by omega) (by omega)), fun g => ?_⟩
  · have := h.i.z
    unfold WZ at *
    rw [wk 73 (by omega) (by omega) (by omega) (by omega), wk 74 (by omega) (by omega) (by omega) (by omega)]
    exact this
  · rw [w0, u0, if_pos rfl, w218, bt_setb (by omega) (by omega)]
    by_cases y : q = r
    · rw [if_pos y.symm, if_pos y]
    · rw [if_neg (fun g => y g.symm), if_neg y]; exact h.i.i.k q hq
  · by_cases y : q = r
    · subst y
      exact ⟨h.i.b.cp t33 cK new, h.i.g.cp t33 cK⟩
    · rw [w218, if_neg y] at hk
      obtain ⟨g1, g2⟩ := h.i.i.q q hq hk
      have t : BT (116 + 29 * q) v := h.i.x.bt (by omega)
      have c : CPB (116 + 29 * q) (116 + 29 * q) w v := CPB.refl (fun j a b => wk j (by omega) (by omega) (by omega) (by omega))
      exact ⟨g1.cp t c (stay (1 + q) (by omega)), g2.cp t c⟩
  · rw [w0, u0, if_neg (by omega)] at g
    obtain ⟨g1, g2⟩ := h.r g
    rw [eT]
    refine ⟨g1.of (fun k a b => wk k (by omega) (by omega) (by omega) (by omega)) rfl, fun c t hc ht => ?_⟩
    rw [wk 33 (by omega) (by omega) (by omega) (by omega)] at hc ht
    rw [wk 105 (by omega) (by omega) (by omega) (by omega)]
    exact g2.c c t hc ht
theorem q_keep {v : VS} (h : INV v) (k : Int) (h1 : R32 k) : (mo_keep (cl_keep v k).2 k).1 = (cl_keep v k).1 ∧ INV (mo_keep (cl_keep v k).2 k).2 := by
  have hx1 := i_cl_keep h.i.x h1
  have hc1 : CF (cl_keep v k).2 := h.i.c.of (fun k a b => o_cl_keep (by omega))
  have hx := i_mo_keep hx1 h1 hc1
  have hc := n_mo_keep hx1 h1 hc1
  by_cases z : 0 ≤ k ∧ k < 3
  · obtain ⟨r, rfl⟩ := Int.eq_ofNat_of_zero_le z.1
    have hr : r < 3 := by omega
    have ec : cl_keep v r = (0, v2 (cpy v 33 (116 + 29 * r)) 0 13 (setb ((cpy v 33 (116 + 29 * r)) 0 13) r)) := by
      unfold cl_keep
      rw [if_neg (by omega), if_pos (by omega)]
      have : r = 0 ∨ r = 1 ∨ r = 2 := by omega
      rcases this with rfl | rfl | rfl
      · rw [if_pos (by omega)]; rfl
      · rw [if_neg (by omega), if_pos (by omega)]; rfl
      · rw [if_neg (by omega), if_neg (by omega)]; rfl
    obtain ⟨u, hu⟩ : ∃ u, u = v2 (cpy v 33 (116 + 29 * r)) 0 13 (setb ((cpy v 33 (116 + 29 * r)) 0 13) r) := ⟨_, rfl⟩
    rw [← hu] at ec
    have em : mo_keep u r = (0, v2 (mo_copyBay (v2 u 203 0 0) 0 ((1 + r : Nat) : Int)) 218 r 1) := by
      unfold mo_keep
      rw [if_pos (by omega), toN, show (1 + (r : Int)) = ((1 + r : Nat) : Int) by omega]
    rw [ec] at hx hc ⊢
    dsimp only at hx hc ⊢
    rw [em] at hx hc ⊢
    exact ⟨rfl, q_keepR h hr hu rfl hx hc⟩
  · have ec : cl_keep v k = (-2, v) := by
      unfold cl_keep
      by_cases y : k < 0
      · rw [if_pos y]
      · rw [if_neg y, if_neg (by omega)]
    rw [ec]
    show (mo_keep v k).1 = -2 ∧ INV (mo_keep v k).2
    unfold mo_keep
    rw [if_neg (by omega)]
    exact ⟨rfl, h.thr⟩
/-- a bay is in place of another one: class and reference copy it, and the wind blows anew -/
theorem INV.place {v s w : VS} {p q : Nat} (h : INV v) (hp : p = 3 ∨ p = 116 ∨ p = 145 ∨ p = 174) (hq : q ≠ 0) (ht : BT p s) (hxs : XI (cpy s p 33)) (hb : BQ p q s) (hg : VB p s) (hw : w = mo_copyBay (v2 (v2 (cl_blow (cpy s p 33)) 0 10 1) 203 0 0) (q : Int) 0) (hx : XI w) (hc : CF w) (e0 : ∀ j, j ≠ 10 → s 0 j = v 0 j) (er : ∀ k, (1 ≤ k ∧ k < 3) ∨ (67 ≤ k ∧ k < 203) ∨ (204 ≤ k ∧ k ≤ 208) ∨ k = 218 → s k = v k) (f : ∀ j, j = 6 ∨ j = 14 ∨ j = 15 → s 203 j = v 203 j) (hm : ∀ r : Nat, 1 ≤ r → r ≤ 3 → RCB r r s v) : (∀ k, (1 ≤ k ∧ k < 3) ∨ (67 ≤ k ∧ k < 203) ∨ (204 ≤ k ∧ k ≤ 208) ∨ k = 218 → w k = v k) ∧ w 33 2 = s p 2 ∧ w 209 0 = s 209 q ∧ BQ 33 0 w ∧ VB 33 w ∧ AIR w ∧ (∀ r : Nat, 1 ≤ r → r ≤ 3 → RCB r r w v) ∧ w 0 10 = 1 ∧ (∀ j, j ≠ 10 → w 0 j = v 0 j) ∧ (∀ j, j = 6 ∨ j = 14 ∨ j = 15 → w 203 j = v 203 j) := by
  obtain ⟨m0, m9, m10, m11, m12, m13, m14, m15, m16, m17⟩ := copyBay_ok (v := v2 (v2 (cl_blow (cpy s p 33)) 0 10 1) 203 0 0) (i := q) (o := 0) hq
  have e0' : ((0 : Nat) : Int) = 0 := rfl
  rw [e0', ← hw] at m0 m9 m10 m11 m12 m13 m14 m15 m16 m17
  have ur : ∀ k, k ≠ 0 → k ≠ 203 → k < 33 ∨ 66 < k → (v2 (v2 (cl_blow (cpy s p 33)) 0 10 1) 203 0 0) k = s k := fun k a b c => by rw [v2_row b, v2_row a, o_cl_blow (by omega), cpy_row (by omega)]
  have wk : ∀ k, k < 209 ∨ 217 < k → w k = (v2 (v2 (cl_blow (cpy s p 33)) 0 10 1) 203 0 0) k := fun k a => by rw [hw, o_mo_copyBay (by omega)]
  have cp : CPB 33 p w s := by
    intro d i hd hi
    rw [wk (33 + d) (by omega), v2_row (by omega), v2_row (by omega), o_cl_blow (by omega)]
    exact cpy_ok (by omega) d i hd hi
  have new : RCB 0 q w s := by
    obtain ⟨n9, n10, n11, n12, n13, n14, n15, n16, n17⟩ := m0
    rw [ur 209 (by omega) (by omega) (by omega)] at n9
    rw [ur 210 (by omega) (by omega) (by omega)] at n10
    rw [ur 211 (by omega) (by omega) (by omega)] at n11
    rw [ur 212 (by omega) (by omega) (by omega)] at n12
    rw [ur 213 (by omega) (by omega) (by omega)] at n13
    rw [ur 214 (by omega) (by omega) (by omega)] at n14
    rw [ur 215 (by omega) (by omega) (by omega)] at n15
    rw [ur 216 (by omega) (by omega) (by omega)] at n16
    rw [ur 217 (by omega) (by omega) (by omega)] at n17
    exact ⟨n9, n10, n11, n12, n13, n14, n15, n16, n17⟩
  refine ⟨fun k hk => by rw [wk k (by omega), ur k (by omega) (by omega) (by omega)]; exact er k hk, cp.c 2 (by omega), new.c9, hb.cp ht cp new, hg.cp ht cp, (AIR.blow hxs).of (fun k a b => by rw [wk k (by omega), v2_row (by omega), v2_row (by omega)]), fun r r1 r2 => ?_, ?_, fun j hj => ?_, fun j hj => ?_⟩
  · obtain ⟨k9, k10, k11, k12, k13, k14, k15, k16, k17⟩ := hm r r1 r2
    refine ⟨?_, fun i hi => ?_, fun i hi => ?_, fun i hi => ?_, fun i hi => ?_, fun i hi => ?_, fun i hi => ?_, fun i hi => ?_, fun i hi => ?_⟩
    · rw [m9 r (by omega), ur 209 (by omega) (by omega) (by omega)]; exact k9
    · rw [m10 _ (by omega), ur 210 (by omega) (by omega) (by omega)]; exact k10 i hi
    · rw [m11 _ (by omega), ur 211 (by omega) (by omega) (by omega)]; exact k11 i hi
    · rw [m12 _ (by omega), ur 212 (by omega) (by omega) (by omega)]; exact k12 i hi
    · rw [m13 _ (by omega), ur 213 (by omega) (by omega) (by omega)]; exact k13 i hi
    · rw [m14 _ (by omega), ur 214 (by omega) (by omega) (by omega)]; exact k14 i hi
    · rw [m15 _ (by omega), ur 215 (by omega) (by omega) (by omega)]; exact k15 i hi
    · rw [m16 _ (by omega), ur 216 (by omega) (by omega) (by omega)]; exact k16 i hi
    · rw [m17 _ (by omega), ur 217 (by omega) (by omega) (by omega)]; exact k17 i hi
  · rw [wk 0 (by omega), v2_row (by omega), v2_eq, if_pos ⟨rfl, rfl⟩]
  · rw [wk 0 (by omega), v2_row (by omega), v2_eq, if_neg (fun g => hj g.2), o_cl_blow (by omega), cpy_row (by omega)]; exact e0 j hj
  · rw [wk 203 (by omega), v2_eq, if_neg (by omega), v2_row (by omega), o_cl_blow (by omega), cpy_row (by omega)]; exact f j hj
theorem q_back {v : VS} (h : INV v) (k : Int) (h1 : R32 k) : (mo_back (cl_back v k).2 k).1 = (cl_back v k).1 ∧ INV (mo_back (cl_back v k).2 k).2 := by
  have hx1 := i_cl_back h.i.x h1
  have hc1 : CF (cl_back v k).2 := h.i.c.of (fun k a b => o_cl_back (by omega))
  have hx := i_mo_back hx1 h1 hc1
  have hc := n_mo_back hx1 h1 hc1
  by_cases z : 0 ≤ k ∧ k < 3
  · obtain ⟨r, rfl⟩ := Int.eq_ofNat_of_zero_le z.1
    have hr : r < 3 := by omega
    have hk := h.i.i.k r hr
    by_cases y : bt (v 0 13) r = 0
    · have ec : cl_back v r = (-6, v) := by
        unfold cl_back cl_bit
        rw [if_neg (by omega), if_pos (by omega), if_pos y]
      rw [ec]
      show (mo_back v r).1 = -6 ∧ INV (mo_back v r).2
      unfold mo_back
      rw [if_pos (by omega), toN, if_pos (by rw [← hk]; exact y)]
      exact ⟨rfl, h.thr⟩
    · have h1 : v 218 r = 1 := by
        rw [← hk]
        have := bt01 (v 0 13) r
        omega
      obtain ⟨g1, g2⟩ := h.i.i.q r hr h1
      have ec : cl_back v r = (0, v2 (cl_blow (cpy v (116 + 29 * r) 33)) 0 10 1) := by
        unfold cl_back cl_bit cl_renew
        rw [if_neg (by omega), if_pos (by omega), if_neg y]
        have : r = 0 ∨ r = 1 ∨ r = 2 := by omega
        rcases this with rfl | rfl | rfl
        · rw [if_pos (by omega)]; rfl
        · rw [if_neg (by omega), if_pos (by omega)]; rfl
        · rw [if_neg (by omega), if_neg (by omega)]; rfl
      have e218 : (v2 (cl_blow (cpy v (116 + 29 * r) 33)) 0 10 1) 218 = v 218 := by rw [v2_row (by omega), o_cl_blow (by omega), cpy_row (by omega)]
      have em : mo_back (v2 (cl_blow (cpy v (116 + 29 * r) 33)) 0 10 1) r = (0, mo_copyBay (v2 (v2 (cl_blow (cpy v (116 + 29 * r) 33)) 0 10 1) 203 0 0) ((1 + r : Nat) : Int) 0) := by
        unfold mo_back
        rw [if_pos (by omega), toN, e218, if_neg (by omega), show (1 + (r : Int)) = ((1 + r : Nat) : Int) by omega]
      have hxs : XI (cpy v (116 + 29 * r) 33) := by
        have : r = 0 ∨ r = 1 ∨ r = 2 := by omega
        rcases this with rfl | rfl | rfl
        · exact i_cl_copy33_116 h.i.x
        · exact i_cl_copy33_145 h.i.x
        · exact i_cl_copy33_174 h.i.x
      rw [ec] at hx hc ⊢
      dsimp only at hx hc ⊢
      rw [em] at hx hc ⊢
      dsimp only at hx hc ⊢
      obtain ⟨k1, k2, k3, k4, k5, k6, k7, k8, k9, k10⟩ := h.place (s := v) (p := 116 + 29 * r) (q := 1 + r) (by omega) (by omega) (h.i.x.bt (by omega)) hxs g1 g2 rfl hx hc (fun j _ => rfl) (fun k _ => rfl) (fun j _ => rfl) (fun q q1 q2 => RCB.refl rfl (fun i _ _ => rfl) (fun i _ _ => rfl) (fun i _ _ => rfl) (fun i _ _ => rfl) (fun i _ _ => rfl) (fun i _ _ => rfl) (fun i _ _ => rfl) (fun i _ _ => rfl))
      refine ⟨rfl, h.chg hx hc k9 k8 (fun k hk => ?_) (k10 6 (by omega)) (k10 14 (by omega)) (k10 15 (by omega)) k4 k5 k6 k7⟩
      by_cases b : 3 ≤ k ∧ k < 33
      · rw [o_mo_copyBay (by omega), v2_row (by omega), v2_row (by omega), o_cl_blow (by omega), cpy_row (by omega)]
      · exact k1 k (by omega)
  · have ec : cl_back v k = (-2, v) := by
      unfold cl_back
      by_cases y : k < 0
      · rw [if_pos y]
      · rw [if_neg y, if_neg (by omega)]
    rw [ec]
    show (mo_back v k).1 = -2 ∧ INV (mo_back v k).2
    unfold mo_back
    rw [if_neg (by omega)]
    exact ⟨rfl, h.thr⟩
