/-! the bay as it is told: what both play -/
theorem asTold_r (v : VS) : (cl_asTold v) 67 0 = v 33 4 ∧ (cl_asTold v) 67 1 = v 33 5 ∧ (cl_asTold v) 67 4 = -1 ∧ (cl_asTold v) 67 5 = -1 ∧ (cl_asTold v) 67 6 = v 33 1 - 1 ∧ (cl_asTold v) 67 7 = -1 ∧ (cl_asTold v) 67 8 = 300 ∧ (cl_asTold v) 67 9 = 300 ∧ (cl_asTold v) 68 0 = v 42 0 := by
  have e33 : (jf_72 (cl_stTake (v2 (v2 v 67 0 (v 33 4)) 67 1 (v 33 5))) 0) 33 = v 33 := by
    unfold jf_72
    rw [vfill_row (by omega), o_cl_stTake (by omega), v2_row (by omega), v2_row (by omega)]
  have e67 : (jf_72 (cl_stTake (v2 (v2 v 67 0 (v 33 4)) 67 1 (v 33 5))) 0) 67 = (v2 (v2 v 67 0 (v 33 4)) 67 1 (v 33 5)) 67 := by
    unfold jf_72
    rw [vfill_row (by omega), o_cl_stTake (by omega)]
  have e68 : (jf_72 (cl_stTake (v2 (v2 v 67 0 (v 33 4)) 67 1 (v 33 5))) 0) 68 0 = v 42 0 := by
    unfold jf_72 cl_stTake vcp
    rw [vfill_row (by omega), fset_at, if_neg (by omega), fset_at, if_neg (by omega), fset_at, if_neg (by omega), v2_eq, if_pos ⟨rfl, rfl⟩, v2_row (by omega), v2_row (by omega)]
  unfold cl_asTold
  rw [e33]
  refine ⟨?_, ?_, ?_, ?_, ?_, ?_, ?_, ?_, ?_⟩
  · simp only [v2_eq, e67]; simp
  · simp only [v2_eq, e67]; simp
  · simp only [v2_eq]; simp
  · simp only [v2_eq]; simp
  · simp only [v2_eq]; simp
  · simp only [v2_eq]; simp
  · simp only [v2_eq]; simp
  · simp only [v2_eq]; simp
  · simp only [v2_eq]
    simp
    exact e68
theorem asTold_s (v : VS) (k : Nat) (hk : k < 5) : (cl_asTold v) 69 k = v 43 k ∧ (cl_asTold v) 70 k = v 44 k ∧ (cl_asTold v) 71 k = v 45 k := by
  have h : ∀ (u : VS), (jf_72 (cl_stTake u) 0) 69 k = u 43 k ∧ (jf_72 (cl_stTake u) 0) 70 k = u 44 k ∧ (jf_72 (cl_stTake u) 0) 71 k = u 45 k := by
    intro u
    unfold jf_72 cl_stTake vcp
    rw [vfill_row (by omega), vfill_row (by omega), vfill_row (by omega)]
    simp [fset_at, v2_eq, va_cpy, hk]
  unfold cl_asTold
  rw [v2_row (show 69 ≠ 67 by omega), v2_row (show 69 ≠ 67 by omega), v2_row (show 69 ≠ 67 by omega), v2_row (show 69 ≠ 67 by omega), v2_row (show 69 ≠ 67 by omega), v2_row (show 69 ≠ 67 by omega), v2_row (show 70 ≠ 67 by omega), v2_row (show 70 ≠ 67 by omega), v2_row (show 70 ≠ 67 by omega), v2_row (show 70 ≠ 67 by omega), v2_row (show 70 ≠ 67 by omega), v2_row (show 70 ≠ 67 by omega), v2_row (show 71 ≠ 67 by omega), v2_row (show 71 ≠ 67 by omega), v2_row (show 71 ≠ 67 by omega), v2_row (show 71 ≠ 67 by omega), v2_row (show 71 ≠ 67 by omega), v2_row (show 71 ≠ 67 by omega)]
  obtain ⟨h1, h2, h3⟩ := h (v2 (v2 v 67 0 (v 33 4)) 67 1 (v 33 5))
  rw [h1, h2, h3, v2_row (by omega), v2_row (by omega), v2_row (by omega), v2_row (by omega), v2_row (by omega), v2_row (by omega)]
  exact ⟨rfl, rfl, rfl⟩
theorem asTold_72 (v : VS) (j : Nat) (hj : j < 10) : (cl_asTold v) 72 j = 0 := by
  unfold cl_asTold
  rw [v2_row (by omega), v2_row (by omega), v2_row (by omega), v2_row (by omega), v2_row (by omega), v2_row (by omega)]
  unfold jf_72
  simp [vfill, fset_at, hj]
def tP (v : VS) : VS := cP (cl_asTold v)
theorem tP_of {v v' : VS} (e : ∀ k, 33 ≤ k → k ≤ 45 ∨ (63 ≤ k ∧ k ≤ 66) → v' k = v k) : tP v' = tP v := by
  obtain ⟨a0, a1, a4, a5, a6, a7, a8, a9, a68⟩ := asTold_r v
  obtain ⟨b0, b1, b4, b5, b6, b7, b8, b9, b68⟩ := asTold_r v'
  have e33 := e 33 (by omega) (by omega)
  have key : cP (cl_asTold v') = cP (cl_asTold v) :=
    cP_of2 (fun k k1 k2 => by rw [o_cl_asTold (by omega), o_cl_asTold (by omega)]; exact e k (by omega) (by omega)) (by rw [a0, b0, e33]) (by rw [a1, b1, e33]) (by rw [a4, b4]) (by rw [a5, b5]) (by rw [a6, b6, e33]) (by rw [a7, b7]) (by rw [a8, b8]) (by rw [a9, b9]) (by rw [a68, b68, e 42 (by omega) (by omega)]) (fun j hj => by
      obtain ⟨x1, x2, x3⟩ := asTold_s v j hj
      obtain ⟨y1, y2, y3⟩ := asTold_s v' j hj
      rw [x1, x2, x3, y1, y2, y3, e 43 (by omega) (by omega), e 44 (by omega) (by omega), e 45 (by omega) (by omega)]
      exact ⟨rfl, rfl, rfl⟩) (fun j hj => by rw [asTold_72 v j hj, asTold_72 v' j hj])
  exact key
theorem tP_pln (v : VS) : pln (tP v) = tP v := by
  obtain ⟨a0, a1, a4, a5, a6, a7, a8, a9, a68⟩ := asTold_r v
  obtain ⟨c0, c1, c2, c3, c4, c5, c6, c7, c8, c9⟩ := cP_0 (cl_asTold v)
  unfold tP
  refine pln_id ?_ ?_ ?_ ?_
  · rw [c1, c2, a6, o_cl_asTold (by omega)]
    omega
  · rw [c6, a7]
  · rw [c7, a8]
  · rw [c8, a9]
theorem INV0.sg {v : VS} (h : INV0 v) : SG (cl_asTold v) := by
  obtain ⟨a0, a1, a4, a5, a6, a7, a8, a9, a68⟩ := asTold_r v
  have hS : 0 ≤ v 33 1 ∧ v 33 1 ≤ 300 := h.x 33 1
  have hN : 0 ≤ v 42 0 ∧ v 42 0 ≤ 4 := h.x 42 0
  refine ⟨i_cl_asTold h.x, h.g.of (fun j a b => o_cl_asTold (by omega)), by rw [a6, o_cl_asTold (by omega)]; omega, fun k hk => ?_⟩
  rw [a68] at hk
  obtain ⟨x1, x2, x3⟩ := asTold_s v k (by omega)
  rw [x1, x2, x3, o_cl_asTold (by omega)]
  have q := h.g.st k hk
  exact ⟨q.2.1, q.1, q.2.2⟩
theorem INV0.pw {v : VS} (h : INV0 v) : PW (tP v) := h.sg.pw
theorem INV0.wz {v : VS} (h : INV0 v) : WZ (cl_asTold v) := by
  have := h.z
  unfold WZ at *
  rw [o_cl_asTold (by omega), o_cl_asTold (by omega)]
  exact this
theorem plainly_r (v : VS) : (mo_plainly v) 203 27 = 0 ∧ (mo_plainly v) 203 28 = -1 ∧ (mo_plainly v) 203 30 = v 210 9 ∧ (mo_plainly v) 203 31 = v 210 10 ∧ (mo_plainly v) 203 32 = 0 ∧ (mo_plainly v) 203 33 = v 210 4 ∧ (mo_plainly v) 203 34 = -1 ∧ (mo_plainly v) 203 35 = -1 := by
  unfold mo_plainly
  refine ⟨?_, ?_, ?_, ?_, ?_, ?_, ?_, ?_⟩ <;> (simp only [v2_eq]; simp)
/-- the class as told, the reference plainly -/
theorem BR.plain {v u : VS} (h : INV0 v) (hA : AIR v) (e : ∀ k, k ≠ 203 → k < 219 ∨ 231 < k → u k = v k) (hx : XI u) : BR (cl_asTold v) (mo_plainly u) := by
  obtain ⟨a0, a1, a4, a5, a6, a7, a8, a9, a68⟩ := asTold_r v
  obtain ⟨p27, p28, p30, p31, p32, p33, p34, p35⟩ := plainly_r u
  have r : ∀ k, k ≠ 203 → (mo_plainly u) k = u k := fun k hk => o_mo_plainly (by omega)
  have r2 : ∀ k, k ≠ 203 → k < 219 ∨ 231 < k → (mo_plainly u) k = v k := fun k hk hk2 => by rw [r k hk, e k hk hk2]
  have hN : 0 ≤ v 42 0 ∧ v 42 0 ≤ 4 := h.x 42 0
  have hb : BQ 33 0 (mo_plainly u) := h.b.of (fun j a b => r2 j (by omega) (by omega)) (fun j a b => r2 j (by omega) (by omega))
  have ha : AIR (mo_plainly u) := hA.of (fun k a b => r2 k (by omega) (by omega))
  have hX : XI (mo_plainly u) := i_mo_plainly hx
  have bM : v 33 4 = v 210 9 := h.b.M
  have bX : v 33 5 = v 210 10 := h.b.X
  have bT : v 42 0 = v 210 4 := h.b.T
  refine ⟨fun k a b => by rw [o_cl_asTold (by omega), r2 k (by omega) (by omega)], hb.ex, hX, ha, fun c hc => ?_, fun c hc => ?_, ?_, ?_, ?_, ?_, fun k hk => ?_, ?_⟩
  · rw [a0, p30, e 210 (by omega) (by omega), bM]
  · rw [a1, p31, e 210 (by omega) (by omega), bX]
  · rw [a4, p34]
  · rw [a5, p35]
  · rw [p33, p32, a68, e 210 (by omega) (by omega), bT]
    omega
  · rw [p32]
    exact Int.le_refl _
  · rw [a68] at hk
    obtain ⟨x1, x2, x3⟩ := asTold_s v k (by omega)
    have q := h.b.st k hk
    simp only [Nat.mul_zero, Nat.zero_add] at q
    rw [p32, x1, x2, x3, r2 213 (by omega) (by omega)]
    obtain ⟨q1, q2, q3⟩ := q
    have q1 : v 43 k = v 213 (3 * k) := q1
    have q2 : v 44 k = v 213 (3 * k + 1) := q2
    have q3 : v 45 k = v 213 (3 * k + 2) := q3
    rw [q1, q2, q3, show (0 : Int).toNat + k = k by omega]
    exact ⟨rfl, rfl, rfl⟩
  · refine wi0 hX hb.ex ha ?_ ?_ p28 (fun j hj => by rw [asTold_72 v j hj, p27])
    · rw [o_cl_asTold (by omega), r2 63 (by omega) (by omega)]
    · rw [a4, p34]
/-- the reference's run of the bay as told -/
theorem told_RM {v u : VS} (h : INV0 v) (hA : AIR v) (e : ∀ k, k ≠ 203 → k < 219 ∨ 231 < k → u k = v k) (hx : XI u) : RM (arun (tP v)) (mo_told u) := by
  have q := (BR.plain h hA e hx).run h.sg
  have e1 : pln (cP (cl_asTold v)) = tP v := tP_pln v
  rw [e1] at q
  exact q
