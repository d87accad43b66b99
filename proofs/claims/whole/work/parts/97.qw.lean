
theorem fuel9 {N : Nat} (hN : N ≤ 9) : ((N : Int) - 0) * ((2 : Int) ^ N + 1) + ((2 : Int) ^ N - ((0 : Nat) : Int)) < ((8001 : Nat) : Int) := by
  have : N = 0 ∨ N = 1 ∨ N = 2 ∨ N = 3 ∨ N = 4 ∨ N = 5 ∨ N = 6 ∨ N = 7 ∨ N = 8 ∨ N = 9 := by omega
  rcases this with rfl | rfl | rfl | rfl | rfl | rfl | rfl | rfl | rfl | rfl <;> decide
theorem fuel12 {N : Nat} (hN : N ≤ 12) : ((N : Int) - 0) * ((2 : Int) ^ N + 1) + ((2 : Int) ^ N - ((0 : Nat) : Int)) < ((54001 : Nat) : Int) := by
  have : N = 0 ∨ N = 1 ∨ N = 2 ∨ N = 3 ∨ N = 4 ∨ N = 5 ∨ N = 6 ∨ N = 7 ∨ N = 8 ∨ N = 9 ∨ N = 10 ∨ N = 11 ∨ N = 12 := by omega
  rcases this with rfl | rfl | rfl | rfl | rfl | rfl | rfl | rfl | rfl | rfl | rfl | rfl | rfl <;> decide
theorem l_fewC {v : VS} (h : INV v) {t : Int} (ht : 0 ≤ t ∧ t < v 33 1) {N : Nat} (hN : v 33 0 = N) : LSS (gdC v t) N (v 33 4) (cl_fewestChurches (v2 (cl_asTold v) 67 8 t)).1 ∧ FK v (cl_fewestChurches (v2 (cl_asTold v) 67 8 t)).2 8 t 0 := by
  have h9 : 0 ≤ v 33 0 ∧ v 33 0 ≤ 9 := h.i.x 33 0
  have hS : 0 ≤ v 33 1 ∧ v 33 1 ≤ 300 := h.i.x 33 1
  obtain ⟨a0, a1, a4, a5, a6, a7, a8, a9, a68⟩ := asTold_r v
  have fk := FK.init h (j0 := 8) (r := 0) (x0 := t) (show 0 ≤ t ∧ t ≤ 300 by omega)
  obtain ⟨x, hx⟩ : ∃ x, x = v2 (cl_asTold v) 67 8 t := ⟨_, rfl⟩
  have x33 : x 33 = v 33 := by rw [hx, v2_row (by omega), o_cl_asTold (by omega)]
  have x67 : x 67 0 = v 33 4 := by rw [hx, v2_eq, if_neg (by omega), a0]
  rw [← hx] at fk ⊢
  obtain ⟨q1, q2⟩ := openFirst_ok (v := x) (n := x 33 0) (N := N) (by rw [x33, hN]) (by omega)
  have ox : XI (cl_openFirst x (x 33 0)) := i_cl_openFirst fk.i.i.x (by rw [x33]; omega)
  have e : cl_fewestChurches x = cl_fewestChurches_34 8001 (cl_openFirst x (x 33 0)) (v 33 4) 0 ((0 : Nat) : Int) := by
    unfold cl_fewestChurches
    rw [o_cl_openFirst (by omega), x33, if_neg (by omega), x67]
    rfl
  rw [e]
  exact fewC h ht hN 8001 _ 0 0 (fk.of104 ox (fun j hj => o_cl_openFirst (by omega))) (SI.init (by omega) q1 q2) (by omega) (by omega) (by have := pow_le12 (N := N) (by omega); omega) (fuel9 (by omega))
theorem gdC_of {v x : VS} {t : Int} (e : ∀ k, 33 ≤ k → k ≤ 66 → x k = v k) : gdC x t = gdC v t := by
  funext s
  unfold gdC fQ
  rw [e 33 (by omega) (by omega), mP2_of (fun k a b => e k (by omega) (by omega))]
theorem q_night {v : VS} (h : INV v) (t w : Int) : (mo_night (cl_night v t w).2 t w).1 = (cl_night v t w).1 ∧ INV (mo_night (cl_night v t w).2 t w).2 := by
  have h9 : 0 ≤ v 33 0 ∧ v 33 0 ≤ 9 := h.i.x 33 0
  obtain ⟨b0, b1, b3, b4, bL, b9, b10⟩ := h.b0
  by_cases z : (0 ≤ t ∧ t < v 33 1) ∧ (0 ≤ w ∧ w ≤ 1)
  · obtain ⟨N, hN⟩ : ∃ N : Nat, v 33 0 = N := ⟨(v 33 0).toNat, by omega⟩
    have p9 := pow9 (N := N) (by omega)
    have p1 := pow_le12 (N := N) (by omega)
    obtain ⟨k1, k2⟩ := l_fewC h z.1 hN
    obtain ⟨r, hr⟩ : ∃ r, r = (cl_fewestChurches (v2 (cl_asTold v) 67 8 t)).1 := ⟨_, rfl⟩
    obtain ⟨x, hx⟩ : ∃ x, x = (cl_fewestChurches (v2 (cl_asTold v) 67 8 t)).2 := ⟨_, rfl⟩
    have ec : cl_night v t w = (cl_setAnswer x r w, x) := by
      unfold cl_night
      rw [if_pos z.1, if_neg (by omega), if_neg (by omega), hr, hx]
    rw [← hr] at k1
    rw [← hx] at k2
    rw [ec]
    dsimp only
    have e33 : x 33 = v 33 := k2.e 33 (by omega)
    obtain ⟨c0, c1, c3, c4, cL, c9, c10⟩ := k2.i.b0
    have m := night32 k2.i (t := t) (w := w) (N := N) (by rw [e33]; exact z.1) (by rw [e33]; exact hN) 513 (v2 x 203 0 0) (-1) 0 k2.i.thr (fun k a b => v2_row a) (Or.inl ⟨rfl, fun T t1 t2 => by omega⟩) (by omega) (by omega)
    rw [gdC_of (fun k a b => k2.e k (by omega)), e33, show ((0 : Nat) : Int) = 0 from rfl] at m
    have er := m.1.uniq k1
    have em : mo_night x t w = ((if r = -1 then r else if w = 1 then r else popc r), (mo_night_32 513 (v2 x 203 0 0) t w (-1) 0).2) := by
      unfold mo_night
      rw [c1, e33, if_pos z.1, if_pos z.2, er]
      by_cases y : r = -1
      · rw [if_pos y, if_pos y]
      · rw [if_neg y, if_neg y]
        by_cases y2 : w = 1
        · rw [if_pos y2, if_pos y2]
        · rw [if_neg y2, if_neg y2, sizeOf_eq]
          rcases k1 with ⟨a, _⟩ | ⟨a, _⟩
          · exact absurd a y
          · omega
    rw [em]
    refine ⟨?_, m.2⟩
    dsimp only
    unfold cl_setAnswer
    by_cases y : r = -1
    · rw [if_pos y, if_pos y]
    · rw [if_neg y, if_neg y, popc_eq]
      rcases k1 with ⟨a, _⟩ | ⟨a, _⟩
      · exact absurd a y
      · omega
  · have ec : cl_night v t w = (-2, v) := by
      unfold cl_night
      by_cases a : 0 ≤ t ∧ t < v 33 1
      · rw [if_pos a]
        by_cases b : w < 0
        · rw [if_pos b]
        · rw [if_neg b, if_pos (by omega)]
      · rw [if_neg a]
    rw [ec]
    show (mo_night v t w).1 = -2 ∧ INV (mo_night v t w).2
    have em : mo_night v t w = (-2, v2 v 203 0 0) := by
      unfold mo_night
      rw [b1]
      by_cases a : 0 ≤ t ∧ t < v 33 1
      · rw [if_pos a, if_neg (by omega)]
      · rw [if_neg a]
    rw [em]
    exact ⟨rfl, h.thr⟩
