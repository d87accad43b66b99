
/-! bay -/
theorem bclr9 : ∀ (f k : Nat) (v : VS), k ≤ 11 → 11 < k + f → (∀ j, (mo_clears_9 f v k) 210 j = if 44 + k ≤ j ∧ j < 55 then 0 else v 210 j) ∧ ∀ q, q ≠ 210 → (mo_clears_9 f v k) q = v q := by
  intro f
  induction f with
  | zero => intro k v h1 h2; omega
  | succ f ih =>
    intro k v h1 h2
    rw [mo_clears_9]
    by_cases z : k < 11
    · rw [if_pos (by omega), show ((44 : Int) + (k : Int)).toNat = 44 + k by omega, show ((k : Int) + 1) = ((k + 1 : Nat) : Int) by omega]
      obtain ⟨g1, g2⟩ := ih (k + 1) (v2 v 210 (44 + k) 0) (by omega) (by omega)
      refine ⟨fun j => ?_, fun q hq => by rw [g2 q hq, v2_row hq]⟩
      rw [g1, v2_eq]
      by_cases y : 44 + (k + 1) ≤ j ∧ j < 55
      · rw [if_pos y, if_pos (by omega)]
      · rw [if_neg y]
        by_cases x : j = 44 + k
        · rw [if_pos ⟨rfl, x⟩, if_pos (by omega)]
        · rw [if_neg (fun g => x g.2), if_neg (by omega)]
    · rw [if_neg (by omega)]
      exact ⟨fun j => by rw [if_neg (by omega)], fun q _ => rfl⟩
theorem bclr33 : ∀ (f k : Nat) (v : VS), k ≤ 27 → 27 < k + f → (∀ j, (mo_clears_33 f v k) 211 j = if 108 + k ≤ j ∧ j < 135 then 0 else v 211 j) ∧ ∀ q, q ≠ 211 → (mo_clears_33 f v k) q = v q := by
  intro f
  induction f with
  | zero => intro k v h1 h2; omega
  | succ f ih =>
    intro k v h1 h2
    rw [mo_clears_33]
    by_cases z : k < 27
    · rw [if_pos (by omega), show ((108 : Int) + (k : Int)).toNat = 108 + k by omega, show ((k : Int) + 1) = ((k + 1 : Nat) : Int) by omega]
      obtain ⟨g1, g2⟩ := ih (k + 1) (v2 v 211 (108 + k) 0) (by omega) (by omega)
      refine ⟨fun j => ?_, fun q hq => by rw [g2 q hq, v2_row hq]⟩
      rw [g1, v2_eq]
      by_cases y : 108 + (k + 1) ≤ j ∧ j < 135
      · rw [if_pos y, if_pos (by omega)]
      · rw [if_neg y]
        by_cases x : j = 108 + k
        · rw [if_pos ⟨rfl, x⟩, if_pos (by omega)]
        · rw [if_neg (fun g => x g.2), if_neg (by omega)]
    · rw [if_neg (by omega)]
      exact ⟨fun j => by rw [if_neg (by omega)], fun q _ => rfl⟩
theorem clears_at (v : VS) : (∀ j, (mo_clears v) 210 j = if 44 ≤ j ∧ j < 55 then 0 else v 210 j) ∧ (∀ j, (mo_clears v) 211 j = if 108 ≤ j ∧ j < 135 then 0 else v 211 j) ∧ (∀ j, (mo_clears v) 209 j = if j = 4 then 0 else v 209 j) ∧ ∀ q, q ≠ 209 → q ≠ 210 → q ≠ 211 → (mo_clears v) q = v q := by
  obtain ⟨g1, g2⟩ := bclr9 12 0 (v2 v 209 4 0) (by omega) (by omega)
  obtain ⟨h1, h2⟩ := bclr33 28 0 (mo_clears_9 12 (v2 v 209 4 0) ((0 : Nat) : Int)) (by omega) (by omega)
  have e : mo_clears v = mo_clears_33 28 (mo_clears_9 12 (v2 v 209 4 0) ((0 : Nat) : Int)) ((0 : Nat) : Int) := rfl
  rw [e]
  refine ⟨fun j => ?_, fun j => ?_, fun j => ?_, fun q a b c => ?_⟩
  · rw [h2 210 (by omega), g1, v2_row (by omega)]
  · rw [h1, g2 211 (by omega), v2_row (by omega)]
  · rw [h2 209 (by omega), g2 209 (by omega), v2_eq]; simp
  · rw [h2 q c, g2 q b, v2_row a]
theorem empty_at (u : VS) : (∀ j, j < 6 → (cl_empty u) 3 j = 0) ∧ (∀ c, c < 9 → (cl_empty u) 4 c = 0 ∧ (cl_empty u) 5 c = 0 ∧ (cl_empty u) 6 c = 0) ∧ (cl_empty u) 7 0 = 0 ∧ (cl_empty u) 12 0 = 0 ∧ (cl_empty u) 16 0 = 0 ∧ (cl_empty u) 20 0 = 0 ∧ (cl_empty u) 24 0 = 0 ∧ (cl_empty u) 28 0 = 0 := by
  unfold cl_empty jf_6 jf_5 jf_4
  refine ⟨fun j hj => ?_, fun c hc => ⟨?_, ?_, ?_⟩, ?_, ?_, ?_, ?_, ?_, ?_⟩
  · rw [v2_row (by omega), v2_row (by omega), v2_row (by omega), v2_row (by omega), v2_row (by omega), v2_row (by omega), vfill_row (by omega), vfill_row (by omega), vfill_row (by omega)]
    have : j = 0 ∨ j = 1 ∨ j = 2 ∨ j = 3 ∨ j = 4 ∨ j = 5 := by omega
    rcases this with rfl | rfl | rfl | rfl | rfl | rfl <;> simp [v2_eq]
  · rw [v2_row (by omega), v2_row (by omega), v2_row (by omega), v2_row (by omega), v2_row (by omega), v2_row (by omega), vfill_row (by omega), vfill_row (by omega)]
    simp [vfill, fset_at, hc]
  · rw [v2_row (by omega), v2_row (by omega), v2_row (by omega), v2_row (by omega), v2_row (by omega), v2_row (by omega), vfill_row (by omega)]
    simp [vfill, fset_at, hc]
  · rw [v2_row (by omega), v2_row (by omega), v2_row (by omega), v2_row (by omega), v2_row (by omega), v2_row (by omega)]
    simp [vfill, fset_at, hc]
  · simp [v2_eq]
  · simp [v2_eq]
  · simp [v2_eq]
  · simp [v2_eq]
  · simp [v2_eq]
  · simp [v2_eq]
theorem dq_nil {a b u w : VS} (ha : ∀ k, k ≠ 2 → a k = (cl_empty u) k) (hb : ∀ k, k ≠ 203 → b k = (mo_clears w) k) : DQ a b := by
  obtain ⟨e3, e4, e7, e12, e16, e20, e24, e28⟩ := empty_at u
  obtain ⟨c10, c11, c9, _⟩ := clears_at w
  have b10 : ∀ j, 44 ≤ j → j < 55 → b 210 j = 0 := fun j q1 q2 => by rw [hb 210 (by omega), c10, if_pos ⟨q1, q2⟩]
  have a3 : ∀ j, j < 6 → a 3 j = 0 := fun j hj => by rw [ha 3 (by omega), e3 j hj]
  have a7 : a 7 0 = 0 := by rw [ha 7 (by omega), e7]
  have a12 : a 12 0 = 0 := by rw [ha 12 (by omega), e12]
  have a16 : a 16 0 = 0 := by rw [ha 16 (by omega), e16]
  have a20 : a 20 0 = 0 := by rw [ha 20 (by omega), e20]
  have a24 : a 24 0 = 0 := by rw [ha 24 (by omega), e24]
  have a28 : a 28 0 = 0 := by rw [ha 28 (by omega), e28]
  have b9 : b 209 4 = 0 := by rw [hb 209 (by omega), c9, if_pos rfl]
  have z0 := a3 0 (by omega)
  have z1 := a3 1 (by omega)
  have z2 := a3 2 (by omega)
  have z3 := a3 3 (by omega)
  refine ⟨?_, ?_, ?_, ?_, ?_, ?_, fun c hc => ?_, ?_, fun e he => ?_, ?_, fun e he => ?_, ?_, fun e he => ?_, ?_, fun e he => ?_, ?_, fun e he => ?_, ?_, fun e he => ?_, fun q => ?_, fun _ => ?_, ?_⟩
  · rw [z0, b10 44 (by omega) (by omega)]; omega
  · rw [z1, b10 45 (by omega) (by omega)]; omega
  · rw [z2, b9]
  · rw [z3, z0, b10 46 (by omega) (by omega)]; omega
  · rw [a3 4 (by omega), b10 53 (by omega) (by omega)]
  · rw [a3 5 (by omega), b10 54 (by omega) (by omega)]
  · obtain ⟨x1, x2, x3⟩ := e4 c hc
    rw [ha 4 (by omega), ha 5 (by omega), ha 6 (by omega), hb 211 (by omega), c11, c11, c11, x1, x2, x3, if_pos (by omega), if_pos (by omega), if_pos (by omega)]
    exact ⟨rfl, rfl, rfl⟩
  · rw [a7, b10 47 (by omega) (by omega)]; omega
  · omega
  · rw [a12, b10 48 (by omega) (by omega)]; omega
  · omega
  · rw [a16, b10 49 (by omega) (by omega)]; omega
  · omega
  · rw [a20, b10 50 (by omega) (by omega)]; omega
  · omega
  · rw [a24, b10 51 (by omega) (by omega)]; omega
  · omega
  · rw [a28, b10 52 (by omega) (by omega)]; omega
  · omega
  · omega
  · exact ⟨z0, z1, z3, a7, a12, a20, a24, a28⟩
  · omega
theorem FR.rcb {b b' v : VS} (h : FR b b') (e : ∀ k, 209 ≤ k → k ≤ 217 → b k = v k) {r : Nat} (hr : r ≤ 3) : RCB r r b' v :=
  RCB.refl (by rw [h.r9 r (by omega), e 209 (by omega) (by omega)]) (fun i _ _ => by rw [h.r10 i (by omega), e 210 (by omega) (by omega)]) (fun i _ _ => by rw [h.r11 i (by omega), e 211 (by omega) (by omega)]) (fun i _ _ => by rw [h.r12 i (by omega), e 212 (by omega) (by omega)]) (fun i _ _ => by rw [h.r13 i (by omega), e 213 (by omega) (by omega)]) (fun i _ _ => by rw [h.r14 i (by omega), e 214 (by omega) (by omega)]) (fun i _ _ => by rw [h.r15 i (by omega), e 215 (by omega) (by omega)]) (fun i _ _ => by rw [h.r16 i (by omega), e 216 (by omega) (by omega)]) (fun i _ _ => by rw [h.r17 i (by omega), e 217 (by omega) (by omega)])
theorem bay_core {v w : VS} (h : INV v) (hw : ∀ k, 203 ≤ k → w k = v k) : ∃ (n : Nat) (a' b' : VS), cl_read v (v 0 1) = ((if a' 2 1 = 0 then 1 else 0), a') ∧ mo_bay w = (if b' 203 12 = 0 then ((mo_copyBay (mo_isOver b') 4 0) 209 0, mo_copyBay (mo_isOver b') 4 0) else (-4, mo_isOver b')) ∧ RT a' b' n ∧ FR w b' ∧ (a' 2 1 = 0 → DQ a' b') := by
  have hb : 0 ≤ v 0 1 ∧ v 0 1 ≤ 2000 := h.i.x 0 1
  obtain ⟨n, hn⟩ := Int.eq_ofNat_of_zero_le hb.1
  have hm : min (v 0 1) 2000 = v 0 1 := by omega
  obtain ⟨c10, c11, c9, ck⟩ := clears_at (v2 w 203 0 0)
  have E : ∀ k : Nat, k < 3 → (cl_empty (v2 v 2 4 (v 0 1))) k = (v2 v 2 4 (v 0 1)) k := fun k hk => o_cl_empty (by omega)
  have pt : PT (v2 (v2 (v2 (cl_empty (v2 v 2 4 (v 0 1))) 2 1 0) 2 2 (-1)) 2 7 0) (v2 (v2 (v2 (mo_clears (v2 w 203 0 0)) 203 12 0) 203 13 (-1)) 203 7 0) n := by
    refine ⟨⟨by omega, ?_, ?_, fun j hj => ?_⟩, ?_, fun y => ?_, fun _ => ?_⟩
    · simp only [v2_eq, E 2 (by omega)]
      exact hn
    · simp only [v2_eq, ck 203 (by omega) (by omega) (by omega)]
      show w 203 6 = n
      rw [hw 203 (by omega), ← h.i.t.n, hn]
    · rw [v2_row (by omega), v2_row (by omega), v2_row (by omega), v2_row (by omega), v2_row (by omega), v2_row (by omega), E 1 (by omega), v2_row (by omega), ck 208 (by omega) (by omega) (by omega), v2_row (by omega), hw 208 (by omega)]
      exact h.i.t.b j (by omega)
    · simp [v2_eq]
    · exact absurd (by simp [v2_eq]) y
    · simp [v2_eq]
  obtain ⟨r, g1, g2⟩ := adv_pt pt (by simp [v2_eq]) (by simp [v2_eq])
  have e0 : cl_read v (v 0 1) = cl_read_43 2002 (cl_advance (v2 (v2 (v2 (cl_empty (v2 v 2 4 (v 0 1))) 2 1 0) 2 2 (-1)) 2 7 0)) ((0 : Nat) : Int) := by
    unfold cl_read
    rw [hm]
    rfl
  have e1 : mo_bay w = mo_bay_13 2002 (mo_next (v2 (v2 (v2 (mo_clears (v2 w 203 0 0)) 203 12 0) 203 13 (-1)) 203 7 0)) := rfl
  rw [e0, e1]
  have A : ∀ k, k ≠ 2 → (cl_advance (v2 (v2 (v2 (cl_empty (v2 v 2 4 (v 0 1))) 2 1 0) 2 2 (-1)) 2 7 0)) k = (cl_empty (v2 v 2 4 (v 0 1))) k := fun k hk => by rw [o_cl_advance (by omega), v2_row hk, v2_row hk, v2_row hk]
  have B : ∀ k, k ≠ 203 → (mo_next (v2 (v2 (v2 (mo_clears (v2 w 203 0 0)) 203 12 0) 203 13 (-1)) 203 7 0)) k = (mo_clears (v2 w 203 0 0)) k := fun k hk => by rw [o_mo_next (by omega), v2_row hk, v2_row hk, v2_row hk]
  have d := dq_nil A B
  have fr : FR w (mo_next (v2 (v2 (v2 (mo_clears (v2 w 203 0 0)) 203 12 0) 203 13 (-1)) 203 7 0)) := by
    refine FR.step (c := mo_clears (v2 w 203 0 0)) ⟨fun k hk => ?_, fun j hj => ?_, fun j hj => ?_, fun j hj => ?_, fun j hj => ?_, fun j hj => ?_, fun j hj => ?_, fun j hj => ?_, fun j hj => ?_, fun j hj => ?_⟩ B
    · rw [ck k (by omega) (by omega) (by omega), v2_row (by omega)]
    · rw [c9, if_neg (by omega), v2_row (by omega)]
    · rw [c10, if_neg (by omega), v2_row (by omega)]
    · rw [c11, if_neg (by omega), v2_row (by omega)]
    · rw [ck 212 (by omega) (by omega) (by omega), v2_row (by omega)]
    · rw [ck 213 (by omega) (by omega) (by omega), v2_row (by omega)]
    · rw [ck 214 (by omega) (by omega) (by omega), v2_row (by omega)]
    · rw [ck 215 (by omega) (by omega) (by omega), v2_row (by omega)]
    · rw [ck 216 (by omega) (by omega) (by omega), v2_row (by omega)]
    · rw [ck 217 (by omega) (by omega) (by omega), v2_row (by omega)]
  have lo := r.lo
  obtain ⟨a', b', o1, o2, o3, o4, o5⟩ := read_loop (n := n) 2002 0 _ _ r (fun _ => ⟨d, by rw [A 3 (by omega)]; exact (empty_at _).1 2 (by omega), by omega⟩) (by omega) (by omega)
  exact ⟨n, a', b', o1, o2, o3, fr.trans o4, o5⟩
