/-! the tape, faults -/
def tpr (a b : VS) : Prop := a 0 1 = b 203 6 ∧ ∀ j : Nat, (j : Int) < a 0 1 → a 1 j = b 208 j
theorem pb_row {a : VS} {x : Int} {N : Nat} (hN : a 0 1 = N) (h4 : N + 4 ≤ 2000) : (cl_putBytes a x) 0 1 = ((N + 4 : Nat) : Int) ∧ (∀ j : Nat, (cl_putBytes a x) 1 j = if j = N + 3 then w8 (w8 (pm_shr x 0)) else if j = N + 2 then w8 (w8 (pm_shr x 8)) else if j = N + 1 then w8 (w8 (pm_shr x 16)) else if j = N then w8 (w8 (pm_shr x 24)) else a 1 j) := by
  have t1 : ((N : Int) + 1).toNat = N + 1 := by omega
  have t2 : ((N : Int) + 1 + 1).toNat = N + 2 := by omega
  have t3 : ((N : Int) + 1 + 1 + 1).toNat = N + 3 := by omega
  unfold cl_putBytes
  rw [hN, toN, t1, t2, t3, if_pos (by omega), if_pos (by omega), if_pos (by omega), if_pos (by omega)]
  refine ⟨?_, fun j => ?_⟩
  · rw [v2_eq, if_pos ⟨rfl, rfl⟩]
    omega
  · rw [v2_row (by omega), v2_eq]
    by_cases q3 : j = N + 3
    · rw [if_pos ⟨rfl, q3⟩, if_pos q3]
    · rw [if_neg (fun g => q3 g.2), if_neg q3, v2_row (by omega), v2_eq]
      by_cases q2 : j = N + 2
      · rw [if_pos ⟨rfl, q2⟩, if_pos q2]
      · rw [if_neg (fun g => q2 g.2), if_neg q2, v2_row (by omega), v2_eq]
        by_cases q1 : j = N + 1
        · rw [if_pos ⟨rfl, q1⟩, if_pos q1]
        · rw [if_neg (fun g => q1 g.2), if_neg q1, v2_row (by omega), v2_eq]
          by_cases q0 : j = N
          · rw [if_pos ⟨rfl, q0⟩, if_pos q0]
          · rw [if_neg (fun g => q0 g.2), if_neg q0]
theorem mf_row {b : VS} {x : Int} {N : Nat} (hN : b 203 6 = N) : (mo_four b x) 203 6 = ((N + 4 : Nat) : Int) ∧ (∀ j : Nat, (mo_four b x) 208 j = if j = N + 3 then w8 (w8 (pm_shr x 0)) else if j = N + 2 then w8 (w8 (pm_shr x 8)) else if j = N + 1 then w8 (w8 (pm_shr x 16)) else if j = N then w8 (w8 (pm_shr x 24)) else b 208 j) ∧ (∀ j : Nat, j ≠ 6 → (mo_four b x) 203 j = b 203 j) ∧ ∀ k, k ≠ 203 → k ≠ 208 → (mo_four b x) k = b k := by
  have t1 : ((N : Int) + 1).toNat = N + 1 := by omega
  have t2 : ((N : Int) + 1 + 1).toNat = N + 2 := by omega
  have t3 : ((N : Int) + 1 + 1 + 1).toNat = N + 3 := by omega
  unfold mo_four
  rw [hN, toN, t1, t2, t3]
  refine ⟨?_, fun j => ?_, fun j hj => ?_, fun k h1 h2 => ?_⟩
  · rw [v2_eq, if_pos ⟨rfl, rfl⟩]
    omega
  · rw [v2_row (by omega), v2_eq]
    by_cases q3 : j = N + 3
    · rw [if_pos ⟨rfl, q3⟩, if_pos q3]
    · rw [if_neg (fun g => q3 g.2), if_neg q3, v2_row (by omega), v2_eq]
      by_cases q2 : j = N + 2
      · rw [if_pos ⟨rfl, q2⟩, if_pos q2]
      · rw [if_neg (fun g => q2 g.2), if_neg q2, v2_row (by omega), v2_eq]
        by_cases q1 : j = N + 1
        · rw [if_pos ⟨rfl, q1⟩, if_pos q1]
        · rw [if_neg (fun g => q1 g.2), if_neg q1, v2_row (by omega), v2_eq]
          by_cases q0 : j = N
          · rw [if_pos ⟨rfl, q0⟩, if_pos q0]
          · rw [if_neg (fun g => q0 g.2), if_neg q0]
  · rw [v2_eq, if_neg (by omega), v2_row (by omega), v2_eq, if_neg (by omega), v2_row (by omega), v2_eq, if_neg (by omega), v2_row (by omega), v2_eq, if_neg (by omega), v2_row (by omega)]
  · rw [v2_row h1, v2_row h2, v2_row h1, v2_row h2, v2_row h1, v2_row h2, v2_row h1, v2_row h2]
theorem tpr.step {a b : VS} (h : tpr a b) {x : Int} (h0 : 0 ≤ a 0 1) (h4 : a 0 1 + 4 ≤ 2000) : tpr (cl_putBytes a x) (mo_four b x) ∧ (cl_putBytes a x) 0 1 = a 0 1 + 4 := by
  obtain ⟨N, hN⟩ : ∃ N : Nat, a 0 1 = N := ⟨(a 0 1).toNat, by omega⟩
  obtain ⟨p1, p2⟩ := pb_row (x := x) hN (by omega)
  obtain ⟨m1, m2, -⟩ := mf_row (b := b) (x := x) (N := N) (by rw [← h.1]; exact hN)
  refine ⟨⟨by rw [p1, m1], fun j hj => ?_⟩, by rw [p1]; omega⟩
  rw [p1] at hj
  rw [p2, m2]
  by_cases q3 : j = N + 3
  · rw [if_pos q3, if_pos q3]
  · by_cases q2 : j = N + 2
    · rw [if_neg q3, if_neg q3, if_pos q2, if_pos q2]
    · by_cases q1 : j = N + 1
      · rw [if_neg q3, if_neg q3, if_neg q2, if_neg q2, if_pos q1, if_pos q1]
      · by_cases q0 : j = N
        · rw [if_neg q3, if_neg q3, if_neg q2, if_neg q2, if_neg q1, if_neg q1, if_pos q0, if_pos q0]
        · rw [if_neg q3, if_neg q3, if_neg q2, if_neg q2, if_neg q1, if_neg q1, if_neg q0, if_neg q0]
          exact h.2 j (by omega)
theorem four_f {b : VS} {x : Int} {j : Nat} (hj : j ≠ 6) : (mo_four b x) 203 j = b 203 j := by
  unfold mo_four
  rw [v2_eq, if_neg (by omega), v2_row (by omega), v2_eq, if_neg (by omega), v2_row (by omega), v2_eq, if_neg (by omega), v2_row (by omega), v2_eq, if_neg (by omega), v2_row (by omega)]
theorem put_f {a : VS} {x : Int} {j : Nat} (hj : j ≠ 1) : (cl_putBytes a x) 0 j = a 0 j := by
  unfold cl_putBytes
  repeat' split
  all_goals first
    | rfl
    | (rw [v2_eq, if_neg (by omega), v2_row (by omega), v2_eq, if_neg (by omega), v2_row (by omega), v2_eq, if_neg (by omega), v2_row (by omega), v2_eq, if_neg (by omega), v2_row (by omega)])
/-- what a change of the tape leaves -/
theorem INV.tape {v w : VS} (h : INV v) (hx : XI w) (hc : CF w) (ht : TPQ w) (e0 : ∀ j, j ≠ 1 → w 0 j = v 0 j) (e : ∀ k, 2 ≤ k → k ≠ 203 → k ≠ 208 → w k = v k) : INV w := by
  have eT : tP w = tP v := tP_of (fun k a b => e k (by omega) (by omega) (by omega))
  refine ⟨⟨hx, hc, ?_, ht, h.i.s.of (fun j a b => e j (by omega) (by omega) (by omega)) (fun j a b => e j (by omega) (by omega) (by omega)), h.i.i.of (e0 13 (by omega)) (fun j a b => e j (by omega) (by omega) (by omega)) (fun j a b => e j (by omega) (by omega) (by omega)), h.i.b.of (fun j a b => e j (by omega) (by omega) (by omega)) (fun j a b => e j (by omega) (by omega) (by omega)), h.i.g.of (fun j a b => e j (by omega) (by omega) (by omega))⟩, h.a.of (fun k a b => e k (by omega) (by omega) (by omega)), fun g => ?_⟩
  · have := h.i.z
    unfold WZ at *
    rw [e 73 (by omega) (by omega) (by omega), e 74 (by omega) (by omega) (by omega)]
    exact this
  · rw [e0 10 (by omega)] at g
    obtain ⟨g1, g2⟩ := h.r g
    rw [eT]
    refine ⟨g1.of (fun k a b => e k (by omega) (by omega) (by omega)) rfl, fun c t hc ht => ?_⟩
    rw [e 33 (by omega) (by omega) (by omega)] at hc ht
    rw [e 105 (by omega) (by omega) (by omega)]
    exact g2.c c t hc ht
theorem q_feed {v : VS} (h : INV v) (a b c d e : Int) : (mo_feed (cl_feed v a b c d e).2 a b c d e).1 = (cl_feed v a b c d e).1 ∧ INV (mo_feed (cl_feed v a b c d e).2 a b c d e).2 := by
  have hl : 0 ≤ v 0 1 ∧ v 0 1 ≤ 2000 := h.i.x 0 1
  have hx := i_mo_feed (xa := a) (xb := b) (xc := c) (xd := d) (xe := e) (i_cl_feed (xa := a) (xb := b) (xc := c) (xd := d) (xe := e) h.i.x)
  have en := h.i.t.n
  have ro : ∀ k, 2 ≤ k → (cl_feed v a b c d e).2 k = v k := fun k hk => o_cl_feed (by omega)
  by_cases z : 2000 < v 0 1 + 20
  · have ec : cl_feed v a b c d e = (-1, v) := by unfold cl_feed; rw [if_pos z]
    rw [ec]
    show (mo_feed v a b c d e).1 = -1 ∧ INV (mo_feed v a b c d e).2
    unfold mo_feed
    rw [← en, if_pos z]
    exact ⟨rfl, h.thr⟩
  · have ec : cl_feed v a b c d e = ((cl_putBytes (cl_putBytes (cl_putBytes (cl_putBytes (cl_putBytes v a) b) c) d) e) 0 1, cl_putBytes (cl_putBytes (cl_putBytes (cl_putBytes (cl_putBytes v a) b) c) d) e) := by unfold cl_feed; rw [if_neg z]
    obtain ⟨s, hs⟩ : ∃ s, s = cl_putBytes (cl_putBytes (cl_putBytes (cl_putBytes (cl_putBytes v a) b) c) d) e := ⟨_, rfl⟩
    rw [ec] at hx ro ⊢
    dsimp only at hx ro ⊢
    have t0 : tpr v (v2 s 203 0 0) := by
      refine ⟨?_, fun j hj => ?_⟩
      · rw [v2_eq, if_neg (by omega), hs, ro 203 (by omega)]; exact en
      · rw [v2_row (by omega), hs, ro 208 (by omega)]; exact h.i.t.b j hj
    obtain ⟨t1, l1⟩ := t0.step (x := a) (by omega) (by omega)
    obtain ⟨t2, l2⟩ := t1.step (x := b) (by omega) (by omega)
    obtain ⟨t3, l3⟩ := t2.step (x := c) (by omega) (by omega)
    obtain ⟨t4, l4⟩ := t3.step (x := d) (by omega) (by omega)
    obtain ⟨t5, l5⟩ := t4.step (x := e) (by omega) (by omega)
    have em : mo_feed s a b c d e = ((mo_four (mo_four (mo_four (mo_four (mo_four (v2 s 203 0 0) a) b) c) d) e) 203 6, mo_four (mo_four (mo_four (mo_four (mo_four (v2 s 203 0 0) a) b) c) d) e) := by
      unfold mo_feed
      rw [if_neg]
      rw [hs, ro 203 (by omega), ← en]
      exact z
    rw [← hs] at hx ro t5 ⊢
    rw [em] at hx ⊢
    dsimp only at hx ⊢
    have rw1 : ∀ k, k ≠ 203 → k ≠ 208 → (mo_four (mo_four (mo_four (mo_four (mo_four (v2 s 203 0 0) a) b) c) d) e) k = s k := fun k h1 h2 => by
      have o := o_mo_feed (rk := k) (v := s) (xa := a) (xb := b) (xc := c) (xd := d) (xe := e) (by omega)
      rw [em] at o
      exact o
    have f : ∀ j, j ≠ 6 → j ≠ 0 → (mo_four (mo_four (mo_four (mo_four (mo_four (v2 s 203 0 0) a) b) c) d) e) 203 j = s 203 j := fun j hj h0 => by
      rw [four_f hj, four_f hj, four_f hj, four_f hj, four_f hj, v2_eq, if_neg (fun g => h0 g.2)]
    refine ⟨t5.1.symm, h.tape hx (h.i.c.of (fun k a b => by rw [rw1 k (by omega) (by omega), ro k (by omega)])) ⟨?_, fun j hj => ?_, ?_, ?_⟩ (fun j hj => ?_) (fun k k1 k2 k3 => by rw [rw1 k k2 k3, ro k k1])⟩
    · rw [rw1 0 (by omega) (by omega)]; exact t5.1
    · rw [rw1 0 (by omega) (by omega)] at hj
      rw [rw1 1 (by omega) (by omega)]; exact t5.2 j hj
    · rw [rw1 2 (by omega) (by omega), f 14 (by omega) (by omega), ro 2 (by omega), ro 203 (by omega)]; exact h.i.t.f
    · rw [rw1 2 (by omega) (by omega), f 15 (by omega) (by omega), ro 2 (by omega), ro 203 (by omega)]; exact h.i.t.p
    · rw [rw1 0 (by omega) (by omega), hs, put_f hj, put_f hj, put_f hj, put_f hj, put_f hj]
theorem q_end {v : VS} (h : INV v) (n : Int) (hR : R32 n) : (mo_end (cl_end v n).2 n).1 = (cl_end v n).1 ∧ INV (mo_end (cl_end v n).2 n).2 := by
  have en := h.i.t.n
  have hx := i_mo_end (i_cl_end h.i.x hR) hR
  by_cases z : 0 ≤ n ∧ n ≤ v 0 1
  · have ec : cl_end v n = (n, v2 v 0 1 n) := by unfold cl_end; rw [if_neg (by omega), if_neg (by omega)]
    rw [ec] at hx ⊢
    have em : mo_end (v2 v 0 1 n) n = (n, v2 (v2 (v2 v 0 1 n) 203 0 0) 203 6 n) := by
      unfold mo_end
      rw [v2_row (by omega), if_pos (by omega)]
    dsimp only at hx ⊢
    rw [em] at hx ⊢
    dsimp only at hx ⊢
    have r : ∀ k, k ≠ 203 → k ≠ 0 → (v2 (v2 (v2 v 0 1 n) 203 0 0) 203 6 n) k = v k := fun k h1 h2 => by rw [v2_row h1, v2_row h1, v2_row h2]
    have r0 : ∀ j, j ≠ 1 → (v2 (v2 (v2 v 0 1 n) 203 0 0) 203 6 n) 0 j = v 0 j := fun j hj => by rw [v2_row (by omega), v2_row (by omega), v2_eq, if_neg (by omega)]
    have r1 : (v2 (v2 (v2 v 0 1 n) 203 0 0) 203 6 n) 0 1 = n := by rw [v2_row (by omega), v2_row (by omega), v2_eq, if_pos ⟨rfl, rfl⟩]
    have f : ∀ j, j ≠ 6 → j ≠ 0 → (v2 (v2 (v2 v 0 1 n) 203 0 0) 203 6 n) 203 j = v 203 j := fun j h1 h2 => by rw [v2_eq, if_neg (by omega), v2_eq, if_neg (by omega), v2_row (by omega)]
    refine ⟨rfl, h.tape hx (h.i.c.of (fun k a b => r k (by omega) (by omega))) ⟨?_, fun j hj => ?_, ?_, ?_⟩ r0 (fun k k1 k2 k3 => r k k2 (by omega))⟩
    · rw [r1, v2_eq, if_pos ⟨rfl, rfl⟩]
    · rw [r1] at hj
      rw [r 1 (by omega) (by omega), r 208 (by omega) (by omega)]
      exact h.i.t.b j (by omega)
    · rw [r 2 (by omega) (by omega), f 14 (by omega) (by omega)]; exact h.i.t.f
    · rw [r 2 (by omega) (by omega), f 15 (by omega) (by omega)]; exact h.i.t.p
  · have ec : cl_end v n = (-1, v) := by
      unfold cl_end
      by_cases z1 : n < 0
      · rw [if_pos z1]
      · rw [if_neg z1, if_pos (by omega)]
    rw [ec]
    show (mo_end v n).1 = -1 ∧ INV (mo_end v n).2
    unfold mo_end
    rw [if_neg (by omega)]
    exact ⟨rfl, h.thr⟩
theorem q_fault {v : VS} (h : INV v) (w : Int) : (mo_fault v w).1 = cl_fault v w ∧ INV (mo_fault v w).2 := by
  unfold mo_fault cl_fault
  rw [h.i.t.f, h.i.t.p]
  repeat' split
  all_goals exact ⟨rfl, h.thr⟩
theorem INV.che {v : VS} (h : INV v) : (∀ c : Nat, c < 9 → v 34 c = v 211 (3 * c) ∧ v 35 c = v 211 (3 * c + 1) ∧ v 36 c = v 211 (3 * c + 2)) ∧ (∀ e : Nat, (e : Int) < v 37 0 → v 38 e = v 212 (4 * e) ∧ v 39 e = v 212 (4 * e + 1) ∧ v 40 e = v 212 (4 * e + 2) ∧ v 41 e = v 212 (4 * e + 3)) ∧ (∀ s : Nat, (s : Int) < v 42 0 → v 43 s = v 213 (3 * s) ∧ v 44 s = v 213 (3 * s + 1) ∧ v 45 s = v 213 (3 * s + 2)) := by
  refine ⟨fun c hc => ?_, fun e he => ?_, fun s hs => ?_⟩
  · have q := h.i.b.ch c hc
    simp only [Nat.mul_zero, Nat.zero_add] at q
    exact q
  · have q := h.i.b.ea e he
    simp only [Nat.mul_zero, Nat.zero_add] at q
    exact q
  · have q := h.i.b.st s hs
    simp only [Nat.mul_zero, Nat.zero_add] at q
    exact q
theorem q_church {v : VS} (h : INV v) (c w : Int) : (mo_church v c w).1 = cl_church v c w ∧ INV (mo_church v c w).2 := by
  have hC : 0 ≤ v 33 0 ∧ v 33 0 ≤ 9 := h.i.x 33 0
  obtain ⟨b0, b1, b3, b4, bL, b9, b10⟩ := h.b0
  obtain ⟨hc, -, -⟩ := h.che
  unfold mo_church cl_church
  rw [b0, b9]
  by_cases z : 0 ≤ c ∧ c < v 33 0
  · rw [if_pos z, if_pos z]
    obtain ⟨c, rfl⟩ := Int.eq_ofNat_of_zero_le z.1
    obtain ⟨g1, g2, g3⟩ := hc c (by omega)
    rw [toN, g1, g2, g3]
    by_cases y : 0 ≤ w ∧ w ≤ 3
    · rw [if_pos y]
      have : w = 0 ∨ w = 1 ∨ w = 2 ∨ w = 3 := by omega
      rcases this with rfl | rfl | rfl | rfl
      · rw [if_pos (by omega), if_pos rfl, show (3 * (c : Int) + 0).toNat = 3 * c by omega]; exact ⟨rfl, h.thr⟩
      · rw [if_pos (by omega), if_neg (by omega), if_pos rfl, show (3 * (c : Int) + 1).toNat = 3 * c + 1 by omega]; exact ⟨rfl, h.thr⟩
      · rw [if_pos (by omega), if_neg (by omega), if_neg (by omega), if_pos rfl, show (3 * (c : Int) + 2).toNat = 3 * c + 2 by omega]; exact ⟨rfl, h.thr⟩
      · rw [if_neg (by omega), if_neg (by omega), if_neg (by omega), if_neg (by omega), if_pos rfl]; exact ⟨rfl, h.thr⟩
    · rw [if_neg y, if_neg (by omega), if_neg (by omega), if_neg (by omega), if_neg (by omega)]; exact ⟨rfl, h.thr⟩
  · rw [if_neg z, if_neg z]; exact ⟨rfl, h.thr⟩
theorem q_ear {v : VS} (h : INV v) (c w : Int) : (mo_ear v c w).1 = cl_ear v c w ∧ INV (mo_ear v c w).2 := by
  obtain ⟨b0, b1, b3, b4, bL, b9, b10⟩ := h.b0
  obtain ⟨-, he, -⟩ := h.che
  unfold mo_ear cl_ear
  rw [b3, b10]
  by_cases z : 0 ≤ c ∧ c < v 37 0
  · rw [if_pos z, if_pos z]
    obtain ⟨c, rfl⟩ := Int.eq_ofNat_of_zero_le z.1
    obtain ⟨g1, g2, g3, g4⟩ := he c z.2
    rw [toN, g1, g2, g3, g4]
    by_cases y : 0 ≤ w ∧ w ≤ 4
    · rw [if_pos y]
      have : w = 0 ∨ w = 1 ∨ w = 2 ∨ w = 3 ∨ w = 4 := by omega
      rcases this with rfl | rfl | rfl | rfl | rfl
      · rw [if_pos (by omega), if_pos rfl, show (4 * (c : Int) + 0).toNat = 4 * c by omega]; exact ⟨rfl, h.thr⟩
      · rw [if_pos (by omega), if_neg (by omega), if_pos rfl, show (4 * (c : Int) + 1).toNat = 4 * c + 1 by omega]; exact ⟨rfl, h.thr⟩
      · rw [if_pos (by omega), if_neg (by omega), if_neg (by omega), if_pos rfl, show (4 * (c : Int) + 2).toNat = 4 * c + 2 by omega]; exact ⟨rfl, h.thr⟩
      · rw [if_pos (by omega), if_neg (by omega), if_neg (by omega), if_neg (by omega), if_pos rfl, show (4 * (c : Int) + 3).toNat = 4 * c + 3 by omega]; exact ⟨rfl, h.thr⟩
      · rw [if_neg (by omega), if_neg (by omega), if_neg (by omega), if_neg (by omega), if_neg (by omega), if_pos rfl]; exact ⟨rfl, h.thr⟩
    · rw [if_neg y, if_neg (by omega), if_neg (by omega), if_neg (by omega), if_neg (by omega), if_neg (by omega)]; exact ⟨rfl, h.thr⟩
  · rw [if_neg z, if_neg z]; exact ⟨rfl, h.thr⟩
theorem q_takes {v : VS} (h : INV v) (c s : Int) (h1 : R32 c) (h2 : R32 s) : (mo_takes v c s).1 = cl_takes v c s ∧ INV (mo_takes v c s).2 := by
  have hS : 0 ≤ v 33 1 ∧ v 33 1 ≤ 300 := h.i.x 33 1
  obtain ⟨b0, b1, b3, b4, bL, b9, b10⟩ := h.b0
  obtain ⟨-, he, -⟩ := h.che
  have hx := i_mo_takes h.i.x h1 h2 h.i.c
  have ro : ∀ k, k ≠ 203 → k ≠ 219 → (mo_takes v c s).2 k = v k := fun k a b => o_mo_takes (by omega)
  by_cases z : (0 ≤ c ∧ c < v 37 0) ∧ (0 ≤ s ∧ s < v 33 1)
  · have em : mo_takes v c s = (mo_takesOf (mo_laysWinds (mo_plainly (v2 v 203 0 0))) c s, mo_laysWinds (mo_plainly (v2 v 203 0 0))) := by
      unfold mo_takes
      rw [b3, b1, if_pos z.1, if_pos z.2]
    have ec : cl_takes v c s = xlag v c (v 63 s.toNat) := by
      unfold cl_takes
      rw [if_pos z.1, if_pos z.2]
    have hb := BR.plain h.i h.a (u := v2 v 203 0 0) (fun k a b => v2_row (by omega)) h.thr.i.x
    rw [em] at hx ro
    rw [em, ec]
    dsimp only at hx ro ⊢
    obtain ⟨c, rfl⟩ := Int.eq_ofNat_of_zero_le z.1.1
    obtain ⟨s, rfl⟩ := Int.eq_ofNat_of_zero_le z.2.1
    obtain ⟨g1, g2, g3, g4⟩ := he c z.1.2
    have r2 : ∀ k, k ≠ 203 → (mo_plainly (v2 v 203 0 0)) k = v k := fun k hk => by rw [o_mo_plainly (by omega), v2_row hk]
    have wi := hb.wi s (by rw [r2 33 (by omega)]; exact z.2.2)
    obtain ⟨-, -, a4, -⟩ := asTold_r v
    have ex : xwind (cl_asTold v) s = v 63 s := by
      unfold xwind
      rw [asTold_72 v _ (by omega), a4, if_neg (by omega), toN, o_cl_asTold (by omega)]
      omega
    have el : ∀ w, xlag (cl_asTold v) c w = xlag v c w := fun w => by
      unfold xlag
      rw [o_cl_asTold (by omega), o_cl_asTold (by omega)]
    refine ⟨?_, h.ref hx (fun j hj => ro j (by omega) (by omega)) ?_ ?_ ?_⟩
    · have t := takes_eq (s := cl_asTold v) (u := mo_laysWinds (mo_plainly (v2 v 203 0 0))) (e := c) (t := s) (i_cl_asTold h.i.x) (by rw [o_cl_asTold (by omega), ro 212 (by omega) (by omega), g3]) (by rw [o_cl_asTold (by omega), ro 212 (by omega) (by omega), g4]) wi
      rw [el, ex] at t
      rw [toN]
      exact t
    · rw [f_lw (by omega), plainly_f (by omega)]; rfl
    · rw [f_lw (by omega), plainly_f (by omega)]; rfl
    · rw [f_lw (by omega), plainly_f (by omega)]; rfl
  · have em : mo_takes v c s = (-2, v2 v 203 0 0) := by
      unfold mo_takes
      rw [b3, b1]
      by_cases y : 0 ≤ c ∧ c < v 37 0
      · rw [if_pos y, if_neg (fun g => z ⟨y, g⟩)]
      · rw [if_neg y]
    have ec : cl_takes v c s = -2 := by
      unfold cl_takes
      by_cases y : 0 ≤ c ∧ c < v 37 0
      · rw [if_pos y, if_neg (fun g => z ⟨y, g⟩)]
      · rw [if_neg y]
    rw [em, ec]
    exact ⟨rfl, h.thr⟩
theorem count4 {v w : VS} (hs : SLQ v) (e : w 204 = v 204) : ∀ (f i : Nat) (n : Int), i ≤ 4 → cl_slotsWithRows_4 f v n i = mo_count_118 f w n i := by
  intro f
  induction f with
  | zero => intro i n _; rfl
  | succ f ih =>
    intro i n hi
    rw [cl_slotsWithRows_4, mo_count_118, e, toN, show ((i : Int) + 1) = ((i + 1 : Nat) : Int) by omega, show n + 0 = n by omega]
    by_cases q : (i : Int) < 4
    · have g := hs.has i (by omega)
      rw [if_pos q, if_pos q]
      by_cases z : v (107 + 2 * i) 0 = 0
      · rw [if_pos z, if_pos (g.mp z)]; exact ih _ _ (by omega)
      · rw [if_neg z, if_neg (fun y => z (g.mpr y))]; exact ih _ _ (by omega)
    · rw [if_neg q, if_neg q]
theorem q_count {v : VS} (h : INV v) (w : Int) : (mo_count v w).1 = cl_count v w ∧ INV (mo_count v w).2 := by
  obtain ⟨b0, b1, b3, b4, bL, b9, b10⟩ := h.b0
  have en := h.i.t.n
  have e8 : mo_count_118 5 (v2 v 203 0 0) 0 0 = cl_slotsWithRows v := (count4 h.i.s (w := v2 v 203 0 0) (v2_row (by omega)) 5 0 0 (by omega)).symm
  unfold mo_count cl_count
  rw [b0, b1, b3, b4, bL, b9, b10, ← en, e8]
  repeat' split
  all_goals exact ⟨rfl, h.thr⟩
