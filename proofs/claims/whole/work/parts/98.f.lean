
/-! lines -/
def LN (a b a' b' : VS) (n : Nat) : Prop :=
  (RT a' b' n) ∧
  (FR b b') ∧
  (a' 2 1 = 0 → DQ a' b' ∧ a 2 6 < a' 2 6 ∧ a' 3 2 = a 3 2)
theorem LN.r {a b a' b' : VS} {n : Nat} (h : LN a b a' b' n) : RT a' b' n := h.1
theorem LN.fr {a b a' b' : VS} {n : Nat} (h : LN a b a' b' n) : FR b b' := h.2.1
theorem LN.al {a b a' b' : VS} {n : Nat} (h : LN a b a' b' n) : a' 2 1 = 0 → DQ a' b' ∧ a 2 6 < a' 2 6 ∧ a' 3 2 = a 3 2 := h.2.2
theorem fail_dead {a : VS} (h : a 2 1 ≠ 0) (k : Int) : cl_fail a k = a := by unfold cl_fail; rw [if_neg h]
theorem number_dead {a : VS} (h : a 2 1 ≠ 0) (l g : Int) : cl_number a l g = (l, a) := by unfold cl_number; rw [if_neg h]
theorem stop_dead {a : VS} (h : a 2 1 ≠ 0) : cl_stop a = a := by unfold cl_stop; rw [if_neg h, fail_dead h]
theorem mnumber_dead {b : VS} (h : b 203 12 ≠ 0) (l g : Int) : mo_number b l g = (l, b) := by unfold mo_number; rw [if_neg h]
theorem mfail_dead {b : VS} (h : b 203 12 ≠ 0) (k : Int) : mo_fails b k = b := by unfold mo_fails; rw [if_neg h]

theorem wdd_7 {a : VS} (h : a 2 1 ≠ 0) : cl_word7 a = a := by unfold cl_word7; rw [if_neg h, fail_dead h]
theorem wdd_9 {a : VS} (h : a 2 1 ≠ 0) : cl_word9 a = a := by unfold cl_word9; rw [if_neg h, fail_dead h]
theorem wdd_10 {a : VS} (h : a 2 1 ≠ 0) : cl_word10 a = a := by unfold cl_word10; rw [if_neg h, fail_dead h]
theorem wdd_11 {a : VS} (h : a 2 1 ≠ 0) : cl_word11 a = a := by unfold cl_word11; rw [if_neg h, fail_dead h]
theorem wdd_12 {a : VS} (h : a 2 1 ≠ 0) : cl_word12 a = a := by unfold cl_word12; rw [if_neg h, fail_dead h]
theorem wdd_13 {a : VS} (h : a 2 1 ≠ 0) : cl_word13 a = a := by unfold cl_word13; rw [if_neg h, fail_dead h]
theorem wdd_15 {a : VS} (h : a 2 1 ≠ 0) : cl_word15 a = a := by unfold cl_word15; rw [if_neg h, fail_dead h]
theorem wdd_17 {a : VS} (h : a 2 1 ≠ 0) : cl_word17 a = a := by unfold cl_word17; rw [if_neg h, fail_dead h]
theorem wdd_18 {a : VS} (h : a 2 1 ≠ 0) : cl_word18 a = a := by unfold cl_word18; rw [if_neg h, fail_dead h]
theorem wdd_19 {a : VS} (h : a 2 1 ≠ 0) : cl_word19 a = a := by unfold cl_word19; rw [if_neg h, fail_dead h]
theorem wdd_23 {a : VS} (h : a 2 1 ≠ 0) : cl_word23 a = a := by unfold cl_word23; rw [if_neg h, fail_dead h]
theorem wdd_4 {a : VS} (h : a 2 1 ≠ 0) : cl_word4 a = a := by unfold cl_word4; rw [if_neg h, fail_dead h]
theorem wdd_5 {a : VS} (h : a 2 1 ≠ 0) : cl_word5 a = a := by unfold cl_word5; rw [if_neg h, fail_dead h]
theorem wdd_6 {a : VS} (h : a 2 1 ≠ 0) : cl_word6 a = a := by unfold cl_word6; rw [if_neg h, fail_dead h]
theorem begin_lt {a : VS} {x y : Int} (h : x < y) : cl_beginLine a x y = cl_advance a := by unfold cl_beginLine; rw [if_pos h]
theorem begin_ge {a : VS} {x y : Int} (h : ¬ x < y) : cl_beginLine a x y = cl_fail a 3 := by unfold cl_beginLine; rw [if_neg h]
theorem LN.dead {a b a' b' : VS} {n : Nat} (h : RT a b n) (s : RT a' b' n) (fr : FR b b') (x : a' 2 1 ≠ 0) : LN a b a' b' n := ⟨s, fr, fun y => absurd y x⟩
theorem ln_start {a b : VS} {n : Nat} (h : RT a b n) (d : DQ a b) (hn : a 3 2 ≠ 0) (hlt : a 12 0 < 4) : LN a b (cl_readStart a) (mo_ends (mo_startLine (mo_next b))) n := by
  obtain ⟨m, hm⟩ := Int.eq_ofNat_of_zero_le d.T.2.1
  have hC := d.C
  have hS := d.S
  have hE := d.E
  have t0 := adv_st h
  have e0 : cl_beginLine a (a 12 0) 4 = cl_advance a := begin_lt hlt
  unfold cl_readStart mo_startLine
  rw [e0]
  have s0 := t0
  generalize cl_advance a = a0 at s0 ⊢
  generalize mo_next b = b0 at s0 ⊢
  unfold mo_churchHere mo_numberW
  dsimp only
  have k0 : ((3 : Int) * (20 + b0 210 48)).toNat = 60 + 3 * m := by rw [s0.rb 210 (by omega), ← d.T.1, hm]; omega
  have k1 : ((3 : Int) * (20 + b0 210 48) + 1).toNat = 60 + 3 * m + 1 := by rw [s0.rb 210 (by omega), ← d.T.1, hm]; omega
  have k2 : ((3 : Int) * (20 + b0 210 48) + 2).toNat = 60 + 3 * m + 2 := by rw [s0.rb 210 (by omega), ← d.T.1, hm]; omega
  have l1 : b0 210 44 = a0 3 0 := by rw [s0.rb 210 (by omega), s0.ra 3 (by omega)]; exact d.C.1.symm
  rw [k0, k1, k2, l1]
  obtain ⟨x, a1, b1, e1, e2, s1, g1⟩ := number_ok s0.r 0 (a0 3 0 - 1) (by rw [s0.ra 3 (by omega)]; omega)
  rw [e1, e2]
  dsimp only
  have s2 := wd_15 (s1.r.put (k := 213) (j := 60 + 3 * m) (x := x) (by omega) (by omega))
  generalize cl_word15 a1 = a2 at s2 ⊢
  generalize mo_asks (v2 b1 213 (60 + 3 * m) x) 47 = b2 at s2 ⊢
  have l2 : b1 210 45 = a2 3 1 := by rw [s1.rb 210 (by omega), s0.rb 210 (by omega), s2.ra 3 (by omega), s1.ra 3 (by omega), s0.ra 3 (by omega)]; exact d.S.1.symm
  rw [l2]
  obtain ⟨y, a3, b3, e3, e4, s3, g3⟩ := number_ok s2.r 0 (a2 3 1 - 1) (by rw [s2.ra 3 (by omega), s1.ra 3 (by omega), s0.ra 3 (by omega)]; omega)
  rw [e3, e4]
  dsimp only
  have s4 := wd_23 (s3.r.put (k := 213) (j := 60 + 3 * m + 1) (x := y) (by omega) (by omega))
  generalize cl_word23 a3 = a4 at s4 ⊢
  generalize mo_asks (v2 b3 213 (60 + 3 * m + 1) y) 168984 = b4 at s4 ⊢
  obtain ⟨z, a5, b5, e5, e6, s5, g5⟩ := number_ok s4.r 1 99 (by omega)
  rw [e5, e6]
  dsimp only
  obtain ⟨s6, g6⟩ := stop_ok ((s5.r.put (k := 213) (j := 60 + 3 * m + 2) (x := z) (by omega) (by omega)).put (k := 210) (j := 48) (x := b5 210 48 + 1) (by omega) (by omega))
  generalize cl_stop a5 = a6 at s6 g6 ⊢
  generalize mo_ends _ = b6 at s6 ⊢
  have A : ∀ k : Nat, k ≠ 2 → a6 k = a k := fun k hk => by rw [s6.ra k hk, s5.ra k hk, s4.ra k hk, s3.ra k hk, s2.ra k hk, s1.ra k hk, s0.ra k hk]
  have fr : FR b b6 := ((((((((((FR.refl b).step s0.rb).step s1.rb).put (by omega)).step s2.rb).step s3.rb).put (by omega)).step s4.rb).step s5.rb).put (k := 213) (j := 60 + 3 * m + 2) (x := z) (by omega)).put (k := 210) (j := 48) (x := b5 210 48 + 1) (by omega) |>.step s6.rb
  by_cases w : a6 2 1 = 0
  · rw [if_pos w]
    have w5 := s6.al w
    have w4 := s5.al w5
    have w3 := s4.al w4
    have w2 := s3.al w3
    have w1 := s2.al w2
    have ea : cl_stAdd12 a6 x y z = v2 (v2 (v2 (v2 a6 13 m x) 14 m y) 15 m z) 12 0 ((m : Int) + 1) := by
      unfold cl_stAdd12
      rw [A 12 (by omega), hm, if_neg (by omega), toN]
    rw [ea]
    have B : ∀ k : Nat, k ≠ 203 → k ≠ 210 → k ≠ 213 → b6 k = b k := fun k q1 q2 q3 => by rw [s6.rb k q1, v2_row q2, v2_row q3, s5.rb k q1, s4.rb k q1, v2_row q3, s3.rb k q1, s2.rb k q1, v2_row q3, s1.rb k q1, s0.rb k q1]
    have B5 : b5 210 = b 210 := by rw [s5.rb 210 (by omega), s4.rb 210 (by omega), v2_row (by omega), s3.rb 210 (by omega), s2.rb 210 (by omega), v2_row (by omega), s1.rb 210 (by omega), s0.rb 210 (by omega)]
    have B6 : ∀ j, b6 210 j = if j = 48 then b 210 48 + 1 else b 210 j := fun j => by
      rw [s6.rb 210 (by omega), v2_eq, v2_row (by omega), B5]
      by_cases e : j = 48 <;> simp [e]
    refine ⟨s6.r.of (by simp [v2_row]) (by simp [v2_row]) rfl rfl, fr, fun _ => ⟨d.start (m := m) (x := x) (y := y) (z := z) hm (by omega) hn (fun j _ => by simp [v2_row, A 3]) (fun k hk => ?_) (by simp [v2_eq]) (fun i => by simp [v2_eq, A 13]) (fun i => by simp [v2_eq, A 14]) (fun i => by simp [v2_eq, A 15]) (fun k hk => B k (by omega) (by omega) (by omega)) (fun j hj => by rw [B6, if_neg hj]) (by rw [B6, if_pos rfl]) (fun j => ?_) ?_, ?_, by simp [v2_row, A 3]⟩⟩
    · rw [v2_row (by omega), v2_row (by omega), v2_row (by omega), v2_row (by omega), A k (by omega)]
    · rw [s6.rb 213 (by omega), v2_row (by omega), v2_eq, s5.rb 213 (by omega), s4.rb 213 (by omega), v2_eq, s3.rb 213 (by omega), s2.rb 213 (by omega), v2_eq, s1.rb 213 (by omega), s0.rb 213 (by omega)]
      simp
    · have h1 := g1 w1
      have h3 := g3 w3
      have h5 := g5 w5
      rw [s0.ra 3 (by omega)] at h1
      rw [s2.ra 3 (by omega), s1.ra 3 (by omega), s0.ra 3 (by omega)] at h3
      omega
    · have h6 := g6 w
      have := s0.mo
      have := s1.mo
      have := s2.mo
      have := s3.mo
      have := s4.mo
      have := s5.mo
      rw [v2_row (by omega), v2_row (by omega), v2_row (by omega), v2_row (by omega)]
      omega
  · rw [if_neg w]
    exact LN.dead h s6.r fr w
theorem ln_fog {a b : VS} {n : Nat} (h : RT a b n) (d : DQ a b) (hn : a 3 2 ≠ 0) (hlt : a 20 0 < 6) : LN a b (cl_readSpell20 (cl_word17 (cl_advance a)) (((cl_word17 (cl_advance a)) 7 0) - 1)) (mo_ends (mo_span6 (mo_asks (mo_next b) 419) ((mo_asks (mo_next b) 419) 210 47))) n := by
  obtain ⟨m, hm⟩ := Int.eq_ofNat_of_zero_le d.F.2.1
  have hC := d.C
  have hS := d.S
  have hE := d.E
  have t0 := adv_st h
  have t1 := wd_17 t0.r
  have s0 : ST a b (cl_word17 (cl_advance a)) (mo_asks (mo_next b) 419) n := ⟨t1.r, fun y => t0.al (t1.al y), Int.le_trans t0.mo t1.mo, fun k hk => (t1.ra k hk).trans (t0.ra k hk), fun k hk => (t1.rb k hk).trans (t0.rb k hk)⟩
  generalize cl_word17 (cl_advance a) = a0 at s0 ⊢
  generalize mo_asks (mo_next b) 419 = b0 at s0 ⊢
  unfold cl_readSpell20 mo_span6 mo_numberW
  dsimp only
  have k0 : ((3 : Int) * (24 + b0 210 50)).toNat = 72 + 3 * m := by rw [s0.rb 210 (by omega), ← d.F.1, hm]; omega
  have k1 : ((3 : Int) * (24 + b0 210 50) + 1).toNat = 72 + 3 * m + 1 := by rw [s0.rb 210 (by omega), ← d.F.1, hm]; omega
  have k2 : ((3 : Int) * (24 + b0 210 50) + 2).toNat = 72 + 3 * m + 2 := by rw [s0.rb 210 (by omega), ← d.F.1, hm]; omega
  have l1 : b0 210 47 = a0 7 0 := by rw [s0.rb 210 (by omega), s0.ra 7 (by omega)]; exact d.E.1.symm
  rw [k0, k1, k2, l1]
  obtain ⟨x, a1, b1, e1, e2, s1, g1⟩ := number_ok s0.r 0 (a0 7 0 - 1) (by rw [s0.ra 7 (by omega)]; omega)
  rw [e1, e2]
  dsimp only
  have s2 := wd_18 (s1.r.put (k := 215) (j := 72 + 3 * m) (x := x) (by omega) (by omega))
  generalize cl_word18 a1 = a2 at s2 ⊢
  generalize mo_asks (v2 b1 215 (72 + 3 * m) x) 131638 = b2 at s2 ⊢
  have l2 : b1 210 45 = a2 3 1 := by rw [s1.rb 210 (by omega), s0.rb 210 (by omega), s2.ra 3 (by omega), s1.ra 3 (by omega), s0.ra 3 (by omega)]; exact d.S.1.symm
  rw [l2]
  obtain ⟨y, a3, b3, e3, e4, s3, g3⟩ := number_ok s2.r 0 (a2 3 1 - 1) (by rw [s2.ra 3 (by omega), s1.ra 3 (by omega), s0.ra 3 (by omega)]; omega)
  rw [e3, e4]
  dsimp only
  have s4 := wd_19 (s3.r.put (k := 215) (j := 72 + 3 * m + 1) (x := y) (by omega) (by omega))
  generalize cl_word19 a3 = a4 at s4 ⊢
  generalize mo_asks (v2 b3 215 (72 + 3 * m + 1) y) 555 = b4 at s4 ⊢
  have l3 : b3 210 45 = a4 3 1 := by rw [s3.rb 210 (by omega), s2.rb 210 (by omega), v2_row (by omega), s1.rb 210 (by omega), s0.rb 210 (by omega), s4.ra 3 (by omega), s3.ra 3 (by omega), s2.ra 3 (by omega), s1.ra 3 (by omega), s0.ra 3 (by omega)]; exact d.S.1.symm
  rw [l3]
  obtain ⟨z, a5, b5, e5, e6, s5, g5⟩ := number_ok s4.r y (a4 3 1 - 1) (by rw [s4.ra 3 (by omega), s3.ra 3 (by omega), s2.ra 3 (by omega), s1.ra 3 (by omega), s0.ra 3 (by omega)]; omega)
  rw [e5, e6]
  dsimp only
  obtain ⟨s6, g6⟩ := stop_ok ((s5.r.put (k := 215) (j := 72 + 3 * m + 2) (x := z) (by omega) (by omega)).put (k := 210) (j := 50) (x := b5 210 50 + 1) (by omega) (by omega))
  generalize cl_stop a5 = a6 at s6 g6 ⊢
  generalize mo_ends _ = b6 at s6 ⊢
  have A : ∀ k : Nat, k ≠ 2 → a6 k = a k := fun k hk => by rw [s6.ra k hk, s5.ra k hk, s4.ra k hk, s3.ra k hk, s2.ra k hk, s1.ra k hk, s0.ra k hk]
  have fr : FR b b6 := ((((((((((FR.refl b).step s0.rb).step s1.rb).put (by omega)).step s2.rb).step s3.rb).put (by omega)).step s4.rb).step s5.rb).put (k := 215) (j := 72 + 3 * m + 2) (x := z) (by omega)).put (k := 210) (j := 50) (x := b5 210 50 + 1) (by omega) |>.step s6.rb
  by_cases w : a6 2 1 = 0
  · rw [if_pos w]
    have w5 := s6.al w
    have w4 := s5.al w5
    have w3 := s4.al w4
    have w2 := s3.al w3
    have w1 := s2.al w2
    have ea : cl_spAdd20 a6 x y z = v2 (v2 (v2 (v2 a6 21 m x) 22 m y) 23 m z) 20 0 ((m : Int) + 1) := by
      unfold cl_spAdd20
      rw [A 20 (by omega), hm, if_pos (by omega), toN]
    rw [ea]
    have B : ∀ k : Nat, k ≠ 203 → k ≠ 210 → k ≠ 215 → b6 k = b k := fun k q1 q2 q3 => by rw [s6.rb k q1, v2_row q2, v2_row q3, s5.rb k q1, s4.rb k q1, v2_row q3, s3.rb k q1, s2.rb k q1, v2_row q3, s1.rb k q1, s0.rb k q1]
    have B5 : b5 210 = b 210 := by rw [s5.rb 210 (by omega), s4.rb 210 (by omega), v2_row (by omega), s3.rb 210 (by omega), s2.rb 210 (by omega), v2_row (by omega), s1.rb 210 (by omega), s0.rb 210 (by omega)]
    have B6 : ∀ j, b6 210 j = if j = 50 then b 210 50 + 1 else b 210 j := fun j => by
      rw [s6.rb 210 (by omega), v2_eq, v2_row (by omega), B5]
      by_cases e : j = 50 <;> simp [e]
    refine ⟨s6.r.of (by simp [v2_row]) (by simp [v2_row]) rfl rfl, fr, fun _ => ⟨d.fog (m := m) (x := x) (y := y) (z := z) hm (by omega) hn (fun j _ => by simp [v2_row, A 3]) (fun k hk => ?_) (by simp [v2_eq]) (fun i => by simp [v2_eq, A 21]) (fun i => by simp [v2_eq, A 22]) (fun i => by simp [v2_eq, A 23]) (fun k hk => B k (by omega) (by omega) (by omega)) (fun j hj => by rw [B6, if_neg hj]) (by rw [B6, if_pos rfl]) (fun j => ?_) ?_, ?_, by simp [v2_row, A 3]⟩⟩
    · rw [v2_row (by omega), v2_row (by omega), v2_row (by omega), v2_row (by omega), A k (by omega)]
    · rw [s6.rb 215 (by omega), v2_row (by omega), v2_eq, s5.rb 215 (by omega), s4.rb 215 (by omega), v2_eq, s3.rb 215 (by omega), s2.rb 215 (by omega), v2_eq, s1.rb 215 (by omega), s0.rb 215 (by omega)]
      simp
    · have h1 := g1 w1
      have h3 := g3 w3
      have h5 := g5 w5
      rw [s0.ra 7 (by omega)] at h1
      rw [s4.ra 3 (by omega), s3.ra 3 (by omega), s2.ra 3 (by omega), s1.ra 3 (by omega), s0.ra 3 (by omega)] at h5
      omega
    · have h6 := g6 w
      have := s0.mo
      have := s1.mo
      have := s2.mo
      have := s3.mo
      have := s4.mo
      have := s5.mo
      rw [v2_row (by omega), v2_row (by omega), v2_row (by omega), v2_row (by omega)]
      omega
  · rw [if_neg w]
    exact LN.dead h s6.r fr w
theorem ln_deaf {a b : VS} {n : Nat} (h : RT a b n) (d : DQ a b) (hn : a 3 2 ≠ 0) (hlt : a 24 0 < 6) : LN a b (cl_readSpell24 (cl_advance a) (((cl_advance a) 3 0) - 1)) (mo_ends (mo_span7 (mo_next b) ((mo_next b) 210 44))) n := by
  obtain ⟨m, hm⟩ := Int.eq_ofNat_of_zero_le d.G.2.1
  have hC := d.C
  have hS := d.S
  have hE := d.E
  have t0 := adv_st h
  have s0 := t0
  generalize cl_advance a = a0 at s0 ⊢
  generalize mo_next b = b0 at s0 ⊢
  unfold cl_readSpell24 mo_span7 mo_numberW
  dsimp only
  have k0 : ((3 : Int) * (24 + b0 210 51)).toNat = 72 + 3 * m := by rw [s0.rb 210 (by omega), ← d.G.1, hm]; omega
  have k1 : ((3 : Int) * (24 + b0 210 51) + 1).toNat = 72 + 3 * m + 1 := by rw [s0.rb 210 (by omega), ← d.G.1, hm]; omega
  have k2 : ((3 : Int) * (24 + b0 210 51) + 2).toNat = 72 + 3 * m + 2 := by rw [s0.rb 210 (by omega), ← d.G.1, hm]; omega
  have l1 : b0 210 44 = a0 3 0 := by rw [s0.rb 210 (by omega), s0.ra 3 (by omega)]; exact d.C.1.symm
  rw [k0, k1, k2, l1]
  obtain ⟨x, a1, b1, e1, e2, s1, g1⟩ := number_ok s0.r 0 (a0 3 0 - 1) (by rw [s0.ra 3 (by omega)]; omega)
  rw [e1, e2]
  dsimp only
  have s2 := wd_18 (s1.r.put (k := 216) (j := 72 + 3 * m) (x := x) (by omega) (by omega))
  generalize cl_word18 a1 = a2 at s2 ⊢
  generalize mo_asks (v2 b1 216 (72 + 3 * m) x) 131638 = b2 at s2 ⊢
  have l2 : b1 210 45 = a2 3 1 := by rw [s1.rb 210 (by omega), s0.rb 210 (by omega), s2.ra 3 (by omega), s1.ra 3 (by omega), s0.ra 3 (by omega)]; exact d.S.1.symm
  rw [l2]
  obtain ⟨y, a3, b3, e3, e4, s3, g3⟩ := number_ok s2.r 0 (a2 3 1 - 1) (by rw [s2.ra 3 (by omega), s1.ra 3 (by omega), s0.ra 3 (by omega)]; omega)
  rw [e3, e4]
  dsimp only
  have s4 := wd_19 (s3.r.put (k := 216) (j := 72 + 3 * m + 1) (x := y) (by omega) (by omega))
  generalize cl_word19 a3 = a4 at s4 ⊢
  generalize mo_asks (v2 b3 216 (72 + 3 * m + 1) y) 555 = b4 at s4 ⊢
  have l3 : b3 210 45 = a4 3 1 := by rw [s3.rb 210 (by omega), s2.rb 210 (by omega), v2_row (by omega), s1.rb 210 (by omega), s0.rb 210 (by omega), s4.ra 3 (by omega), s3.ra 3 (by omega), s2.ra 3 (by omega), s1.ra 3 (by omega), s0.ra 3 (by omega)]; exact d.S.1.symm
  rw [l3]
  obtain ⟨z, a5, b5, e5, e6, s5, g5⟩ := number_ok s4.r y (a4 3 1 - 1) (by rw [s4.ra 3 (by omega), s3.ra 3 (by omega), s2.ra 3 (by omega), s1.ra 3 (by omega), s0.ra 3 (by omega)]; omega)
  rw [e5, e6]
  dsimp only
  obtain ⟨s6, g6⟩ := stop_ok ((s5.r.put (k := 216) (j := 72 + 3 * m + 2) (x := z) (by omega) (by omega)).put (k := 210) (j := 51) (x := b5 210 51 + 1) (by omega) (by omega))
  generalize cl_stop a5 = a6 at s6 g6 ⊢
  generalize mo_ends _ = b6 at s6 ⊢
  have A : ∀ k : Nat, k ≠ 2 → a6 k = a k := fun k hk => by rw [s6.ra k hk, s5.ra k hk, s4.ra k hk, s3.ra k hk, s2.ra k hk, s1.ra k hk, s0.ra k hk]
  have fr : FR b b6 := ((((((((((FR.refl b).step s0.rb).step s1.rb).put (by omega)).step s2.rb).step s3.rb).put (by omega)).step s4.rb).step s5.rb).put (k := 216) (j := 72 + 3 * m + 2) (x := z) (by omega)).put (k := 210) (j := 51) (x := b5 210 51 + 1) (by omega) |>.step s6.rb
  by_cases w : a6 2 1 = 0
  · rw [if_pos w]
    have w5 := s6.al w
    have w4 := s5.al w5
    have w3 := s4.al w4
    have w2 := s3.al w3
    have w1 := s2.al w2
    have ea : cl_spAdd24 a6 x y z = v2 (v2 (v2 (v2 a6 25 m x) 26 m y) 27 m z) 24 0 ((m : Int) + 1) := by
      unfold cl_spAdd24
      rw [A 24 (by omega), hm, if_pos (by omega), toN]
    rw [ea]
    have B : ∀ k : Nat, k ≠ 203 → k ≠ 210 → k ≠ 216 → b6 k = b k := fun k q1 q2 q3 => by rw [s6.rb k q1, v2_row q2, v2_row q3, s5.rb k q1, s4.rb k q1, v2_row q3, s3.rb k q1, s2.rb k q1, v2_row q3, s1.rb k q1, s0.rb k q1]
    have B5 : b5 210 = b 210 := by rw [s5.rb 210 (by omega), s4.rb 210 (by omega), v2_row (by omega), s3.rb 210 (by omega), s2.rb 210 (by omega), v2_row (by omega), s1.rb 210 (by omega), s0.rb 210 (by omega)]
    have B6 : ∀ j, b6 210 j = if j = 51 then b 210 51 + 1 else b 210 j := fun j => by
      rw [s6.rb 210 (by omega), v2_eq, v2_row (by omega), B5]
      by_cases e : j = 51 <;> simp [e]
    refine ⟨s6.r.of (by simp [v2_row]) (by simp [v2_row]) rfl rfl, fr, fun _ => ⟨d.deaf (m := m) (x := x) (y := y) (z := z) hm (by omega) hn (fun j _ => by simp [v2_row, A 3]) (fun k hk => ?_) (by simp [v2_eq]) (fun i => by simp [v2_eq, A 25]) (fun i => by simp [v2_eq, A 26]) (fun i => by simp [v2_eq, A 27]) (fun k hk => B k (by omega) (by omega) (by omega)) (fun j hj => by rw [B6, if_neg hj]) (by rw [B6, if_pos rfl]) (fun j => ?_) ?_, ?_, by simp [v2_row, A 3]⟩⟩
    · rw [v2_row (by omega), v2_row (by omega), v2_row (by omega), v2_row (by omega), A k (by omega)]
    · rw [s6.rb 216 (by omega), v2_row (by omega), v2_eq, s5.rb 216 (by omega), s4.rb 216 (by omega), v2_eq, s3.rb 216 (by omega), s2.rb 216 (by omega), v2_eq, s1.rb 216 (by omega), s0.rb 216 (by omega)]
      simp
    · have h1 := g1 w1
      have h3 := g3 w3
      have h5 := g5 w5
      rw [s0.ra 3 (by omega)] at h1
      rw [s4.ra 3 (by omega), s3.ra 3 (by omega), s2.ra 3 (by omega), s1.ra 3 (by omega), s0.ra 3 (by omega)] at h5
      omega
    · have h6 := g6 w
      have := s0.mo
      have := s1.mo
      have := s2.mo
      have := s3.mo
      have := s4.mo
      have := s5.mo
      rw [v2_row (by omega), v2_row (by omega), v2_row (by omega), v2_row (by omega)]
      omega
  · rw [if_neg w]
    exact LN.dead h s6.r fr w
theorem ln_funeral {a b : VS} {n : Nat} (h : RT a b n) (d : DQ a b) (hn : a 3 2 ≠ 0) (hlt : a 28 0 < 6) : LN a b (cl_readSpell28 (cl_word15 (cl_advance a)) (((cl_word15 (cl_advance a)) 3 0) - 1)) (mo_ends (mo_span8 (mo_asks (mo_next b) 47) ((mo_asks (mo_next b) 47) 210 44))) n := by
  obtain ⟨m, hm⟩ := Int.eq_ofNat_of_zero_le d.H.2.1
  have hC := d.C
  have hS := d.S
  have hE := d.E
  have t0 := adv_st h
  have t1 := wd_15 t0.r
  have s0 : ST a b (cl_word15 (cl_advance a)) (mo_asks (mo_next b) 47) n := ⟨t1.r, fun y => t0.al (t1.al y), Int.le_trans t0.mo t1.mo, fun k hk => (t1.ra k hk).trans (t0.ra k hk), fun k hk => (t1.rb k hk).trans (t0.rb k hk)⟩
  generalize cl_word15 (cl_advance a) = a0 at s0 ⊢
  generalize mo_asks (mo_next b) 47 = b0 at s0 ⊢
  unfold cl_readSpell28 mo_span8 mo_numberW
  dsimp only
  have k0 : ((3 : Int) * (24 + b0 210 52)).toNat = 72 + 3 * m := by rw [s0.rb 210 (by omega), ← d.H.1, hm]; omega
  have k1 : ((3 : Int) * (24 + b0 210 52) + 1).toNat = 72 + 3 * m + 1 := by rw [s0.rb 210 (by omega), ← d.H.1, hm]; omega
  have k2 : ((3 : Int) * (24 + b0 210 52) + 2).toNat = 72 + 3 * m + 2 := by rw [s0.rb 210 (by omega), ← d.H.1, hm]; omega
  have l1 : b0 210 44 = a0 3 0 := by rw [s0.rb 210 (by omega), s0.ra 3 (by omega)]; exact d.C.1.symm
  rw [k0, k1, k2, l1]
  obtain ⟨x, a1, b1, e1, e2, s1, g1⟩ := number_ok s0.r 0 (a0 3 0 - 1) (by rw [s0.ra 3 (by omega)]; omega)
  rw [e1, e2]
  dsimp only
  have s2 := wd_18 (s1.r.put (k := 217) (j := 72 + 3 * m) (x := x) (by omega) (by omega))
  generalize cl_word18 a1 = a2 at s2 ⊢
  generalize mo_asks (v2 b1 217 (72 + 3 * m) x) 131638 = b2 at s2 ⊢
  have l2 : b1 210 45 = a2 3 1 := by rw [s1.rb 210 (by omega), s0.rb 210 (by omega), s2.ra 3 (by omega), s1.ra 3 (by omega), s0.ra 3 (by omega)]; exact d.S.1.symm
  rw [l2]
  obtain ⟨y, a3, b3, e3, e4, s3, g3⟩ := number_ok s2.r 0 (a2 3 1 - 1) (by rw [s2.ra 3 (by omega), s1.ra 3 (by omega), s0.ra 3 (by omega)]; omega)
  rw [e3, e4]
  dsimp only
  have s4 := wd_19 (s3.r.put (k := 217) (j := 72 + 3 * m + 1) (x := y) (by omega) (by omega))
  generalize cl_word19 a3 = a4 at s4 ⊢
  generalize mo_asks (v2 b3 217 (72 + 3 * m + 1) y) 555 = b4 at s4 ⊢
  have l3 : b3 210 45 = a4 3 1 := by rw [s3.rb 210 (by omega), s2.rb 210 (by omega), v2_row (by omega), s1.rb 210 (by omega), s0.rb 210 (by omega), s4.ra 3 (by omega), s3.ra 3 (by omega), s2.ra 3 (by omega), s1.ra 3 (by omega), s0.ra 3 (by omega)]; exact d.S.1.symm
  rw [l3]
  obtain ⟨z, a5, b5, e5, e6, s5, g5⟩ := number_ok s4.r y (a4 3 1 - 1) (by rw [s4.ra 3 (by omega), s3.ra 3 (by omega), s2.ra 3 (by omega), s1.ra 3 (by omega), s0.ra 3 (by omega)]; omega)
  rw [e5, e6]
  dsimp only
  obtain ⟨s6, g6⟩ := stop_ok ((s5.r.put (k := 217) (j := 72 + 3 * m + 2) (x := z) (by omega) (by omega)).put (k := 210) (j := 52) (x := b5 210 52 + 1) (by omega) (by omega))
  generalize cl_stop a5 = a6 at s6 g6 ⊢
  generalize mo_ends _ = b6 at s6 ⊢
  have A : ∀ k : Nat, k ≠ 2 → a6 k = a k := fun k hk => by rw [s6.ra k hk, s5.ra k hk, s4.ra k hk, s3.ra k hk, s2.ra k hk, s1.ra k hk, s0.ra k hk]
  have fr : FR b b6 := ((((((((((FR.refl b).step s0.rb).step s1.rb).put (by omega)).step s2.rb).step s3.rb).put (by omega)).step s4.rb).step s5.rb).put (k := 217) (j := 72 + 3 * m + 2) (x := z) (by omega)).put (k := 210) (j := 52) (x := b5 210 52 + 1) (by omega) |>.step s6.rb
  by_cases w : a6 2 1 = 0
  · rw [if_pos w]
    have w5 := s6.al w
    have w4 := s5.al w5
    have w3 := s4.al w4
    have w2 := s3.al w3
    have w1 := s2.al w2
    have ea : cl_spAdd28 a6 x y z = v2 (v2 (v2 (v2 a6 29 m x) 30 m y) 31 m z) 28 0 ((m : Int) + 1) := by
      unfold cl_spAdd28
      rw [A 28 (by omega), hm, if_pos (by omega), toN]
    rw [ea]
    have B : ∀ k : Nat, k ≠ 203 → k ≠ 210 → k ≠ 217 → b6 k = b k := fun k q1 q2 q3 => by rw [s6.rb k q1, v2_row q2, v2_row q3, s5.rb k q1, s4.rb k q1, v2_row q3, s3.rb k q1, s2.rb k q1, v2_row q3, s1.rb k q1, s0.rb k q1]
    have B5 : b5 210 = b 210 := by rw [s5.rb 210 (by omega), s4.rb 210 (by omega), v2_row (by omega), s3.rb 210 (by omega), s2.rb 210 (by omega), v2_row (by omega), s1.rb 210 (by omega), s0.rb 210 (by omega)]
    have B6 : ∀ j, b6 210 j = if j = 52 then b 210 52 + 1 else b 210 j := fun j => by
      rw [s6.rb 210 (by omega), v2_eq, v2_row (by omega), B5]
      by_cases e : j = 52 <;> simp [e]
    refine ⟨s6.r.of (by simp [v2_row]) (by simp [v2_row]) rfl rfl, fr, fun _ => ⟨d.funeral (m := m) (x := x) (y := y) (z := z) hm (by omega) hn (fun j _ => by simp [v2_row, A 3]) (fun k hk => ?_) (by simp [v2_eq]) (fun i => by simp [v2_eq, A 29]) (fun i => by simp [v2_eq, A 30]) (fun i => by simp [v2_eq, A 31]) (fun k hk => B k (by omega) (by omega) (by omega)) (fun j hj => by rw [B6, if_neg hj]) (by rw [B6, if_pos rfl]) (fun j => ?_) ?_, ?_, by simp [v2_row, A 3]⟩⟩
    · rw [v2_row (by omega), v2_row (by omega), v2_row (by omega), v2_row (by omega), A k (by omega)]
    · rw [s6.rb 217 (by omega), v2_row (by omega), v2_eq, s5.rb 217 (by omega), s4.rb 217 (by omega), v2_eq, s3.rb 217 (by omega), s2.rb 217 (by omega), v2_eq, s1.rb 217 (by omega), s0.rb 217 (by omega)]
      simp
    · have h1 := g1 w1
      have h3 := g3 w3
      have h5 := g5 w5
      rw [s0.ra 3 (by omega)] at h1
      rw [s4.ra 3 (by omega), s3.ra 3 (by omega), s2.ra 3 (by omega), s1.ra 3 (by omega), s0.ra 3 (by omega)] at h5
      omega
    · have h6 := g6 w
      have := s0.mo
      have := s1.mo
      have := s2.mo
      have := s3.mo
      have := s4.mo
      have := s5.mo
      rw [v2_row (by omega), v2_row (by omega), v2_row (by omega), v2_row (by omega)]
      omega
  · rw [if_neg w]
    exact LN.dead h s6.r fr w
