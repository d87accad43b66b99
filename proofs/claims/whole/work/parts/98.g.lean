
/-! church, ear, wind -/
theorem mfail_bad {b : VS} {k : Int} (hk : k ≠ 0) : (mo_fails b k) 203 12 ≠ 0 := by
  unfold mo_fails
  split
  · simp [v2_eq, hk]
  · assumption
theorem church_dead {a : VS} (h : a 2 1 ≠ 0) (w s : Int) : cl_readChurch_76 a w s = a := by
  unfold cl_readChurch_76
  rw [wdd_7 h, number_dead h, stop_dead h, if_neg h]
theorem ch_tail {a b a1 b2 : VS} {n m : Nat} {w s : Int} (h : RT a b n) (d : DQ a b) (hm : a 3 3 = m) (hlt : a 3 3 < a 3 0) (hn : a 3 2 ≠ 0) (r : RT a1 b2 n) (mo : a 2 6 ≤ a1 2 6) (ra : ∀ k : Nat, k ≠ 2 → a1 k = a k) (rb : ∀ k : Nat, k ≠ 203 → k ≠ 211 → b2 k = b k) (fr0 : FR b b2) (rr : ∀ j, b2 211 j = if j = 108 + 3 * m + 1 then s else if j = 108 + 3 * m then w else b 211 j) : LN a b (cl_readChurch_76 a1 w s) (mo_ends (v2 (v2 (mo_numberW b2 9678763 0 99).2 211 (108 + 3 * m + 2) (mo_numberW b2 9678763 0 99).1) 210 46 ((mo_numberW b2 9678763 0 99).2 210 46 + 1))) n := by
  have hC := d.C
  unfold cl_readChurch_76 mo_numberW
  dsimp only
  have s4 := wd_7 r
  generalize cl_word7 a1 = a4 at s4 ⊢
  generalize mo_asks b2 9678763 = b4 at s4 ⊢
  obtain ⟨z, a5, b5, e5, e6, s5, g5⟩ := number_ok s4.r 0 99 (by omega)
  rw [e5, e6]
  dsimp only
  obtain ⟨s6, g6⟩ := stop_ok ((s5.r.put (k := 211) (j := 108 + 3 * m + 2) (x := z) (by omega) (by omega)).put (k := 210) (j := 46) (x := b5 210 46 + 1) (by omega) (by omega))
  generalize cl_stop a5 = a6 at s6 g6 ⊢
  generalize mo_ends _ = b6 at s6 ⊢
  have A : ∀ k : Nat, k ≠ 2 → a6 k = a k := fun k hk => by rw [s6.ra k hk, s5.ra k hk, s4.ra k hk, ra k hk]
  have fr : FR b b6 := (((fr0.step s4.rb).step s5.rb).put (k := 211) (j := 108 + 3 * m + 2) (x := z) (by omega)).put (k := 210) (j := 46) (x := b5 210 46 + 1) (by omega) |>.step s6.rb
  by_cases y : a6 2 1 = 0
  · rw [if_pos y]
    have ea : cl_describe a6 w s z = v2 (v2 (v2 (v2 a6 4 m w) 5 m s) 6 m z) 3 3 ((m : Int) + 1) := by
      unfold cl_describe
      rw [A 3 (by omega), hm, if_pos (by omega), toN]
    rw [ea]
    have B : ∀ k : Nat, k ≠ 203 → k ≠ 210 → k ≠ 211 → b6 k = b k := fun k q1 q2 q3 => by rw [s6.rb k q1, v2_row q2, v2_row q3, s5.rb k q1, s4.rb k q1, rb k q1 q3]
    have B5 : b5 210 = b 210 := by rw [s5.rb 210 (by omega), s4.rb 210 (by omega), rb 210 (by omega) (by omega)]
    have B6 : ∀ j, b6 210 j = if j = 46 then b 210 46 + 1 else b 210 j := fun j => by
      rw [s6.rb 210 (by omega), v2_eq, v2_row (by omega), B5]
      by_cases e : j = 46 <;> simp [e]
    refine ⟨s6.r.of (by simp [v2_row]) (by simp [v2_row]) rfl rfl, fr, fun _ => ⟨d.church (m := m) (x := w) (y := s) (z := z) hm hlt hn (fun j hj => by simp [v2_eq, A 3, hj]) (fun k hk => ?_) (by simp [v2_eq]) (fun i => by simp [v2_eq, A 4]) (fun i => by simp [v2_eq, A 5]) (fun i => by simp [v2_eq, A 6]) (fun k hk => B k (by omega) (by omega) (by omega)) (fun j hj => by rw [B6, if_neg hj]) (by rw [B6, if_pos rfl]) (fun j => ?_), ?_, by simp [v2_eq, A 3]⟩⟩
    · rw [v2_row (by omega), v2_row (by omega), v2_row (by omega), v2_row (by omega), A k (by omega)]
    · rw [s6.rb 211 (by omega), v2_row (by omega), v2_eq, s5.rb 211 (by omega), s4.rb 211 (by omega), rr]
      simp
    · have h6 := g6 y
      have := s4.mo
      have := s5.mo
      rw [v2_row (by omega), v2_row (by omega), v2_row (by omega), v2_row (by omega)]
      omega
  · rw [if_neg y]
    exact LN.dead h s6.r fr y
theorem ln_church {a b : VS} {n : Nat} (h : RT a b n) (d : DQ a b) (hal : a 2 1 = 0) (hn : a 3 2 ≠ 0) (hlt : a 3 3 < a 3 0) : LN a b (cl_readChurch a) (mo_ends (mo_churchLine (mo_next b))) n := by
  obtain ⟨m, hm⟩ := Int.eq_ofNat_of_zero_le d.D.2.1
  have hC := d.C
  have s0 := adv_st h
  have al0 : (cl_advance a) 2 1 = 0 := by rw [(adv_ok h).2.2, hal]
  unfold cl_readChurch mo_churchLine
  rw [begin_lt hlt]
  generalize cl_advance a = a0 at s0 al0 ⊢
  generalize mo_next b = b0 at s0 ⊢
  have bl0 : b0 203 12 = 0 := by rw [← s0.r.f]; exact al0
  have k0 : ((3 : Int) * (36 + b0 210 46)).toNat = 108 + 3 * m := by rw [s0.rb 210 (by omega), ← d.D.1, hm]; omega
  have k1 : ((3 : Int) * (36 + b0 210 46) + 1).toNat = 108 + 3 * m + 1 := by rw [s0.rb 210 (by omega), ← d.D.1, hm]; omega
  have k2 : ((3 : Int) * (36 + b0 210 46) + 2).toNat = 108 + 3 * m + 2 := by rw [s0.rb 210 (by omega), ← d.D.1, hm]; omega
  rw [at_4 s0.r, at_5 s0.r]
  have kk := s0.r.k
  by_cases c4 : b0 203 8 = 1 ∧ b0 203 11 = 237470
  · rw [if_pos (show a0 2 5 = 1 ∧ b0 203 11 = 237470 by omega), if_neg (show ¬ (1 : Int) = 0 by omega)]
    rw [if_neg (show ¬ (b0 203 12 = 0 ∧ b0 203 8 = 1 ∧ b0 203 11 = (2682144 : Int)) by omega), if_neg (show ¬ (b0 203 12 = 0 ∧ b0 203 8 = 1 ∧ b0 203 11 = (8868856 : Int)) by omega), if_pos (show b0 203 12 = 0 ∧ b0 203 8 = 1 ∧ b0 203 11 = (237470 : Int) by omega), if_pos bl0]
    unfold mo_churchLine_77
    rw [if_pos rfl, k0, k1, k2]
    have s1 := wd_4 s0.r
    rw [asks_at bl0 c4] at s1
    generalize cl_word4 a0 = a1 at s1 ⊢
    generalize mo_next b0 = b1 at s1 ⊢
    obtain ⟨x, a2, b2, e1, e2, s2, g2⟩ := number_ok (s1.r.put (k := 211) (j := 108 + 3 * m) (x := 2) (by omega) (by omega)) 1 60 (by omega)
    rw [e1, e2]
    dsimp only
    refine ch_tail (s := x) h d hm hlt hn (s2.r.put (by omega) (by omega)) ?_ (fun k hk => by rw [s2.ra k hk, s1.ra k hk, s0.ra k hk]) (fun k q1 q2 => by rw [v2_row q2, s2.rb k q1, v2_row q2, s1.rb k q1, s0.rb k q1]) ((((((FR.refl b).step s0.rb).step s1.rb).put (k := 211) (j := 108 + 3 * m) (x := 2) (by omega)).step s2.rb).put (by omega)) (fun j => ?_)
    · have := s0.mo
      have := s1.mo
      have := s2.mo
      omega
    · rw [v2_eq, s2.rb 211 (by omega), v2_eq, s1.rb 211 (by omega), s0.rb 211 (by omega)]
      simp
  · rw [if_neg (show ¬ (a0 2 5 = 1 ∧ b0 203 11 = 237470) by omega), if_pos rfl]
    by_cases c5 : b0 203 8 = 1 ∧ b0 203 11 = 8868856
    · rw [if_pos (show a0 2 5 = 1 ∧ b0 203 11 = 8868856 by omega), if_neg (show ¬ (1 : Int) = 0 by omega)]
      rw [if_neg (show ¬ (b0 203 12 = 0 ∧ b0 203 8 = 1 ∧ b0 203 11 = (2682144 : Int)) by omega), if_pos (show b0 203 12 = 0 ∧ b0 203 8 = 1 ∧ b0 203 11 = (8868856 : Int) by omega), if_pos bl0]
      unfold mo_churchLine_77
      rw [if_neg (show ¬ (1 : Int) = 2 by omega), k0, k1, k2]
      have s1 := wd_5 s0.r
      rw [asks_at bl0 c5] at s1
      generalize cl_word5 a0 = a1 at s1 ⊢
      generalize mo_next b0 = b1 at s1 ⊢
      refine ch_tail (s := 0) h d hm hlt hn ((s1.r.put (by omega) (by omega)).put (by omega) (by omega)) ?_ (fun k hk => by rw [s1.ra k hk, s0.ra k hk]) (fun k q1 q2 => by rw [v2_row q2, v2_row q2, s1.rb k q1, s0.rb k q1]) (((((FR.refl b).step s0.rb).step s1.rb).put (by omega)).put (by omega)) (fun j => ?_)
      · have := s0.mo
        have := s1.mo
        omega
      · rw [v2_eq, v2_eq, s1.rb 211 (by omega), s0.rb 211 (by omega)]
        simp
    · rw [if_neg (show ¬ (a0 2 5 = 1 ∧ b0 203 11 = 8868856) by omega), if_pos rfl]
      have s1 := wd_6 s0.r
      by_cases c6 : b0 203 8 = 1 ∧ b0 203 11 = 2682144
      · rw [if_pos (show b0 203 12 = 0 ∧ b0 203 8 = 1 ∧ b0 203 11 = (2682144 : Int) by omega), if_pos bl0]
        unfold mo_churchLine_77
        rw [if_neg (show ¬ (0 : Int) = 2 by omega), k0, k1, k2]
        rw [asks_at bl0 c6] at s1
        generalize cl_word6 a0 = a1 at s1 ⊢
        generalize mo_next b0 = b1 at s1 ⊢
        refine ch_tail (s := 0) h d hm hlt hn ((s1.r.put (by omega) (by omega)).put (by omega) (by omega)) ?_ (fun k hk => by rw [s1.ra k hk, s0.ra k hk]) (fun k q1 q2 => by rw [v2_row q2, v2_row q2, s1.rb k q1, s0.rb k q1]) (((((FR.refl b).step s0.rb).step s1.rb).put (by omega)).put (by omega)) (fun j => ?_)
        · have := s0.mo
          have := s1.mo
          omega
        · rw [v2_eq, v2_eq, s1.rb 211 (by omega), s0.rb 211 (by omega)]
          simp
      · rw [if_neg (show ¬ (b0 203 12 = 0 ∧ b0 203 8 = 1 ∧ b0 203 11 = (2682144 : Int)) by omega), if_neg (show ¬ (b0 203 12 = 0 ∧ b0 203 8 = 1 ∧ b0 203 11 = (8868856 : Int)) by omega), if_neg (show ¬ (b0 203 12 = 0 ∧ b0 203 8 = 1 ∧ b0 203 11 = (237470 : Int)) by omega), if_neg (mfail_bad (by omega))]
        rw [asks_not c6] at s1
        have dd : (cl_word6 a0) 2 1 ≠ 0 := by rw [s1.r.f]; exact mfail_bad (by omega)
        rw [church_dead dd, ends_dead (mfail_bad (by omega))]
        exact LN.dead h s1.r (((FR.refl b).step s0.rb).step s1.rb) dd
theorem way_dead {a : VS} (h : a 2 1 ≠ 0) : (cl_readWay a).2 = a := by
  unfold cl_readWay
  rw [wdd_11 h, wdd_12 h, wdd_13 h]
  split
  · split <;> rfl
  · rfl
theorem ear_end {a b a6 b6 : VS} {n m : Nat} {x y z w : Int} (h : RT a b n) (d : DQ a b) (hm : a 7 0 = m) (hlt : a 7 0 < 12) (hn : a 3 2 ≠ 0) (r : RT a6 b6 n) (g6 : a6 2 1 = 0 → a 2 6 < a6 2 6) (A : ∀ k : Nat, k ≠ 2 → a6 k = a k) (B : ∀ k : Nat, k ≠ 203 → k ≠ 210 → k ≠ 212 → b6 k = b k) (fr : FR b b6) (B6 : ∀ j, b6 210 j = if j = 47 then b 210 47 + 1 else b 210 j) (rr : a6 2 1 = 0 → ∀ j, b6 212 j = if j = 192 + 4 * m + 3 then w else if j = 192 + 4 * m + 2 then z else if j = 192 + 4 * m + 1 then y else if j = 192 + 4 * m then x else b 212 j) (hb : a6 2 1 = 0 → x < a 3 0 ∧ y < a 3 0 ∧ 1 ≤ z) : LN a b (if a6 2 1 = 0 then cl_eaAdd a6 x y z w else a6) b6 n := by
  have hC := d.C
  by_cases q : a6 2 1 = 0
  · rw [if_pos q]
    have ea : cl_eaAdd a6 x y z w = v2 (v2 (v2 (v2 (v2 a6 8 m x) 9 m y) 10 m z) 11 m w) 7 0 ((m : Int) + 1) := by
      unfold cl_eaAdd
      rw [A 7 (by omega), hm, if_pos (by omega), toN]
    rw [ea]
    refine ⟨r.of (by simp [v2_row]) (by simp [v2_row]) rfl rfl, fr, fun _ => ⟨d.ear (m := m) (x := x) (y := y) (z := z) (w := w) hm (by omega) hn (fun j _ => by simp [v2_row, A 3]) (fun k hk => ?_) (by simp [v2_eq]) (fun i => by simp [v2_eq, A 8]) (fun i => by simp [v2_eq, A 9]) (fun i => by simp [v2_eq, A 10]) (fun i => by simp [v2_eq, A 11]) (fun k hk => B k (by omega) (by omega) (by omega)) (fun j hj => by rw [B6, if_neg hj]) (by rw [B6, if_pos rfl]) (rr q) (hb q), ?_, by simp [v2_row, A 3]⟩⟩
    · rw [v2_row (by omega), v2_row (by omega), v2_row (by omega), v2_row (by omega), v2_row (by omega), A k (by omega)]
    · rw [v2_row (by omega), v2_row (by omega), v2_row (by omega), v2_row (by omega), v2_row (by omega)]
      exact g6 q
  · rw [if_neg q]
    exact LN.dead h r fr q
theorem earTail {a b a3 b3 : VS} {n m : Nat} {x : Int} (h : RT a b n) (d : DQ a b) (hm : a 7 0 = m) (hlt : a 7 0 < 12) (hn : a 3 2 ≠ 0) (r : RT a3 b3 n) (mo : a 2 6 ≤ a3 2 6) (ra : ∀ k : Nat, k ≠ 2 → a3 k = a k) (rb : ∀ k : Nat, k ≠ 203 → k ≠ 212 → b3 k = b k) (fr0 : FR b b3) (rr : ∀ j, b3 212 j = if j = 192 + 4 * m then x else b 212 j) (hx : a3 2 1 = 0 → x < a 3 0) (k : Int) (hk : k = 4 * (48 + (m : Int))) : LN a b (cl_readEar_65 a3 x) (mo_ends (mo_earLine_61 b3 k)) n := by
  have hC := d.C
  have k1 : (k + 1).toNat = 192 + 4 * m + 1 := by omega
  have k2 : (k + 2).toNat = 192 + 4 * m + 2 := by omega
  have k3 : (k + 3).toNat = 192 + 4 * m + 3 := by omega
  unfold cl_readEar_65 mo_earLine_61 mo_churchHere mo_numberW
  dsimp only
  have l1 : b3 210 44 = a3 3 0 := by rw [rb 210 (by omega) (by omega), ra 3 (by omega)]; exact d.C.1.symm
  rw [k1, k2, l1]
  obtain ⟨y, a4, b4, e1, e2, s4, g4⟩ := number_ok r 0 (a3 3 0 - 1) (by rw [ra 3 (by omega)]; omega)
  rw [e1, e2]
  dsimp only
  have s5 := wd_10 (s4.r.put (k := 212) (j := 192 + 4 * m + 1) (x := y) (by omega) (by omega))
  generalize cl_word10 a4 = a5 at s5 ⊢
  generalize mo_asks (v2 b4 212 (192 + 4 * m + 1) y) 10656676 = b5 at s5 ⊢
  obtain ⟨z, a6, b6, e3, e4, s6, g6⟩ := number_ok s5.r 1 60 (by omega)
  rw [e3, e4]
  dsimp only
  have r6 := s6.r.put (k := 212) (j := 192 + 4 * m + 2) (x := z) (by omega) (by omega)
  have fr6 : FR b (v2 b6 212 (192 + 4 * m + 2) z) := ((((fr0.step s4.rb).put (k := 212) (j := 192 + 4 * m + 1) (x := y) (by omega)).step s5.rb).step s6.rb).put (by omega)
  have c12 : ∀ j, (v2 b6 212 (192 + 4 * m + 2) z) 212 j = if j = 192 + 4 * m + 2 then z else if j = 192 + 4 * m + 1 then y else if j = 192 + 4 * m then x else b 212 j := fun j => by
    rw [v2_eq, s6.rb 212 (by omega), s5.rb 212 (by omega), v2_eq, s4.rb 212 (by omega), rr]
    simp
  have R6 : ∀ k : Nat, k ≠ 203 → k ≠ 212 → (v2 b6 212 (192 + 4 * m + 2) z) k = b k := fun k q1 q2 => by rw [v2_row q2, s6.rb k q1, s5.rb k q1, v2_row q2, s4.rb k q1, rb k q1 q2]
  have A6 : ∀ k : Nat, k ≠ 2 → a6 k = a k := fun k q => by rw [s6.ra k q, s5.ra k q, s4.ra k q, ra k q]
  have M6 : a 2 6 ≤ a6 2 6 := by
    have := s4.mo
    have := s5.mo
    have := s6.mo
    omega
  have H6 : a6 2 1 = 0 → x < a 3 0 ∧ y < a 3 0 ∧ 1 ≤ z := fun q => by
    have q5 := s6.al q
    have q4 := s5.al q5
    have h3 := hx (s4.al q4)
    have h4 := g4 q4
    have h6 := g6 q
    rw [ra 3 (by omega)] at h4
    omega
  generalize (v2 b6 212 (192 + 4 * m + 2) z) = b7 at r6 fr6 c12 R6 ⊢
  have fin : ∀ (w : Int) (a8 : VS), ST a6 b7 a8 (mo_next b7) n → LN a b (if (cl_stop a8) 2 1 = 0 then cl_eaAdd (cl_stop a8) x y z w else cl_stop a8) (mo_ends (mo_earLine_153 b7 k w)) n := fun w a8 s8 => by
    unfold mo_earLine_153
    rw [k3]
    obtain ⟨s9, g9⟩ := stop_ok ((s8.r.put (k := 212) (j := 192 + 4 * m + 3) (x := w) (by omega) (by omega)).put (k := 210) (j := 47) (x := (mo_next b7) 210 47 + 1) (by omega) (by omega))
    refine ear_end h d hm hlt hn s9.r (fun q => ?_) (fun k q => by rw [s9.ra k q, s8.ra k q, A6 k q]) (fun k q1 q2 q3 => by rw [s9.rb k q1, v2_row q2, v2_row q3, s8.rb k q1, R6 k q1 q3]) ((((fr6.step s8.rb).put (by omega)).put (by omega)).step s9.rb) (fun j => ?_) (fun q j => ?_) (fun q => H6 (s8.al (s9.al q)))
    · have := g9 q
      have := s8.mo
      omega
    · rw [s9.rb 210 (by omega), v2_eq, v2_row (by omega), s8.rb 210 (by omega), R6 210 (by omega) (by omega)]
      by_cases e : j = 47 <;> simp [e]
    · rw [s9.rb 212 (by omega), v2_row (by omega), v2_eq, s8.rb 212 (by omega), c12]
      simp
  have deadly : ∀ (b8 : VS) (a8 : VS) (w : Int), RT a8 b8 n → FR b b8 → a8 2 1 ≠ 0 → LN a b (if (cl_stop a8) 2 1 = 0 then cl_eaAdd (cl_stop a8) x y z w else cl_stop a8) (mo_ends b8) n := fun b8 a8 w q1 q2 q3 => by
    rw [stop_dead q3, if_neg q3, ends_dead (by rw [← q1.f]; exact q3)]
    exact LN.dead h q1 q2 q3
  have kk := r6.k
  unfold mo_earLine_91
  by_cases al : a6 2 1 = 0
  · have bl : b7 203 12 = 0 := by rw [← r6.f]; exact al
    unfold cl_readWay
    rw [at_11 r6, at_12 r6]
    by_cases c11 : b7 203 8 = 1 ∧ b7 203 11 = 778957
    · rw [if_pos (show a6 2 5 = 1 ∧ b7 203 11 = 778957 by omega), if_neg (show ¬ (1 : Int) = 0 by omega)]
      rw [if_neg (show ¬ (b7 203 12 = 0 ∧ b7 203 8 = 1 ∧ b7 203 11 = (16308991 : Int)) by omega), if_pos (show b7 203 12 = 0 ∧ b7 203 8 = 1 ∧ b7 203 11 = (778957 : Int) by omega), if_pos bl]
      have s8 := wd_11 r6
      rw [asks_at bl c11] at s8
      exact fin 1 _ s8
    · rw [if_neg (show ¬ (a6 2 5 = 1 ∧ b7 203 11 = 778957) by omega), if_pos rfl]
      by_cases c12 : b7 203 8 = 1 ∧ b7 203 11 = 488582165
      · rw [if_pos (show a6 2 5 = 1 ∧ b7 203 11 = 488582165 by omega), if_neg (show ¬ (1 : Int) = 0 by omega)]
        rw [if_neg (show ¬ (b7 203 12 = 0 ∧ b7 203 8 = 1 ∧ b7 203 11 = (16308991 : Int)) by omega), if_neg (show ¬ (b7 203 12 = 0 ∧ b7 203 8 = 1 ∧ b7 203 11 = (778957 : Int)) by omega), if_pos (show b7 203 12 = 0 ∧ b7 203 8 = 1 ∧ b7 203 11 = (488582165 : Int) by omega), if_pos bl]
        have s8 := wd_12 r6
        rw [asks_at bl c12] at s8
        exact fin 2 _ s8
      · rw [if_neg (show ¬ (a6 2 5 = 1 ∧ b7 203 11 = 488582165) by omega), if_pos rfl]
        have s8 := wd_13 r6
        by_cases c13 : b7 203 8 = 1 ∧ b7 203 11 = 16308991
        · rw [if_pos (show b7 203 12 = 0 ∧ b7 203 8 = 1 ∧ b7 203 11 = (16308991 : Int) by omega), if_pos bl]
          rw [asks_at bl c13] at s8
          exact fin 0 _ s8
        · rw [if_neg (show ¬ (b7 203 12 = 0 ∧ b7 203 8 = 1 ∧ b7 203 11 = (16308991 : Int)) by omega), if_neg (show ¬ (b7 203 12 = 0 ∧ b7 203 8 = 1 ∧ b7 203 11 = (778957 : Int)) by omega), if_neg (show ¬ (b7 203 12 = 0 ∧ b7 203 8 = 1 ∧ b7 203 11 = (488582165 : Int)) by omega), if_neg (mfail_bad (by omega))]
          rw [asks_not c13] at s8
          exact deadly _ (cl_word13 a6) 0 s8.r (fr6.step s8.rb) (by rw [s8.r.f]; exact mfail_bad (by omega))
  · have bl : b7 203 12 ≠ 0 := by rw [← r6.f]; exact al
    rw [way_dead al, if_neg (show ¬ (b7 203 12 = 0 ∧ b7 203 8 = 1 ∧ b7 203 11 = (16308991 : Int)) from fun q => bl q.1), if_neg (show ¬ (b7 203 12 = 0 ∧ b7 203 8 = 1 ∧ b7 203 11 = (778957 : Int)) from fun q => bl q.1), if_neg (show ¬ (b7 203 12 = 0 ∧ b7 203 8 = 1 ∧ b7 203 11 = (488582165 : Int)) from fun q => bl q.1), mfail_dead bl, if_neg bl]
    exact deadly _ _ _ r6 fr6 al
theorem ln_ear {a b : VS} {n : Nat} (h : RT a b n) (d : DQ a b) (hn : a 3 2 ≠ 0) (hlt : a 7 0 < 12) : LN a b (cl_readEar a) (mo_ends (mo_earLine (mo_next b))) n := by
  obtain ⟨m, hm⟩ := Int.eq_ofNat_of_zero_le d.E.2.1
  have hC := d.C
  have s0 := adv_st h
  unfold cl_readEar mo_earLine mo_churchHere
  dsimp only
  rw [begin_lt hlt]
  generalize cl_advance a = a0 at s0 ⊢
  generalize mo_next b = b0 at s0 ⊢
  have k0 : ((4 : Int) * (48 + b0 210 47)).toNat = 192 + 4 * m := by rw [s0.rb 210 (by omega), ← d.E.1, hm]; omega
  have kx : (4 : Int) * (48 + b0 210 47) = 4 * (48 + (m : Int)) := by rw [s0.rb 210 (by omega), ← d.E.1, hm]
  have l1 : b0 210 44 = a0 3 0 := by rw [s0.rb 210 (by omega), s0.ra 3 (by omega)]; exact d.C.1.symm
  rw [k0, l1]
  obtain ⟨x, a1, b1, e1, e2, s1, g1⟩ := number_ok s0.r 0 (a0 3 0 - 1) (by rw [s0.ra 3 (by omega)]; omega)
  rw [e1, e2]
  dsimp only
  have s2 := wd_9 (s1.r.put (k := 212) (j := 192 + 4 * m) (x := x) (by omega) (by omega))
  have v12 : (mo_asks (v2 b1 212 (192 + 4 * m) x) 411) 212 (192 + 4 * m) = x := by rw [s2.rb 212 (by omega), v2_eq, if_pos ⟨rfl, rfl⟩]
  rw [v12]
  generalize cl_word9 a1 = a2 at s2 ⊢
  generalize mo_asks (v2 b1 212 (192 + 4 * m) x) 411 = b2 at s2 ⊢
  have A2 : ∀ k : Nat, k ≠ 2 → a2 k = a k := fun k hk => by rw [s2.ra k hk, s1.ra k hk, s0.ra k hk]
  have B2 : ∀ k : Nat, k ≠ 203 → k ≠ 212 → b2 k = b k := fun k q1 q2 => by rw [s2.rb k q1, v2_row q2, s1.rb k q1, s0.rb k q1]
  have F2 : FR b b2 := ((((FR.refl b).step s0.rb).step s1.rb).put (by omega)).step s2.rb
  have R2 : ∀ j, b2 212 j = if j = 192 + 4 * m then x else b 212 j := fun j => by
    rw [s2.rb 212 (by omega), v2_eq, s1.rb 212 (by omega), s0.rb 212 (by omega)]
    simp
  have M2 : a 2 6 ≤ a2 2 6 := by
    have := s0.mo
    have := s1.mo
    have := s2.mo
    omega
  have H2 : a2 2 1 = 0 → 0 ≤ x ∧ x < a 3 0 := fun q => by
    have := g1 (s2.al q)
    rw [s0.ra 3 (by omega)] at this
    omega
  have plain : LN a b (cl_readEar_65 a2 x) (mo_ends (mo_earLine_61 b2 (4 * (48 + b0 210 47)))) n := earTail h d hm hlt hn s2.r M2 A2 B2 F2 R2 (fun q => (H2 q).2) _ kx
  rw [← s2.r.f, ← s2.r.k]
  by_cases c1 : a2 2 1 = 0
  · rw [if_pos c1, if_pos c1]
    by_cases c2 : a2 2 5 = 2
    · rw [if_pos c2, if_pos c2]
      obtain ⟨u1, u2⟩ := s2.r.nu c2
      have := H2 c1
      by_cases c3 : b2 203 10 = x
      · rw [if_pos (show a2 2 8 = x by omega), if_pos c3]
        obtain ⟨f1, f2⟩ := fail_ok s2.r 2 (by omega)
        exact earTail h d hm hlt hn f1.r (Int.le_trans M2 f1.mo) (fun k q => by rw [f1.ra k q, A2 k q]) (fun k q1 q2 => by rw [f1.rb k q1, B2 k q1 q2]) (F2.step f1.rb) (fun j => by rw [f1.rb 212 (by omega), R2]) (fun q => absurd q f2) _ kx
      · rw [if_neg (show ¬ a2 2 8 = x by omega), if_neg c3]
        exact plain
    · rw [if_neg c2, if_neg c2]
      exact plain
  · rw [if_neg c1, if_neg c1]
    exact plain
