
/-! wind; a line as a whole -/
theorem wind_dead {a : VS} (h : a 2 1 ≠ 0) (s w : Int) : cl_readWind_59 a s w = a := by
  unfold cl_readWind_59
  rw [number_dead h, stop_dead h, if_neg h]
theorem wind_fin {a b a3 b3 : VS} {n m : Nat} {y : Int} (h : RT a b n) (d : DQ a b) (hm : a 16 0 = m) (hlt : a 16 0 < 6) (r : RT a3 b3 n) (mo : a 2 6 ≤ a3 2 6) (ra : ∀ k : Nat, k ≠ 2 → a3 k = a k) (rb : ∀ k : Nat, k ≠ 203 → k ≠ 214 → b3 k = b k) (fr0 : FR b b3) (rr : ∀ j, b3 214 j = if j = 48 + 2 * m then y else b 214 j) (s c : Int) (hs : (c = 0 ∧ s = 1) ∨ (c ≠ 0 ∧ s = 0)) (k : Int) (hk : k = 2 * (24 + (m : Int))) (b2 : VS) (hb2 : mo_next b2 = b3) : LN a b (cl_readWind_59 a3 y c) (mo_ends (mo_windLine_67 b2 k s)) n := by
  have k1 : (k + 1).toNat = 48 + 2 * m + 1 := by omega
  unfold cl_readWind_59 mo_windLine_67
  rw [hb2, k1]
  obtain ⟨x, a5, b5, e5, e6, s5, g5⟩ := number_ok r 0 20 (by omega)
  rw [e5, e6]
  dsimp only
  have gen : ∀ v : Int, LN a b (if (cl_stop a5) 2 1 = 0 then cl_spAdd16 (cl_stop a5) v y y else cl_stop a5) (mo_ends (v2 (v2 b5 214 (48 + 2 * m + 1) v) 210 49 (b5 210 49 + 1))) n := fun v => by
    obtain ⟨s6, g6⟩ := stop_ok ((s5.r.put (k := 214) (j := 48 + 2 * m + 1) (x := v) (by omega) (by omega)).put (k := 210) (j := 49) (x := b5 210 49 + 1) (by omega) (by omega))
    generalize cl_stop a5 = a6 at s6 g6 ⊢
    generalize mo_ends _ = b6 at s6 ⊢
    have A : ∀ k : Nat, k ≠ 2 → a6 k = a k := fun k hk => by rw [s6.ra k hk, s5.ra k hk, ra k hk]
    have fr : FR b b6 := ((fr0.step s5.rb).put (k := 214) (j := 48 + 2 * m + 1) (x := v) (by omega)).put (k := 210) (j := 49) (x := b5 210 49 + 1) (by omega) |>.step s6.rb
    by_cases w : a6 2 1 = 0
    · rw [if_pos w]
      have ea : cl_spAdd16 a6 v y y = v2 (v2 (v2 (v2 a6 17 m v) 18 m y) 19 m y) 16 0 ((m : Int) + 1) := by
        unfold cl_spAdd16
        rw [A 16 (by omega), hm, if_pos (by omega), toN]
      rw [ea]
      have B : ∀ k : Nat, k ≠ 203 → k ≠ 210 → k ≠ 214 → b6 k = b k := fun k q1 q2 q3 => by rw [s6.rb k q1, v2_row q2, v2_row q3, s5.rb k q1, rb k q1 q3]
      have B5 : b5 210 = b 210 := by rw [s5.rb 210 (by omega), rb 210 (by omega) (by omega)]
      have B6 : ∀ j, b6 210 j = if j = 49 then b 210 49 + 1 else b 210 j := fun j => by
        rw [s6.rb 210 (by omega), v2_eq, v2_row (by omega), B5]
        by_cases e : j = 49 <;> simp [e]
      refine ⟨s6.r.of (by simp [v2_row]) (by simp [v2_row]) rfl rfl, fr, fun _ => ⟨d.wind (m := m) (x := v) (y := y) hm (by omega) (fun j _ => by simp [v2_row, A 3]) (fun k hk => ?_) (by simp [v2_eq]) (fun i => by simp [v2_eq, A 17]) (fun i => by simp [v2_eq, A 18]) (fun k hk => B k (by omega) (by omega) (by omega)) (fun j hj => by rw [B6, if_neg hj]) (by rw [B6, if_pos rfl]) (fun j => ?_), ?_, by simp [v2_row, A 3]⟩⟩
      · rw [v2_row (by omega), v2_row (by omega), v2_row (by omega), v2_row (by omega), A k (by omega)]
      · rw [s6.rb 214 (by omega), v2_row (by omega), v2_eq, s5.rb 214 (by omega), rr]
        simp
      · have h6 := g6 w
        have := s5.mo
        rw [v2_row (by omega), v2_row (by omega), v2_row (by omega), v2_row (by omega)]
        omega
    · rw [if_neg w]
      exact LN.dead h s6.r fr w
  rcases hs with ⟨c0, c1⟩ | ⟨c0, c1⟩
  · rw [if_pos c0, if_neg (show ¬ s = 0 by omega)]
    exact gen x
  · rw [if_neg c0, if_pos c1]
    exact gen (-x)
theorem ln_wind {a b : VS} {n : Nat} (h : RT a b n) (d : DQ a b) (hlt : a 16 0 < 6) : LN a b (cl_readWind a) (mo_ends (mo_windLine (mo_next b))) n := by
  obtain ⟨m, hm⟩ := Int.eq_ofNat_of_zero_le d.W.2.1
  have hS := d.S
  have s0 := adv_st h
  unfold cl_readWind mo_windLine mo_numberW
  dsimp only
  rw [begin_lt hlt]
  generalize cl_advance a = a0 at s0 ⊢
  generalize mo_next b = b0 at s0 ⊢
  have k0 : ((2 : Int) * (24 + b0 210 49)).toNat = 48 + 2 * m := by rw [s0.rb 210 (by omega), ← d.W.1, hm]; omega
  have kx : (2 : Int) * (24 + b0 210 49) = 2 * (24 + (m : Int)) := by rw [s0.rb 210 (by omega), ← d.W.1, hm]
  have s1 := wd_15 s0.r
  generalize cl_word15 a0 = a1 at s1 ⊢
  generalize mo_asks b0 47 = b1 at s1 ⊢
  have l1 : b0 210 45 = a1 3 1 := by rw [s0.rb 210 (by omega), s1.ra 3 (by omega), s0.ra 3 (by omega)]; exact d.S.1.symm
  rw [k0, l1]
  obtain ⟨y, a2, b2, e1, e2, s2, g2⟩ := number_ok s1.r 0 (a1 3 1 - 1) (by rw [s1.ra 3 (by omega), s0.ra 3 (by omega)]; omega)
  rw [e1, e2]
  dsimp only
  have rp := s2.r.put (k := 214) (j := 48 + 2 * m) (x := y) (by omega) (by omega)
  have Fp : FR b (v2 b2 214 (48 + 2 * m) y) := ((((FR.refl b).step s0.rb).step s1.rb).step s2.rb).put (by omega)
  have A2 : ∀ k : Nat, k ≠ 2 → a2 k = a k := fun k hk => by rw [s2.ra k hk, s1.ra k hk, s0.ra k hk]
  have Bp : ∀ k : Nat, k ≠ 203 → k ≠ 214 → (v2 b2 214 (48 + 2 * m) y) k = b k := fun k q1 q2 => by rw [v2_row q2, s2.rb k q1, s1.rb k q1, s0.rb k q1]
  have Rp : ∀ j, (v2 b2 214 (48 + 2 * m) y) 214 j = if j = 48 + 2 * m then y else b 214 j := fun j => by
    rw [v2_eq, s2.rb 214 (by omega), s1.rb 214 (by omega), s0.rb 214 (by omega)]
    simp
  have P8 : (v2 b2 214 (48 + 2 * m) y) 203 = b2 203 := v2_row (by omega)
  have M2 : a 2 6 ≤ a2 2 6 := by
    have := s0.mo
    have := s1.mo
    have := s2.mo
    omega
  generalize (v2 b2 214 (48 + 2 * m) y) = b3 at rp Fp Bp Rp P8 ⊢
  have p12 : b3 203 12 = b2 203 12 := by rw [P8]
  have p8 : b3 203 8 = b2 203 8 := by rw [P8]
  have p11 : b3 203 11 = b2 203 11 := by rw [P8]
  have kk := rp.k
  by_cases al : a2 2 1 = 0
  · have bl : b3 203 12 = 0 := by rw [← rp.f]; exact al
    have bl2 : b2 203 12 = 0 := by omega
    rw [at_12 rp]
    by_cases c11 : b3 203 8 = 1 ∧ b3 203 11 = 778957
    · rw [if_neg (show ¬ (a2 2 5 = 1 ∧ b3 203 11 = 488582165) by omega), if_pos rfl, if_pos (show b2 203 12 = 0 ∧ b2 203 8 = 1 ∧ b2 203 11 = (778957 : Int) by omega), if_pos bl2]
      have s8 := wd_11 rp
      rw [asks_at bl c11] at s8
      exact wind_fin h d hm hlt s8.r (Int.le_trans M2 s8.mo) (fun k q => by rw [s8.ra k q, A2 k q]) (fun k q1 q2 => by rw [s8.rb k q1, Bp k q1 q2]) (Fp.step s8.rb) (fun j => by rw [s8.rb 214 (by omega), Rp]) 1 0 (Or.inl ⟨rfl, rfl⟩) _ kx _ rfl
    · rw [if_neg (show ¬ (b2 203 12 = 0 ∧ b2 203 8 = 1 ∧ b2 203 11 = (778957 : Int)) by omega)]
      by_cases c12 : b3 203 8 = 1 ∧ b3 203 11 = 488582165
      · rw [if_pos (show a2 2 5 = 1 ∧ b3 203 11 = 488582165 by omega), if_neg (show ¬ (1 : Int) = 0 by omega), if_pos (show b2 203 12 = 0 ∧ b2 203 8 = 1 ∧ b2 203 11 = (488582165 : Int) by omega), if_pos bl2]
        have s8 := wd_12 rp
        rw [asks_at bl c12] at s8
        exact wind_fin h d hm hlt s8.r (Int.le_trans M2 s8.mo) (fun k q => by rw [s8.ra k q, A2 k q]) (fun k q1 q2 => by rw [s8.rb k q1, Bp k q1 q2]) (Fp.step s8.rb) (fun j => by rw [s8.rb 214 (by omega), Rp]) 0 1 (Or.inr ⟨by omega, rfl⟩) _ kx _ rfl
      · rw [if_neg (show ¬ (a2 2 5 = 1 ∧ b3 203 11 = 488582165) by omega), if_pos rfl, if_neg (show ¬ (b2 203 12 = 0 ∧ b2 203 8 = 1 ∧ b2 203 11 = (488582165 : Int)) by omega), if_neg (mfail_bad (by omega))]
        have s8 := wd_11 rp
        rw [asks_not c11] at s8
        have dd : (cl_word11 a2) 2 1 ≠ 0 := by rw [s8.r.f]; exact mfail_bad (by omega)
        rw [wind_dead dd, ends_dead (mfail_bad (by omega))]
        exact LN.dead h s8.r (Fp.step s8.rb) dd
  · have bl : b3 203 12 ≠ 0 := by rw [← rp.f]; exact al
    rw [if_neg (show ¬ (b2 203 12 = 0 ∧ b2 203 8 = 1 ∧ b2 203 11 = (778957 : Int)) by omega), if_neg (show ¬ (b2 203 12 = 0 ∧ b2 203 8 = 1 ∧ b2 203 11 = (488582165 : Int)) by omega), mfail_dead bl, if_neg bl, ends_dead bl, wdd_11 al, wdd_12 al, wind_dead al, ite_self]
    exact LN.dead h rp Fp al
theorem line_ok {a b : VS} {n : Nat} (h : RT a b n) (d : DQ a b) (al : a 2 1 = 0) (hn : a 3 2 ≠ 0) : LN a b (cl_readLine a) (mo_ends (mo_line b)) n := by
  have bl : b 203 12 = 0 := by rw [← h.f]; exact al
  have kk := h.k
  obtain ⟨f3, d3⟩ := fail_ok h 3 (by omega)
  obtain ⟨f1, d1⟩ := fail_ok h 1 (by omega)
  have full : LN a b (cl_fail a 3) (mo_ends (mo_fails b 3)) n := by
    rw [ends_dead (mfail_bad (by omega))]
    exact LN.dead h f3.r ((FR.refl b).step f3.rb) d3
  have hD := d.D
  have hE := d.E
  have hT := d.T
  have hW := d.W
  have hF := d.F
  have hG := d.G
  have hH := d.H
  unfold cl_readLine mo_line
  rw [if_neg hn, at_3 h, at_8 h, at_14 h, at_16 h, at_20 h, at_21 h, at_22 h]
  by_cases c3 : b 203 8 = 1 ∧ b 203 11 = 47724803
  · rw [if_pos (show a 2 5 = 1 ∧ b 203 11 = 47724803 by omega), if_neg (show ¬ (1 : Int) = 0 by omega), if_pos (show b 203 12 = 0 ∧ b 203 8 = 1 ∧ b 203 11 = (47724803 : Int) from ⟨bl, c3⟩), if_pos bl]
    by_cases z : a 3 3 < a 3 0
    · rw [if_neg (show ¬ b 210 46 = b 210 44 by have := d.C; omega), if_pos bl]
      unfold mo_line_146
      rw [if_pos rfl]
      exact ln_church h d al hn z
    · rw [if_pos (show b 210 46 = b 210 44 by have := d.C; omega), if_neg (mfail_bad (by omega))]
      have e : cl_readChurch a = cl_fail a 3 := by
        unfold cl_readChurch
        rw [begin_ge z, wdd_4 d3, wdd_5 d3, wdd_6 d3, number_dead d3, church_dead d3, church_dead d3, church_dead d3, ite_self, ite_self]
      rw [e]
      exact full
  · rw [if_neg (show ¬ (a 2 5 = 1 ∧ b 203 11 = 47724803) by omega), if_pos rfl, if_neg (show ¬ (b 203 12 = 0 ∧ b 203 8 = 1 ∧ b 203 11 = (47724803 : Int)) from fun q => c3 q.2)]
    by_cases c8 : b 203 8 = 1 ∧ b 203 11 = 3690
    · rw [if_pos (show a 2 5 = 1 ∧ b 203 11 = 3690 by omega), if_neg (show ¬ (1 : Int) = 0 by omega), if_pos (show b 203 12 = 0 ∧ b 203 8 = 1 ∧ b 203 11 = (3690 : Int) from ⟨bl, c8⟩), if_pos bl]
      by_cases z : a 7 0 < 12
      · rw [if_neg (show ¬ b 210 47 = 12 by omega), if_pos bl]
        unfold mo_line_146
        rw [if_neg (show ¬ (3 : Int) = 2 by omega), if_pos rfl]
        exact ln_ear h d hn z
      · rw [if_pos (show b 210 47 = 12 by omega), if_neg (mfail_bad (by omega))]
        have e : cl_readEar a = cl_fail a 3 := by
          unfold cl_readEar cl_readEar_65
          rw [begin_ge z, number_dead d3]
          dsimp only
          rw [wdd_9 d3, if_neg d3, number_dead d3]
          dsimp only
          rw [wdd_10 d3, number_dead d3]
          dsimp only
          rw [way_dead d3, stop_dead d3, if_neg d3]
        rw [e]
        exact full
    · rw [if_neg (show ¬ (a 2 5 = 1 ∧ b 203 11 = 3690) by omega), if_pos rfl, if_neg (show ¬ (b 203 12 = 0 ∧ b 203 8 = 1 ∧ b 203 11 = (3690 : Int)) from fun q => c8 q.2)]
      by_cases c14 : b 203 8 = 1 ∧ b 203 11 = 459652
      · rw [if_pos (show a 2 5 = 1 ∧ b 203 11 = 459652 by omega), if_neg (show ¬ (1 : Int) = 0 by omega), if_neg (show ¬ (b 203 12 = 0 ∧ b 203 8 = 1 ∧ b 203 11 = (283291417 : Int)) by omega), if_pos (show b 203 12 = 0 ∧ b 203 8 = 1 ∧ b 203 11 = (459652 : Int) from ⟨bl, c14⟩), if_pos bl]
        by_cases z : a 16 0 < 6
        · rw [if_neg (show ¬ b 210 49 = 6 by omega), if_pos bl]
          unfold mo_line_146
          rw [if_neg (show ¬ (5 : Int) = 2 by omega), if_neg (show ¬ (5 : Int) = 3 by omega), if_neg (show ¬ (5 : Int) = 4 by omega), if_pos rfl]
          exact ln_wind h d z
        · rw [if_pos (show b 210 49 = 6 by omega), if_neg (mfail_bad (by omega))]
          have e : cl_readWind a = cl_fail a 3 := by
            unfold cl_readWind
            rw [begin_ge z, wdd_15 d3, number_dead d3]
            dsimp only
            rw [wdd_11 d3, wdd_12 d3, wind_dead d3, ite_self]
          rw [e]
          exact full
      · rw [if_neg (show ¬ (a 2 5 = 1 ∧ b 203 11 = 459652) by omega), if_pos rfl]
        by_cases c16 : b 203 8 = 1 ∧ b 203 11 = 4786
        · rw [if_pos (show a 2 5 = 1 ∧ b 203 11 = 4786 by omega), if_neg (show ¬ (1 : Int) = 0 by omega), if_neg (show ¬ (b 203 12 = 0 ∧ b 203 8 = 1 ∧ b 203 11 = (283291417 : Int)) by omega), if_neg (show ¬ (b 203 12 = 0 ∧ b 203 8 = 1 ∧ b 203 11 = (459652 : Int)) from fun q => c14 q.2), if_pos (show b 203 12 = 0 ∧ b 203 8 = 1 ∧ b 203 11 = (4786 : Int) from ⟨bl, c16⟩), if_pos bl]
          by_cases z : a 20 0 < 6
          · rw [if_neg (show ¬ b 210 50 = 6 by omega), if_pos bl, begin_lt z]
            unfold mo_line_146
            rw [if_neg (show ¬ (6 : Int) = 2 by omega), if_neg (show ¬ (6 : Int) = 3 by omega), if_neg (show ¬ (6 : Int) = 4 by omega), if_neg (show ¬ (6 : Int) = 5 by omega), if_pos rfl]
            exact ln_fog h d hn z
          · rw [if_pos (show b 210 50 = 6 by omega), if_neg (mfail_bad (by omega)), begin_ge z, wdd_17 d3]
            have e : ∀ g, cl_readSpell20 (cl_fail a 3) g = cl_fail a 3 := fun g => by
              unfold cl_readSpell20
              rw [number_dead d3]
              dsimp only
              rw [wdd_18 d3, number_dead d3]
              dsimp only
              rw [wdd_19 d3, number_dead d3]
              dsimp only
              rw [stop_dead d3, if_neg d3]
            rw [e]
            exact full
        · rw [if_neg (show ¬ (a 2 5 = 1 ∧ b 203 11 = 4786) by omega), if_pos rfl]
          by_cases c20 : b 203 8 = 1 ∧ b 203 11 = 82410
          · rw [if_pos (show a 2 5 = 1 ∧ b 203 11 = 82410 by omega), if_neg (show ¬ (1 : Int) = 0 by omega), if_neg (show ¬ (b 203 12 = 0 ∧ b 203 8 = 1 ∧ b 203 11 = (283291417 : Int)) by omega), if_neg (show ¬ (b 203 12 = 0 ∧ b 203 8 = 1 ∧ b 203 11 = (459652 : Int)) from fun q => c14 q.2), if_neg (show ¬ (b 203 12 = 0 ∧ b 203 8 = 1 ∧ b 203 11 = (4786 : Int)) from fun q => c16 q.2), if_pos (show b 203 12 = 0 ∧ b 203 8 = 1 ∧ b 203 11 = (82410 : Int) from ⟨bl, c20⟩), if_pos bl]
            by_cases z : a 24 0 < 6
            · rw [if_neg (show ¬ b 210 51 = 6 by omega), if_pos bl, begin_lt z]
              unfold mo_line_146
              rw [if_neg (show ¬ (7 : Int) = 2 by omega), if_neg (show ¬ (7 : Int) = 3 by omega), if_neg (show ¬ (7 : Int) = 4 by omega), if_neg (show ¬ (7 : Int) = 5 by omega), if_neg (show ¬ (7 : Int) = 6 by omega), if_pos rfl]
              exact ln_deaf h d hn z
            · rw [if_pos (show b 210 51 = 6 by omega), if_neg (mfail_bad (by omega)), begin_ge z]
              have e : ∀ g, cl_readSpell24 (cl_fail a 3) g = cl_fail a 3 := fun g => by
                unfold cl_readSpell24
                rw [number_dead d3]
                dsimp only
                rw [wdd_18 d3, number_dead d3]
                dsimp only
                rw [wdd_19 d3, number_dead d3]
                dsimp only
                rw [stop_dead d3, if_neg d3]
              rw [e]
              exact full
          · rw [if_neg (show ¬ (a 2 5 = 1 ∧ b 203 11 = 82410) by omega), if_pos rfl]
            by_cases c21 : b 203 8 = 1 ∧ b 203 11 = 2633401731
            · rw [if_pos (show a 2 5 = 1 ∧ b 203 11 = 2633401731 by omega), if_neg (show ¬ (1 : Int) = 0 by omega), if_neg (show ¬ (b 203 12 = 0 ∧ b 203 8 = 1 ∧ b 203 11 = (283291417 : Int)) by omega), if_neg (show ¬ (b 203 12 = 0 ∧ b 203 8 = 1 ∧ b 203 11 = (459652 : Int)) from fun q => c14 q.2), if_neg (show ¬ (b 203 12 = 0 ∧ b 203 8 = 1 ∧ b 203 11 = (4786 : Int)) from fun q => c16 q.2), if_neg (show ¬ (b 203 12 = 0 ∧ b 203 8 = 1 ∧ b 203 11 = (82410 : Int)) from fun q => c20 q.2), if_pos (show b 203 12 = 0 ∧ b 203 8 = 1 ∧ b 203 11 = (2633401731 : Int) from ⟨bl, c21⟩), if_pos bl]
              by_cases z : a 28 0 < 6
              · rw [if_neg (show ¬ b 210 52 = 6 by omega), if_pos bl, begin_lt z]
                unfold mo_line_146
                rw [if_neg (show ¬ (8 : Int) = 2 by omega), if_neg (show ¬ (8 : Int) = 3 by omega), if_neg (show ¬ (8 : Int) = 4 by omega), if_neg (show ¬ (8 : Int) = 5 by omega), if_neg (show ¬ (8 : Int) = 6 by omega), if_neg (show ¬ (8 : Int) = 7 by omega)]
                exact ln_funeral h d hn z
              · rw [if_pos (show b 210 52 = 6 by omega), if_neg (mfail_bad (by omega)), begin_ge z, wdd_15 d3]
                have e : ∀ g, cl_readSpell28 (cl_fail a 3) g = cl_fail a 3 := fun g => by
                  unfold cl_readSpell28
                  rw [number_dead d3]
                  dsimp only
                  rw [wdd_18 d3, number_dead d3]
                  dsimp only
                  rw [wdd_19 d3, number_dead d3]
                  dsimp only
                  rw [stop_dead d3, if_neg d3]
                rw [e]
                exact full
            · rw [if_neg (show ¬ (a 2 5 = 1 ∧ b 203 11 = 2633401731) by omega), if_pos rfl]
              by_cases c22 : b 203 8 = 1 ∧ b 203 11 = 283291417
              · rw [if_pos (show a 2 5 = 1 ∧ b 203 11 = 283291417 by omega), if_neg (show ¬ (1 : Int) = 0 by omega), if_pos (show b 203 12 = 0 ∧ b 203 8 = 1 ∧ b 203 11 = (283291417 : Int) from ⟨bl, c22⟩), if_pos bl]
                by_cases z : a 12 0 < 4
                · rw [if_neg (show ¬ b 210 48 = 4 by omega), if_pos bl]
                  unfold mo_line_146
                  rw [if_neg (show ¬ (4 : Int) = 2 by omega), if_neg (show ¬ (4 : Int) = 3 by omega), if_pos rfl]
                  exact ln_start h d hn z
                · rw [if_pos (show b 210 48 = 4 by omega), if_neg (mfail_bad (by omega))]
                  have e : cl_readStart a = cl_fail a 3 := by
                    unfold cl_readStart
                    rw [begin_ge z, number_dead d3]
                    dsimp only
                    rw [wdd_15 d3, number_dead d3]
                    dsimp only
                    rw [wdd_23 d3, number_dead d3]
                    dsimp only
                    rw [stop_dead d3, if_neg d3]
                  rw [e]
                  exact full
              · rw [if_neg (show ¬ (a 2 5 = 1 ∧ b 203 11 = 283291417) by omega), if_pos rfl, if_neg (show ¬ (b 203 12 = 0 ∧ b 203 8 = 1 ∧ b 203 11 = (283291417 : Int)) from fun q => c22 q.2), if_neg (show ¬ (b 203 12 = 0 ∧ b 203 8 = 1 ∧ b 203 11 = (459652 : Int)) from fun q => c14 q.2), if_neg (show ¬ (b 203 12 = 0 ∧ b 203 8 = 1 ∧ b 203 11 = (4786 : Int)) from fun q => c16 q.2), if_neg (show ¬ (b 203 12 = 0 ∧ b 203 8 = 1 ∧ b 203 11 = (82410 : Int)) from fun q => c20 q.2), if_neg (show ¬ (b 203 12 = 0 ∧ b 203 8 = 1 ∧ b 203 11 = (2633401731 : Int)) from fun q => c21 q.2), if_neg (mfail_bad (by omega)), if_neg (mfail_bad (by omega)), ends_dead (mfail_bad (by omega))]
                exact LN.dead h f1.r ((FR.refl b).step f1.rb) d1
