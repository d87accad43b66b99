
/-! the first line, and all lines -/
def mo_line0 (b : VS) : VS := mo_ends (v2 (mo_numberW (v2 (mo_numberW (mo_asks b 1510) 34791381541 1 9).2 210 44 (mo_numberW (mo_asks b 1510) 34791381541 1 9).1) 7434633727 1 300).2 210 45 (mo_numberW (v2 (mo_numberW (mo_asks b 1510) 34791381541 1 9).2 210 44 (mo_numberW (mo_asks b 1510) 34791381541 1 9).1) 7434633727 1 300).1)
theorem first_ok {a b : VS} {n : Nat} (h : RT a b n) (d : DQ a b) (hz : a 3 2 = 0) : RT (cl_readBay a) (mo_line0 b) n ∧ FR b (mo_line0 b) ∧ (cl_readBay a) 3 2 = 0 ∧ (mo_line0 b) 209 4 = 0 ∧ ((cl_readBay a) 2 1 = 0 → DQ (v2 (cl_readBay a) 3 2 1) (v2 (mo_line0 b) 209 4 1) ∧ a 2 6 < (cl_readBay a) 2 6) := by
  unfold cl_readBay mo_line0 mo_numberW
  dsimp only
  have s0 := wd_0 h
  generalize cl_word0 a = a0 at s0 ⊢
  generalize mo_asks b 1510 = b0 at s0 ⊢
  have s1 := wd_1 s0.r
  generalize cl_word1 a0 = a1 at s1 ⊢
  generalize mo_asks b0 34791381541 = b1 at s1 ⊢
  obtain ⟨x, a2, b2, e1, e2, s2, g2⟩ := number_ok s1.r 1 9 (by omega)
  rw [e1, e2]
  dsimp only
  have s3 := wd_2 (s2.r.put (k := 210) (j := 44) (x := x) (by omega) (by omega))
  generalize cl_word2 a2 = a3 at s3 ⊢
  generalize mo_asks (v2 b2 210 44 x) 7434633727 = b3 at s3 ⊢
  obtain ⟨y, a4, b4, e3, e4, s4, g4⟩ := number_ok s3.r 1 300 (by omega)
  rw [e3, e4]
  dsimp only
  obtain ⟨s5, g5⟩ := stop_ok (s4.r.put (k := 210) (j := 45) (x := y) (by omega) (by omega))
  generalize cl_stop a4 = a5 at s5 g5 ⊢
  generalize mo_ends _ = b5 at s5 ⊢
  have A : ∀ k : Nat, k ≠ 2 → a5 k = a k := fun k hk => by rw [s5.ra k hk, s4.ra k hk, s3.ra k hk, s2.ra k hk, s1.ra k hk, s0.ra k hk]
  have B : ∀ k : Nat, k ≠ 203 → k ≠ 210 → b5 k = b k := fun k q1 q2 => by rw [s5.rb k q1, v2_row q2, s4.rb k q1, s3.rb k q1, v2_row q2, s2.rb k q1, s1.rb k q1, s0.rb k q1]
  have B6 : ∀ j, b5 210 j = if j = 45 then y else if j = 44 then x else b 210 j := fun j => by
    rw [s5.rb 210 (by omega), v2_eq, s4.rb 210 (by omega), s3.rb 210 (by omega), v2_eq, s2.rb 210 (by omega), s1.rb 210 (by omega), s0.rb 210 (by omega)]
    simp
  have fr : FR b b5 := ((((((((FR.refl b).step s0.rb).step s1.rb).step s2.rb).put (k := 210) (j := 44) (x := x) (by omega)).step s3.rb).step s4.rb).put (k := 210) (j := 45) (x := y) (by omega)).step s5.rb
  have b9 : b5 209 4 = 0 := by rw [B 209 (by omega) (by omega), ← d.L, hz]
  by_cases w : a5 2 1 = 0
  · rw [if_pos w]
    refine ⟨s5.r.of (by simp [v2_row]) (by simp [v2_row]) rfl rfl, fr, by simp [v2_eq, A 3, hz], b9, fun _ => ⟨d.bay0 (a' := v2 (v2 a5 3 0 x) 3 1 y) (b' := b5) (x := x) (y := y) hz (fun j j1 j2 => by simp [v2_eq, A 3, j1, j2]) (fun k hk => ?_) (by simp [v2_eq]) (by simp [v2_eq]) (fun k hk => B k (by omega) (by omega)) (fun j j1 j2 => by rw [B6, if_neg j2, if_neg j1]) (by rw [B6, if_neg (by omega), if_pos rfl]) (by rw [B6, if_pos rfl]) ?_ ?_ _ rfl _ rfl, ?_⟩⟩
    · rw [v2_row (by omega), v2_row (by omega), A k (by omega)]
    · exact g2 (s3.al (s4.al (s5.al w)))
    · exact g4 (s5.al w)
    · have h6 := g5 w
      have := s0.mo
      have := s1.mo
      have := s2.mo
      have := s3.mo
      have := s4.mo
      rw [v2_row (by omega), v2_row (by omega)]
      omega
  · rw [if_neg w]
    exact ⟨s5.r, fr, by rw [A 3 (by omega), hz], b9, fun q => absurd q w⟩
theorem over12 (b : VS) : (mo_isOver b) 203 12 = b 203 12 := by
  unfold mo_isOver
  split <;> simp [v2_eq]
theorem bay13_go {f : Nat} {b : VS} (h0 : b 203 12 = 0) (h8 : b 203 8 ≠ 0) {E : VS} (hE : E = if b 209 4 = 0 then mo_line0 b else mo_ends (mo_line b)) : mo_bay_13 (f + 1) b = mo_bay_13 f (v2 E 209 4 (E 209 4 + 1)) := by
  rw [mo_bay_13, if_pos h0, if_neg h8]
  by_cases z : b 209 4 = 0
  · rw [if_pos z] at hE ⊢
    rw [hE]
    unfold mo_line0
    generalize mo_numberW (v2 (mo_numberW (mo_asks b 1510) 34791381541 1 9).2 210 44 (mo_numberW (mo_asks b 1510) 34791381541 1 9).1) 7434633727 1 300 = c
    by_cases y : c.2 203 12 = 0
    · rw [if_pos y]
    · rw [if_neg y, ends_dead (b := v2 c.2 210 45 c.1) (by rw [v2_row (by omega)]; exact y), v2_row (k := 210) (k' := 209) (by omega)]
  · rw [if_neg z] at hE ⊢
    rw [hE]
    by_cases y : (mo_line b) 203 12 = 0
    · rw [if_pos y]
    · rw [if_neg y, ends_dead y]
theorem read_loop {n : Nat} : ∀ (f i : Nat) (a b : VS), RT a b n → (a 2 1 = 0 → DQ a b ∧ a 3 2 = i ∧ (i : Int) ≤ a 2 6) → i ≤ n + 1 → 2001 < i + f → ∃ a' b', cl_read_43 f a i = ((if a' 2 1 = 0 then 1 else 0), a') ∧ mo_bay_13 f b = (if b' 203 12 = 0 then ((mo_copyBay (mo_isOver b') 4 0) 209 0, mo_copyBay (mo_isOver b') 4 0) else (-4, mo_isOver b')) ∧ RT a' b' n ∧ FR b b' ∧ (a' 2 1 = 0 → DQ a' b') := by
  intro f
  induction f with
  | zero => intro i a b h g i1 i2; have := h.tk.l; omega
  | succ f ih =>
    intro i a b h g i1 i2
    have hc := h.tk.c
    by_cases al : a 2 1 = 0
    · obtain ⟨d, g1, g2⟩ := g al
      have bl : b 203 12 = 0 := by rw [← h.f]; exact al
      by_cases k0 : a 2 5 = 0
      · refine ⟨a, b, ?_, ?_, h, FR.refl b, fun _ => d⟩
        · rw [cl_read_43, if_pos al, if_pos k0, if_pos al, ite_self]
        · rw [mo_bay_13, if_pos bl, if_pos (by rw [← h.k]; exact k0), over12, if_pos bl]
      · have st := h.st k0
        have lo := h.lo
        have eL := d.L
        rw [cl_read_43, hc, if_neg (show ¬ (n : Int) < i by omega), if_neg k0, if_pos al]
        rw [bay13_go bl (by rw [← h.k]; exact k0) rfl]
        by_cases z : a 3 2 = 0
        · obtain ⟨r, fr, r3, r9, q⟩ := first_ok h d z
          have er : cl_readLine a = cl_readBay a := by unfold cl_readLine; rw [if_pos z]
          rw [if_pos (show b 209 4 = 0 by omega), er, r3, r9, show (0 : Int) + 1 = 1 from rfl]
          have hi : i = 0 := by omega
          subst hi
          obtain ⟨a', b', o1, o2, o3, o4, o5⟩ := ih 1 (v2 (cl_readBay a) 3 2 1) (v2 (mo_line0 b) 209 4 1) (r.of (v2_row (by omega)) (v2_row (by omega)) (v2_row (by omega)) (v2_row (by omega))) (fun y => by
            rw [v2_row (by omega)] at y
            obtain ⟨q1, q2⟩ := q y
            refine ⟨q1, by rw [v2_eq, if_pos ⟨rfl, rfl⟩]; rfl, ?_⟩
            rw [v2_row (by omega)]
            omega) (by omega) (by omega)
          exact ⟨a', b', o1, o2, o3, (fr.put (k := 209) (j := 4) (x := 1) (by omega)).trans o4, o5⟩
        · have q := line_ok h d al z
          rw [if_neg (show ¬ b 209 4 = 0 by omega)]
          obtain ⟨a', b', o1, o2, o3, o4, o5⟩ := ih (i + 1) (v2 (cl_readLine a) 3 2 ((cl_readLine a) 3 2 + 1)) (v2 (mo_ends (mo_line b)) 209 4 ((mo_ends (mo_line b)) 209 4 + 1)) (q.r.of (v2_row (by omega)) (v2_row (by omega)) (v2_row (by omega)) (v2_row (by omega))) (fun y => by
            rw [v2_row (by omega)] at y
            obtain ⟨q1, q2, q3⟩ := q.al y
            have dz := d.z
            refine ⟨q1.more (q1.ps (by omega)) _ rfl _ rfl, by rw [v2_eq, if_pos ⟨rfl, rfl⟩]; omega, ?_⟩
            rw [v2_row (by omega)]
            omega) (by omega) (by omega)
          exact ⟨a', b', o1, o2, o3, (q.fr.put (k := 209) (j := 4) (by omega)).trans o4, o5⟩
    · have bl : b 203 12 ≠ 0 := by rw [← h.f]; exact al
      refine ⟨a, b, ?_, ?_, h, FR.refl b, fun y => absurd y al⟩
      · rw [cl_read_43, if_neg al, if_neg al, if_neg al, ite_self, ite_self]
      · rw [mo_bay_13, if_neg bl, over12, if_neg bl]
