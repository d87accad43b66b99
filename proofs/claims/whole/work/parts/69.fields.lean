/-! which places of the reference's own object a run writes: 29, 37, 43 -/
theorem f_lw127 {j : Nat} (hj : j ≠ 29) : ∀ (f : Nat) (v : VS) (n t : Int), (mo_laysWinds_127 f v n t) 203 j = v 203 j := by
  intro f
  induction f with
  | zero => intro v n t; rfl
  | succ f ih =>
    intro v n t
    rw [mo_laysWinds_127]
    split
    · split
      · rw [ih, v2_row (by omega), v2_eq, if_neg (by omega)]
      · rw [ih, v2_row (by omega)]
    · rfl
theorem f_lw {j : Nat} (hj : j ≠ 29) {v : VS} : (mo_laysWinds v) 203 j = v 203 j := by
  unfold mo_laysWinds
  split
  · rw [o_mo_laysWinds_2 (by omega)]
  · rw [f_lw127 hj, o_mo_laysWinds_2 (by omega)]
theorem f_puts {j : Nat} (hj : j ≠ 43) {v : VS} {t c h y e : Int} : (mo_puts v t c h y e) 203 j = v 203 j := by
  unfold mo_puts
  split
  · rw [v2_eq, if_neg (by omega), v2_row (by omega), v2_row (by omega), v2_row (by omega), v2_row (by omega), v2_row (by omega), v2_row (by omega), v2_row (by omega)]
  · rw [v2_eq, if_neg (by omega), v2_row (by omega), v2_row (by omega), v2_row (by omega), v2_row (by omega), v2_row (by omega), v2_row (by omega), v2_row (by omega)]
theorem f_gb183 {j : Nat} (hj : j ≠ 43) {v : VS} {e i a c n g : Int} : (mo_goesBy_183 v e i a c n g) 203 j = v 203 j := by
  unfold mo_goesBy_183
  split
  · rw [v2_row (by omega)]
  · split
    · split
      · rw [f_puts hj, v2_row (by omega)]
      · rw [v2_row (by omega)]
    · split
      · rw [f_puts hj, v2_row (by omega)]
      · rw [v2_row (by omega)]
theorem f_gb144 {j : Nat} (hj : j ≠ 43) {v : VS} {e i h a c n : Int} : (mo_goesBy_144 v e i h a c n) 203 j = v 203 j := by
  unfold mo_goesBy_144
  split
  · rw [f_gb183 hj]
  · split
    · rw [f_gb183 hj]
    · rw [f_gb183 hj]
theorem f_gb104 {j : Nat} (hj : j ≠ 43) {v : VS} {e i h a c n : Int} : (mo_goesBy_104 v e i h a c n) 203 j = v 203 j := by
  unfold mo_goesBy_104
  split
  · rw [f_gb144 hj]
  · split
    · rw [f_gb144 hj]
    · rw [v2_row (by omega)]
theorem f_gb {j : Nat} (hj : j ≠ 43) {v : VS} {e i t h : Int} : (mo_goesBy v e i t h) 203 j = v 203 j := by
  unfold mo_goesBy
  split
  · split
    · rw [f_gb104 hj, v2_row (by omega)]
    · split
      · rw [f_gb104 hj, v2_row (by omega)]
      · rw [v2_row (by omega), v2_row (by omega), v2_row (by omega)]
  · rw [v2_row (by omega), v2_row (by omega)]
theorem f_sa167 {j : Nat} (hj : j ≠ 43) : ∀ (f : Nat) (v : VS) (t c k i e : Int), (mo_strikesAt_167 f v t c k i e) 203 j = v 203 j := by
  intro f
  induction f with
  | zero => intro v t c k i e; rfl
  | succ f ih =>
    intro v t c k i e
    rw [mo_strikesAt_167]
    split
    · split
      · split
        · rw [ih, f_gb hj]
        · rw [ih]
      · rw [ih]
    · rfl
theorem f_sa134 {j : Nat} (hj : j ≠ 43) {v : VS} {t c k i : Int} : (mo_strikesAt_134 v t c k i) 203 j = v 203 j := by
  unfold mo_strikesAt_134
  split
  · rw [v2_row (by omega)]
  · split
    · rw [v2_row (by omega)]
    · rw [f_sa167 hj, v2_row (by omega)]
theorem f_sa {j : Nat} (hj : j ≠ 43 ∧ j ≠ 37) {v : VS} {t c k : Int} : (mo_strikesAt v t c k) 203 j = v 203 j := by
  unfold mo_strikesAt
  split
  · rw [f_sa134 hj.1, v2_row (by omega), v2_row (by omega), v2_row (by omega), v2_eq, if_neg (by omega), v2_row (by omega), v2_row (by omega), v2_row (by omega), v2_row (by omega), v2_row (by omega)]
  · rw [f_sa134 hj.1, v2_row (by omega), v2_row (by omega), v2_eq, if_neg (by omega), v2_row (by omega), v2_row (by omega), v2_row (by omega), v2_row (by omega), v2_row (by omega)]
theorem f_falls {j : Nat} (hj : j ≠ 43 ∧ j ≠ 37) {v : VS} {t c : Int} : (mo_falls v t c) 203 j = v 203 j := by
  unfold mo_falls
  repeat' split
  all_goals first
    | (rw [o_mo_falls_10 (by omega)]; done)
    | (rw [v2_row (by omega), o_mo_falls_10 (by omega)]; done)
    | (rw [f_sa hj, o_mo_falls_10 (by omega)]; done)
theorem f_go201 {j : Nat} (hj : j ≠ 43 ∧ j ≠ 37) : ∀ (f : Nat) (v : VS) (t c : Int), (mo_goes_201 f v t c) 203 j = v 203 j := by
  intro f
  induction f with
  | zero => intro v t c; rfl
  | succ f ih =>
    intro v t c
    rw [mo_goes_201]
    split
    · split
      · split
        · rw [ih]
        · rw [ih, f_falls hj]
      · rfl
    · rfl
theorem f_go189 {j : Nat} (hj : j ≠ 43 ∧ j ≠ 37) : ∀ (f : Nat) (v : VS) (t : Int), (mo_goes_189 f v t) 203 j = v 203 j := by
  intro f
  induction f with
  | zero => intro v t; rfl
  | succ f ih =>
    intro v t
    rw [mo_goes_189]
    split
    · rw [ih, f_go201 hj]
    · rfl
theorem f_go139 {j : Nat} (hj : j ≠ 43) : ∀ (f : Nat) (v : VS) (t : Int), (mo_goes_139 f v t) 203 j = v 203 j := by
  intro f
  induction f with
  | zero => intro v t; rfl
  | succ f ih =>
    intro v t
    rw [mo_goes_139]
    split
    · rw [ih, f_puts hj]
    · rfl
theorem f_goes {j : Nat} (hj : j ≠ 29 ∧ j ≠ 37 ∧ j ≠ 43) {v : VS} : (mo_goes v) 203 j = v 203 j := by
  unfold mo_goes mo_goes_35 mo_goes_70 mo_goes_92 mo_goes_134
  rw [f_go189 (by omega), f_go139 (by omega), o_mo_goes_94 (by omega), o_mo_goes_72 (by omega), o_mo_goes_37 (by omega), o_mo_goes_16 (by omega), v2_eq, if_neg (by omega), v2_eq, if_neg (by omega), f_lw (by omega)]
theorem f_run {j : Nat} (hj : j ≠ 29 ∧ j ≠ 37 ∧ j ≠ 43) {v : VS} : (mo_run v) 203 j = v 203 j := by
  rw [mo_run_eq, f_goes hj]
theorem f_plainly {j : Nat} (hj : (j < 27 ∨ 35 < j) ∨ j = 29) {v : VS} : (mo_plainly v) 203 j = v 203 j := by
  unfold mo_plainly
  simp only [v2_eq]
  rw [if_neg (by omega), if_neg (by omega), if_neg (by omega), if_neg (by omega), if_neg (by omega), if_neg (by omega), if_neg (by omega), if_neg (by omega)]
