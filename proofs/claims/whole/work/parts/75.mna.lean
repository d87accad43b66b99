/-! no church strikes oftener than there are strikes -/
def MQ9 (v : VS) : Prop := ∀ c : Nat, c < 9 → 0 ≤ v 231 c ∧ v 231 c ≤ v 203 37
theorem MQ9.of {v v' : VS} (h : MQ9 v) (e1 : v' 231 = v 231) (e2 : v' 203 37 = v 203 37) : MQ9 v' := by
  intro c hc
  rw [e1, e2]
  exact h c hc
theorem sa134_231 {v : VS} {t c k i : Int} : (mo_strikesAt_134 v t c k i) 231 = (v2 v 231 c.toNat (v 231 c.toNat + 1)) 231 := by
  unfold mo_strikesAt_134
  split
  · rfl
  · split
    · rfl
    · rw [o_mo_strikesAt_167 (by omega)]
theorem MQ9.sa134 {v : VS} {t c k i : Int} (h : ∀ c : Nat, c < 9 → 0 ≤ v 231 c ∧ v 231 c + 1 ≤ v 203 37) : MQ9 (mo_strikesAt_134 v t c k i) := by
  intro c' hc
  rw [sa134_231, f_sa134 (by omega), v2_eq]
  have := h c' hc
  split
  · rename_i e
    rw [← e.2]
    omega
  · omega
theorem MQ9.sa {v : VS} {t c k : Int} (h : MQ9 v) : MQ9 (mo_strikesAt v t c k) := by
  unfold mo_strikesAt
  split
  · refine MQ9.sa134 (fun c' hc => ?_)
    rw [v2_row (show 231 ≠ 230 by omega), v2_row (show 231 ≠ 229 by omega), v2_row (show 231 ≠ 228 by omega), v2_row (show 231 ≠ 203 by omega), v2_row (show 231 ≠ 220 by omega), v2_row (show 231 ≠ 220 by omega), v2_row (show 231 ≠ 220 by omega), v2_row (show 231 ≠ 220 by omega), v2_row (show 231 ≠ 220 by omega), v2_row (show 203 ≠ 230 by omega), v2_row (show 203 ≠ 229 by omega), v2_row (show 203 ≠ 228 by omega), v2_eq, if_pos ⟨rfl, rfl⟩]
    have := h c' hc
    omega
  · refine MQ9.sa134 (fun c' hc => ?_)
    rw [v2_row (show 231 ≠ 229 by omega), v2_row (show 231 ≠ 228 by omega), v2_row (show 231 ≠ 203 by omega), v2_row (show 231 ≠ 220 by omega), v2_row (show 231 ≠ 220 by omega), v2_row (show 231 ≠ 220 by omega), v2_row (show 231 ≠ 220 by omega), v2_row (show 231 ≠ 220 by omega), v2_row (show 203 ≠ 229 by omega), v2_row (show 203 ≠ 228 by omega), v2_eq, if_pos ⟨rfl, rfl⟩]
    have := h c' hc
    omega
theorem MQ9.f10 {f : Nat} {v : VS} {t c g k : Int} (h : MQ9 v) : MQ9 (mo_falls_10 f v t c g k).2 := MQ9.of h (by rw [o_mo_falls_10 (by omega)]) (by rw [o_mo_falls_10 (by omega)])
theorem MQ9.falls {v : VS} {t c : Int} (h : MQ9 v) : MQ9 (mo_falls v t c) := by
  unfold mo_falls
  repeat' split
  all_goals first
    | exact MQ9.f10 h
    | exact MQ9.sa (MQ9.f10 h)
    | exact MQ9.of (MQ9.f10 (f := 3702) (t := t) (c := c) (g := -1) (k := v 226 t.toNat) h) (by rw [v2_row (by omega)]) (by rw [v2_row (by omega)])
theorem MQ9.go201 : ∀ (f : Nat) (v : VS) (t c : Int), MQ9 v → MQ9 (mo_goes_201 f v t c) := by
  intro f
  induction f with
  | zero => intro v t c h; exact h
  | succ f ih =>
    intro v t c h
    rw [mo_goes_201]
    split
    · split
      · split
        · exact ih _ _ _ h
        · exact ih _ _ _ (MQ9.falls h)
      · exact h
    · exact h
theorem MQ9.go189 : ∀ (f : Nat) (v : VS) (t : Int), MQ9 v → MQ9 (mo_goes_189 f v t) := by
  intro f
  induction f with
  | zero => intro v t h; exact h
  | succ f ih =>
    intro v t h
    rw [mo_goes_189]
    split
    · exact ih _ _ (MQ9.go201 _ _ _ _ h)
    · exact h
theorem go94_231 {c : Nat} (hc : c < 9) : ∀ (f : Nat) (v : VS) (t : Int), 0 ≤ t → 9 < t + f → (t ≤ c ∨ v 231 c = 0) → (mo_goes_94 f v t) 231 c = 0 := by
  intro f
  induction f with
  | zero =>
    intro v t h0 h1 h2
    rcases h2 with h2 | h2
    · omega
    · exact h2
  | succ f ih =>
    intro v t h0 h1 h2
    rw [mo_goes_94]
    by_cases hk : t < 9
    · rw [if_pos hk]
      refine ih _ _ (by omega) (by omega) ?_
      rw [v2_eq]
      by_cases e : c = t.toNat
      · rw [if_pos ⟨rfl, e⟩]; exact Or.inr rfl
      · rw [if_neg (by omega), v2_row (by omega), v2_row (by omega), v2_row (by omega)]
        rcases h2 with h2 | h2
        · exact Or.inl (by omega)
        · exact Or.inr h2
    · rw [if_neg hk]
      rcases h2 with h2 | h2
      · omega
      · exact h2
theorem MQ9.goes (v : VS) : MQ9 (mo_goes v) := by
  unfold mo_goes mo_goes_35 mo_goes_70 mo_goes_92 mo_goes_134
  refine MQ9.go189 _ _ _ ?_
  intro c hc
  rw [o_mo_goes_139 (by omega), f_go139 (by omega), go94_231 hc _ _ _ (by omega) (by omega) (Or.inl (by omega)), o_mo_goes_94 (by omega), o_mo_goes_72 (by omega), o_mo_goes_37 (by omega), o_mo_goes_16 (by omega), v2_eq, if_neg (by omega), v2_eq, if_pos ⟨rfl, rfl⟩]
  omega
theorem mna : MNA := by
  intro u hX hC c hc
  have q := MQ9.goes u c hc
  have h37 : 0 ≤ (mo_run u) 203 37 ∧ (mo_run u) 203 37 ≤ 300 := (i_mo_run hX hC) 203 37
  rw [mo_run_eq] at *
  omega
