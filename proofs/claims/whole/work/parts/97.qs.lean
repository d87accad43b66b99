
/-! to muffle, to cut, more: nothing changes where none of these struck -/
theorem kC {P P' : VS} (hP : PW P) (e : ∀ k, k ≠ 6 → P' k = P k) (h : ∀ c : Nat, P 6 c = 1 → P' 6 c = 1) (b : ∀ c : Nat, (P 6 c = 0 ∨ P 6 c = 1) ∧ (P' 6 c = 0 ∨ P' 6 c = 1)) (d : ∀ c : Nat, (arun P).1 12 c = 1 → P' 6 c = 0) : arun P' = arun P := by
  have hA := AW.run hP
  have hD : PM6 (fun c => ∃ n : Nat, c = n ∧ P' 6 n = 1 ∧ P 6 n = 0) P P' := by
    refine ⟨e, fun c ⟨n, n1, n2, _⟩ => ?_, fun c hn => ?_⟩
    · have : c = n := by omega
      rw [this]; exact n2
    · have q1 := (b c).1
      have q2 := (b c).2
      by_cases x : P' 6 c = 1
      · by_cases y : P 6 c = 0
        · exact absurd ⟨c, rfl, x, y⟩ hn
        · omega
      · by_cases y : P 6 c = 1
        · exact absurd (h c y) x
        · omega
  rcases MU.run hP hD with q | ⟨i, i1, n, n1, n2, n3⟩
  · exact q
  · exfalso
    rcases hA.b n with y | y
    · exact (hA.no n y).2.2.2 i i1 n1
    · have := d n y
      omega
theorem kE {P P' : VS} (hP : PW P) (e : ∀ k, k ≠ 7 → P' k = P k) (h : ∀ c : Nat, P 7 c = 1 → P' 7 c = 1) (b : ∀ c : Nat, (P 7 c = 0 ∨ P 7 c = 1) ∧ (P' 7 c = 0 ∨ P' 7 c = 1)) (d : ∀ (i c : Nat), (i : Int) < (arun P).1 0 0 → (arun P).1 5 i = c → P' 7 c = 0) : ∀ k : Nat, k < 6 ∨ 9 < k → (arun P').1 k = (arun P).1 k := by
  have hD : PM7 (fun x => decide (0 ≤ x ∧ P' 7 x.toNat = 1 ∧ P 7 x.toNat = 0)) P P' := by
    refine ⟨e, fun c hc => ?_, fun c hc => ?_, rfl⟩
    · have := of_decide_eq_true hc
      rw [toN] at this
      exact this.2.1
    · have hn := of_decide_eq_false hc
      rw [toN] at hn
      have q1 := (b c).1
      have q2 := (b c).2
      by_cases x : P' 7 c = 1
      · by_cases y : P 7 c = 0
        · exact absurd ⟨by omega, x, y⟩ hn
        · omega
      · by_cases y : P 7 c = 1
        · exact absurd (h c y) x
        · omega
  rcases EA.run hP hD with q | ⟨i, i1, i2⟩
  · exact q.r
  · exfalso
    have q := of_decide_eq_true i2
    have := d i ((arun P).1 5 i).toNat i1 (by omega)
    omega
