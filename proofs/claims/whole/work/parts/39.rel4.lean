/-! the class's run, whole -/
def NN (a : SS) : Prop := a.1 0 1 = 0 → a.1 0 0 < 300
theorem ago_n {P : VS} {a : SS} {i : Nat} : (ago P a i).1 0 = a.1 0 := by
  unfold ago
  split
  · rfl
  · exact agoL_n _ _
theorem alose_n {a : SS} {r k : Nat} : (alose a r k).1 0 = a.1 0 := by
  show v2 (v2 a.1 6 7 (a.1 6 7 + r)) 6 k (a.1 6 k + 1) 0 = _
  rw [v2_row (by omega), v2_row (by omega)]
theorem NN.vis {P : VS} {a : SS} (h : NN a) (t c : Nat) : NN (avis P a t c) := by
  unfold avis
  split
  · exact h
  · unfold avisL
    split
    · unfold NN; rw [alose_n]; exact h
    · split
      · unfold NN; rw [alose_n]; exact h
      · split
        · unfold NN; rw [alose_n]; exact h
        · unfold NN
          rw [ago_n, (aring_r (i := 0)).1, (aring_r (i := 0)).2.2.1]
          intro q
          split at q
          · omega
          · rename_i q2
            apply Int.lt_of_not_ge
            intro q3
            exact q2 (Or.inr q3)
theorem NN.step {P : VS} {a : SS} (h : NN a) (t c : Nat) : NN (astep P a t c) := by
  unfold astep
  split
  · exact h
  · exact h.vis t c
theorem NN.inL {P : VS} {a : SS} (h : NN a) (t : Nat) : ∀ k, NN (ainL P t k a) := by
  intro k
  induction k with
  | zero => exact h
  | succ k ih => exact ih.step t k
theorem NN.outL {P : VS} {a : SS} (h : NN a) : ∀ k, NN (aoutL P k a) := by
  intro k
  induction k with
  | zero => exact h
  | succ k ih => exact ih.inL k _
theorem ainL_stay {P : VS} {t : Nat} {a : SS} {c : Nat} : ∀ (m : Nat), (∀ k, c ≤ k → k < c + m → astep P (ainL P t c a) t k = ainL P t c a) → ainL P t (c + m) a = ainL P t c a := by
  intro m
  induction m with
  | zero => intro _; rfl
  | succ m ih =>
    intro h
    show astep P (ainL P t (c + m) a) t (c + m) = _
    rw [ih (fun k h1 h2 => h k h1 (by omega))]
    exact h (c + m) (by omega) (by omega)
theorem bt_hi {x : Int} {c c' : Nat} (h0 : 0 ≤ x) (h : x / 2 ^ c = 0) (hc : c ≤ c') : bt x c' = 0 := by
  have hp : (0 : Int) < 2 ^ c := Int.pow_pos (by omega)
  have hlt : x < 2 ^ c := by
    have e := Int.mul_ediv_add_emod x (2 ^ c)
    have r := Int.emod_lt_of_pos x hp
    rw [h] at e
    omega
  have hle : (2 : Int) ^ c ≤ 2 ^ c' := by
    obtain ⟨k, rfl⟩ := Nat.exists_eq_add_of_le hc
    rw [Int.pow_add]
    have hk : (0 : Int) < 2 ^ k := Int.pow_pos (by omega)
    have := Int.mul_le_mul_of_nonneg_left (show (1 : Int) ≤ 2 ^ k by omega) (show (0 : Int) ≤ 2 ^ c by omega)
    omega
  unfold bt
  rw [toN, Int.ediv_eq_zero_of_lt h0 (by omega)]
  rfl
theorem RR.inL {R : Nat} {P : VS} {a0 : SS} (hR : R = 79 ∨ R = 91) (hN : NN a0) {t : Nat} (ht : t < 300) : ∀ (f c : Nat) (v : VS), RR R P (ainL P t c a0) v → (c : Int) ≤ P 0 0 → 9 < c + f → RR R P (ainL P t (P 0 0).toNat a0) (xinL R t f c v) := by
  intro f
  induction f with
  | zero =>
    intro c v h hc hf
    have hb := h.bds
    omega
  | succ f ih =>
    intro c v h hc hf
    have hb := h.bds
    have hv : 0 ≤ v 74 t ∧ v 74 t ≤ 511 := h.X 74 t
    rw [xinL, h.P.C, toN, toN, h.A.ov]
    split
    · rename_i q
      have h1 : RR R P (astep P (ainL P t c a0) t c) (xin R v t c) := by
        unfold astep
        rw [if_neg (by omega)]
        exact h.vis hR ((hN.inL t c) q.2.2) ht q.1
      have h2 := ih (c + 1) (xin R v t c) h1 (by omega) (by omega)
      rw [show ((c + 1 : Nat) : Int) = (c : Int) + 1 by omega] at h2
      exact h2
    · rename_i q
      have e : ainL P t (P 0 0).toNat a0 = ainL P t c a0 := by
        have := ainL_stay (P := P) (t := t) (a := a0) (c := c) ((P 0 0).toNat - c) (fun k k1 k2 => by
          unfold astep
          split
          · rfl
          · rename_i q2
            have q3 : v 74 t / 2 ^ c = 0 := by
              by_cases q4 : v 74 t / 2 ^ c = 0
              · exact q4
              · exact absurd ⟨by omega, q4, by omega⟩ q
            have q5 := bt_hi hv.1 q3 k1
            unfold avis
            split
            · rfl
            · rename_i x r hl
              have := (h.D.d1 t k ht (by omega) x r hl).1
              omega)
        rw [show c + ((P 0 0).toNat - c) = (P 0 0).toNat by omega] at this
        exact this
      rw [e]
      exact h
theorem aoutL_stay {P : VS} {a : SS} {s : Nat} : ∀ (m : Nat), (∀ k c, s ≤ k → k < s + m → astep P (aoutL P s a) k c = aoutL P s a) → aoutL P (s + m) a = aoutL P s a := by
  intro m
  induction m with
  | zero => intro _; rfl
  | succ m ih =>
    intro h
    show ainL P (s + m) (P 0 0).toNat (aoutL P (s + m) a) = _
    rw [ih (fun k c h1 h2 => h k c h1 (by omega))]
    have := ainL_stay (P := P) (t := s + m) (a := aoutL P s a) (c := 0) (P 0 0).toNat (fun k k1 k2 => h (s + m) k (by omega) (by omega))
    rw [Nat.zero_add] at this
    exact this
theorem astep_over {P : VS} {a : SS} {t c : Nat} (h : a.1 0 1 ≠ 0) : astep P a t c = a := by
  unfold astep
  rw [if_pos h]
theorem astep_nil {P : VS} {a : SS} {t c : Nat} (h : a.2 t c = []) : astep P a t c = a := by
  unfold astep
  split
  · rfl
  · unfold avis
    rw [h]
theorem RR.outL {R : Nat} {P : VS} {a0 : SS} (hR : R = 79 ∨ R = 91) (hN : NN a0) : ∀ (f s : Nat) (v : VS), RR R P (aoutL P s a0) v → (s : Int) ≤ P 0 1 → 300 < s + f → RR R P (aoutL P (P 0 1).toNat a0) (xoutL R f s v) := by
  intro f
  induction f with
  | zero =>
    intro s v h hc hf
    have hb := h.bds
    have hT := h.P.TS
    omega
  | succ f ih =>
    intro s v h hs hf
    have hb := h.bds
    have hT := h.P.TS
    have eT := h.P.T
    have h73 : -1 ≤ v 73 6 ∧ v 73 6 ≤ 299 := h.X 73 6
    rw [xoutL, h.A.ov]
    split
    · rename_i q
      have h1 := RR.inL hR (hN.outL s) (t := s) (by omega) 10 0 v h (by omega) (by omega)
      have h2 := ih (s + 1) _ h1 (by omega) (by omega)
      rw [show ((s + 1 : Nat) : Int) = (s : Int) + 1 by omega] at h2
      exact h2
    · rename_i q
      have e : aoutL P (P 0 1).toNat a0 = aoutL P s a0 := by
        have := aoutL_stay (P := P) (a := a0) (s := s) ((P 0 1).toNat - s) (fun k c k1 k2 => by
          by_cases q2 : (aoutL P s a0).1 0 1 = 0
          · apply astep_nil
            cases hl : (aoutL P s a0).2 k c with
            | nil => rfl
            | cons x r =>
              have := h.D.dr k c (by rw [hl]; exact List.cons_ne_nil _ _)
              exact absurd ⟨by omega, by omega, q2⟩ q
          · exact astep_over q2)
        rw [show s + ((P 0 1).toNat - s) = (P 0 1).toNat by omega] at this
        exact this
      rw [e]
      exact h
def WZ (v : VS) : Prop := ∀ t : Nat, t < 300 → ((t : Int) < v 73 5 ∨ v 73 6 < t) → v 74 t = 0
theorem bt_0 (c : Nat) : bt 0 c = 0 := by
  unfold bt
  rw [Int.zero_ediv]
  rfl
theorem RR.beg0 {R : Nat} {P : VS} {v : VS} (hR : R = 79 ∨ R = 91) (hX : XI v) (hP : RP P v) (hW : WZ v) : RR R P anil (xbeg0 R v) := by
  refine ⟨?_, ?_, ?_, ?_⟩
  · rcases hR with rfl | rfl
    · exact XI_beg0_79 hX
    · exact XI_beg0_91 hX
  · refine hP.of (fun k hk => ?_)
    rcases hR with rfl | rfl
    · exact xbeg0_row79 (by omega) (by omega) (by omega)
    · exact xbeg0_row91 (by omega) (by omega) (by omega)
  · have e : ∀ k, k ≠ 73 → k ≠ 74 → xbeg0 R v k = (vfill (vfill (vfill (vfill (v2 (v2 (v2 (v2 v R 4 0) R 16 0) R 17 0) R 18 0) (R + 6) 8 0) (R + 7) 12 0) (R + 8) 12 0) (R + 9) 12 0) k := fun k h1 h2 => xclear_row h1 h2
    refine ⟨?_, ?_, ?_, ?_, ?_, ?_, ?_, ?_⟩
    · rw [e R (by omega) (by omega), vfill_row (by omega), vfill_row (by omega), vfill_row (by omega), vfill_row (by omega)]
      simp [v2_eq, anil]
    · rw [e R (by omega) (by omega), vfill_row (by omega), vfill_row (by omega), vfill_row (by omega), vfill_row (by omega)]
      simp [v2_eq, anil]
    · rw [e R (by omega) (by omega), vfill_row (by omega), vfill_row (by omega), vfill_row (by omega), vfill_row (by omega)]
      simp [v2_eq, anil]
    · intro k i k1 k2 hi
      simp [anil] at hi
      omega
    · intro j hj
      rw [e (R + 6) (by omega) (by omega), vfill_row (by omega), vfill_row (by omega), vfill_row (by omega)]
      simp [vfill, fset_at, hj, anil]
    · intro k j k1 k2 hj
      have hk : k = 7 ∨ k = 8 ∨ k = 9 := by omega
      rcases hk with rfl | rfl | rfl
      · rw [e (R + 7) (by omega) (by omega), vfill_row (by omega), vfill_row (by omega)]
        simp [vfill, fset_at, hj, anil]
      · rw [e (R + 8) (by omega) (by omega), vfill_row (by omega)]
        simp [vfill, fset_at, hj, anil]
      · rw [e (R + 9) (by omega) (by omega)]
        simp [vfill, fset_at, hj, anil]
    · intro c hc
      rw [e R (by omega) (by omega), vfill_row (by omega), vfill_row (by omega), vfill_row (by omega), vfill_row (by omega)]
      simp [v2_eq, anil, bt_0]
    · intro k c k1 k2 hc hs
      simp [anil] at hs
  · have e74 : ∀ t : Nat, t < 300 → xbeg0 R v 74 t = 0 := by
      intro t ht
      have f73 : (vfill (vfill (vfill (vfill (v2 (v2 (v2 (v2 v R 4 0) R 16 0) R 17 0) R 18 0) (R + 6) 8 0) (R + 7) 12 0) (R + 8) 12 0) (R + 9) 12 0) 73 = v 73 := by
        rw [vfill_row (by omega), vfill_row (by omega), vfill_row (by omega), vfill_row (by omega), v2_row (by omega), v2_row (by omega), v2_row (by omega), v2_row (by omega)]
      have f74 : (vfill (vfill (vfill (vfill (v2 (v2 (v2 (v2 v R 4 0) R 16 0) R 17 0) R 18 0) (R + 6) 8 0) (R + 7) 12 0) (R + 8) 12 0) (R + 9) 12 0) 74 = v 74 := by
        rw [vfill_row (by omega), vfill_row (by omega), vfill_row (by omega), vfill_row (by omega), v2_row (by omega), v2_row (by omega), v2_row (by omega), v2_row (by omega)]
      unfold xbeg0 xclear
      rw [v2_row (by omega), v2_row (by omega), fset_same, f73, f74]
      by_cases q : v 73 5 ≤ (t : Int) ∧ (t : Int) ≤ v 73 6
      · rw [if_pos q]
      · rw [if_neg q]
        exact hW t ht (by omega)
    refine ⟨?_, ?_, ?_, ?_⟩
    · intro t c ht hc _
      rw [e74 t ht, bt_0]
    · intro t c ht hc x r hl
      simp [anil] at hl
    · intro t c hl
      exact absurd rfl hl
    · intro t ht _
      exact e74 t ht
theorem RR.begL {R : Nat} {P : VS} {v0 : VS} (hR : R = 79 ∨ R = 91) (h0 : RR R P anil v0) : ∀ (m : Nat), (m : Int) ≤ P 0 9 → RR R P (abegL P m anil) (xbegL m v0) := by
  intro m
  induction m with
  | zero => intro _; exact h0
  | succ m ih =>
    intro hm
    have h := ih (by omega)
    have hb := h0.bds
    obtain ⟨e1, e2, e3⟩ := h0.P.st m (by omega)
    have h1 : 0 ≤ v0 70 m ∧ v0 70 m ≤ 299 := h0.X 70 m
    have h2 : 0 ≤ v0 69 m ∧ v0 69 m ≤ 8 := h0.X 69 m
    have h3 : 0 ≤ v0 71 m ∧ v0 71 m ≤ 99 := h0.X 71 m
    have q := h.put hR (t := (P 8 m).toNat) (c := (P 9 m).toNat) (x := P 10 m) (y := -1) (e := -1) (by omega) (by omega) (by omega) (by omega) (by omega)
    rw [show (((P 8 m).toNat : Nat) : Int) = v0 70 m by omega, show (((P 9 m).toNat : Nat) : Int) = v0 69 m by omega, ← e3] at q
    rw [abegL, xbegL, ← e3]
    exact q
theorem abegL_1 {P : VS} : ∀ (m : Nat) (a : SS), (abegL P m a).1 = a.1 := by
  intro m
  induction m with
  | zero => intro a; rfl
  | succ m ih => intro a; exact ih a
theorem NN.beg (P : VS) : NN (abeg P) := by
  unfold NN abeg
  rw [abegL_1]
  intro _
  simp [anil]
/-- what a play leaves -/
theorem RR.play {R : Nat} {P : VS} {v : VS} (hR : R = 79 ∨ R = 91) (hX : XI v) (hP : RP P v) (hW : WZ v) : RR R P (arun P) (xplay R v) := by
  have h0 := RR.beg0 hR hX hP hW
  have e68 : xbeg0 R v 68 = v 68 := by
    rcases hR with rfl | rfl
    · exact xbeg0_row79 (by omega) (by omega) (by omega)
    · exact xbeg0_row91 (by omega) (by omega) (by omega)
  have hb := h0.bds
  have h1 : RR R P (abeg P) (xbegin R v) := by
    unfold abeg xbegin
    rw [hP.nst]
    exact RR.begL hR h0 _ (by omega)
  have hN := NN.beg P
  obtain ⟨u, hu⟩ : ∃ u, u = xbegin R v := ⟨_, rfl⟩
  unfold arun xplay
  rw [← hu] at h1 ⊢
  have hf : 0 ≤ u 73 5 ∧ u 73 5 ≤ 300 := h1.X 73 5
  have hT := h1.P.TS
  have eT := h1.P.T
  have hstay : ∀ m : Nat, (m : Int) ≤ u 73 5 → aoutL P m (abeg P) = abeg P := by
    intro m hm
    have := aoutL_stay (P := P) (a := abeg P) (s := 0) m (fun k c k1 k2 => by
      apply astep_nil
      cases hl : (aoutL P 0 (abeg P)).2 k c with
      | nil => rfl
      | cons x r =>
        have := h1.D.dr k c (by
          show (aoutL P 0 (abeg P)).2 k c ≠ []
          rw [hl]
          exact List.cons_ne_nil _ _)
        omega)
    rw [Nat.zero_add] at this
    exact this
  by_cases q : u 73 5 ≤ P 0 1
  · have h2 := RR.outL hR hN 301 (u 73 5).toNat u (by rw [hstay _ (by omega)]; exact h1) (by omega) (by omega)
    rw [show (((u 73 5).toNat : Nat) : Int) = u 73 5 by omega] at h2
    exact h2
  · rw [hstay _ (by omega)]
    rw [xoutL, if_neg (by omega)]
    exact h1
