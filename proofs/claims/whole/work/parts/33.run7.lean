/-! the beginning of a run -/
def xclr (v : VS) (s : Int) : VS := fset v 74 (fun j => if v 73 5 ≤ (j : Int) ∧ (j : Int) < s then 0 else v 74 j)
theorem XI_clr {v : VS} (hX : XI v) (s : Int) : XI (xclr v s) := by
  refine XI.row hX (fun j => ?_)
  have h : 0 ≤ v 74 j ∧ v 74 j ≤ 511 := hX 74 j
  show 0 ≤ (if v 73 5 ≤ (j : Int) ∧ (j : Int) < s then 0 else v 74 j) ∧ (if v 73 5 ≤ (j : Int) ∧ (j : Int) < s then 0 else v 74 j) ≤ 511
  split <;> omega
theorem xclr_s {v : VS} {s : Int} (h0 : 0 ≤ s) (h : v 73 5 ≤ s) : v2 (xclr v s) 74 s.toNat 0 = xclr v (s + 1) := by
  unfold v2 xclr
  rw [fset_same, fset_fset]
  congr 1
  funext j
  rw [fset_at]
  by_cases hj : j = s.toNat
  · rw [if_pos hj, if_pos (by omega)]
  · rw [if_neg hj]
    by_cases h2 : v 73 5 ≤ (j : Int) ∧ (j : Int) < s
    · rw [if_pos h2, if_pos (by omega)]
    · rw [if_neg h2, if_neg (by omega)]
theorem xclr_0 {v : VS} : xclr v (v 73 5) = v := by
  unfold xclr
  have e : (fun j : Nat => if v 73 5 ≤ (j : Int) ∧ (j : Int) < v 73 5 then 0 else v 74 j) = v 74 := by
    funext j
    rw [if_neg (by omega)]
  rw [e, fset_self]
theorem xclear_eq {v : VS} {s : Int} (h : v 73 6 < s) (h2 : s = v 73 5 ∨ s ≤ v 73 6 + 1) : v2 (v2 (xclr v s) 73 5 300) 73 6 (-1) = xclear v := by
  unfold xclear xclr
  congr 3
  funext j
  by_cases hj : v 73 5 ≤ (j : Int) ∧ (j : Int) < s
  · rw [if_pos hj, if_pos (by omega)]
  · rw [if_neg hj, if_neg (by omega)]
theorem XI_clear {v : VS} (hX : XI v) : XI (xclear v) := by
  unfold xclear
  refine XI.put (XI.put (XI.row hX (fun j => ?_)) ?_) ?_
  · have h : 0 ≤ v 74 j ∧ v 74 j ≤ 511 := hX 74 j
    show 0 ≤ (if v 73 5 ≤ (j : Int) ∧ (j : Int) ≤ v 73 6 then 0 else v 74 j) ∧ (if v 73 5 ≤ (j : Int) ∧ (j : Int) ≤ v 73 6 then 0 else v 74 j) ≤ 511
    split <;> omega
  · exact (show (0 : Int) ≤ 300 ∧ (300 : Int) ≤ 300 by omega)
  · exact (show (-1 : Int) ≤ -1 ∧ (-1 : Int) ≤ 299 by omega)
theorem xclear_row {v : VS} {k : Nat} (h1 : k ≠ 73) (h2 : k ≠ 74) : xclear v k = v k := by
  unfold xclear
  rw [v2_row h1, v2_row h1, fset_at, if_neg h2]
theorem vfill_row {v : VS} {k m k' : Nat} {x : Int} (h : k' ≠ k) : vfill v k m x k' = v k' := by
  unfold vfill
  rw [fset_at, if_neg h]
theorem XI_fillN {v : VS} (hX : XI v) {k m : Nat} {x : Int} (h : ∀ j, inn (bd k j) x) : XI (vfill v k m x) := by
  refine XI.row hX (fun j => ?_)
  show inn (bd k j) (if j < m then x else v k j)
  split
  · exact h j
  · exact hX k j
def xbeg0 (R : Nat) (v : VS) : VS := xclear (vfill (vfill (vfill (vfill (v2 (v2 (v2 (v2 v R 4 0) R 16 0) R 17 0) R 18 0) (R + 6) 8 0) (R + 7) 12 0) (R + 8) 12 0) (R + 9) 12 0)
def xbegL : Nat → VS → VS
  | 0, v => v
  | k + 1, v => xput (xbegL k v) (v 70 k) (v 69 k) (v 71 k) (-1) (-1)
def xbegin (R : Nat) (v : VS) : VS := xbegL (v 68 0).toNat (xbeg0 R v)
theorem xbegL_row {k : Nat} (hk : k < 73 ∨ 78 < k) : ∀ (m : Nat) (v : VS), xbegL m v k = v k := by
  intro m
  induction m with
  | zero => intro v; rfl
  | succ m ih => intro v; rw [xbegL, xput_row hk, ih]
theorem XI_begL {v : VS} (hX : XI v) : ∀ (m : Nat), XI (xbegL m v) := by
  intro m
  induction m with
  | zero => exact hX
  | succ m ih =>
    have h1 : 0 ≤ v 70 m ∧ v 70 m ≤ 299 := hX 70 m
    have h2 : 0 ≤ v 69 m ∧ v 69 m ≤ 8 := hX 69 m
    have h3 : 0 ≤ v 71 m ∧ v 71 m ≤ 99 := hX 71 m
    exact XI_put ih (by omega) (by omega) (by omega) (by omega) (by omega)
theorem x_clL {X : PX} {d b : Nat} {v : VS} (hX0 : XI v) : ∀ (f : Nat) (s : Int), v 73 5 ≤ s → (s = v 73 5 ∨ s ≤ v 73 6 + 1) → (v 73 6 + 1 - s).toNat < f → WV X d 76 5 [some (.inr (.inr (some 73))), some (.inl s)] [] b (xclr v s) (fun r b' v' => r = none ∧ b' = b ∧ v' = xclear v) := by
  intro f
  induction f with
  | zero => intro s h1 h2 h3; omega
  | succ f ih =>
    intro s h1 h2 h3
    have hX := XI_clr hX0 s
    have hf : 0 ≤ v 73 5 ∧ v 73 5 ≤ 300 := hX0 73 5
    have hg : -1 ≤ v 73 6 ∧ v 73 6 ≤ 299 := hX0 73 6
    refine r_ex 3 (pc' := 10) (lo' := [some (.inr (.inr (some 73))), some (.inl s)]) (st' := [.inl (v 73 6), .inl s]) rfl ?_
    have hb_1 : -1 ≤ (v 73 6) ∧ (v 73 6) ≤ 299 := hX 73 6
    refine r_ic_gt (pc0 := 10) (len := 3) (t := 26) rfl (by first | assumption | (unfold R32 at *; omega) | omega) (by first | assumption | (unfold R32 at *; omega) | omega) (fun h_10 => ?_) (fun h_10 => ?_)
    · show WV _ _ _ 26 _ _ _ _ _
      refine r_ex 2 (pc' := 30) (lo' := [some (.inr (.inr (some 73))), some (.inl s)]) (st' := [.inl 300, .inr (.inr (some 73))]) rfl ?_
      refine r_puti2 (j := 5) (pc' := 33) (pc0 := 30) (len := 3) rfl (s_73 _) rfl rfl rfl (Or.inl rfl) rfl rfl ?_
      have hX_2 : XI (v2 (xclr v s) 73 5 300) := XI.put hX (show 0 ≤ 300 ∧ 300 ≤ 300 from (by first | assumption | (unfold R32 at *; omega) | omega))
      refine r_ex 2 (pc' := 35) (lo' := [some (.inr (.inr (some 73))), some (.inl s)]) (st' := [.inl (-1), .inr (.inr (some 73))]) rfl ?_
      refine r_puti2 (j := 6) (pc' := 38) (pc0 := 35) (len := 3) rfl (s_73 _) rfl rfl rfl (Or.inl rfl) rfl rfl ?_
      have hX_3 : XI (v2 (v2 (xclr v s) 73 5 300) 73 6 (-1)) := XI.put hX_2 (show -1 ≤ (-1) ∧ (-1) ≤ 299 from (by first | assumption | (unfold R32 at *; omega) | omega))
      refine r_ret (rr := none) (I := .return_) (pc0 := 38) (len := 1) rfl rfl ?_
      exact ⟨rfl, rfl, xclear_eq (by omega) (by omega)⟩
    · show WV _ _ _ 13 _ _ _ _ _
      refine r_ex 4 (pc' := 19) (lo' := [some (.inr (.inr (some 73))), some (.inl s)]) (st' := [.inl 0, .inl s, .inr (.inr (some 74))]) rfl ?_
      refine r_iast2 (pc' := 20) (pc0 := 19) (len := 1) rfl (s_74 _) (by first | assumption | (unfold R32 at *; omega) | omega) (by decide) rfl ?_
      have hX_4 : XI (v2 (xclr v s) 74 ((s).toNat) 0) := XI.put hX (show 0 ≤ 0 ∧ 0 ≤ 511 from (by first | assumption | (unfold R32 at *; omega) | omega))
      refine r_ex 2 (pc' := 5) (lo' := [some (.inr (.inr (some 73))), some (.inl (s + 1))]) (st' := []) rfl ?_
      rw [xclr_s (by omega) h1]
      exact ih (s + 1) (by omega) (by omega) (by omega)

theorem x_clear {X : PX} {d b : Nat} {v : VS}  (hX : XI v) : EvV X d 76 [.inr (.inr (some 73))] b v (none) b (xclear v) := by
  refine EvV.of ?_
  show WV _ _ _ 0 [some (.inr (.inr (some 73))), none] [] _ _ _
  refine r_ex 3 (pc' := 5) (lo' := [some (.inr (.inr (some 73))), some (.inl (v 73 5))]) (st' := []) rfl ?_
  have hb_1 : 0 ≤ (v 73 5) ∧ (v 73 5) ≤ 300 := hX 73 5
  have h := x_clL (X := X) (d := d) (b := b) hX ((v 73 6 + 1 - v 73 5).toNat + 1) (v 73 5) (by omega) (by omega) (by omega)
  rw [xclr_0] at h
  exact h

theorem XI_beg0_79 {v : VS} (hX : XI v) : XI (xbeg0 79 v) := by
  simp only [xbeg0, Nat.reduceAdd]
  refine XI_clear (XI_fillN (XI_fillN (XI_fillN (XI_fillN (XI.put (XI.put (XI.put (XI.put hX ?_) ?_) ?_) ?_) (fun j => ?_)) (fun j => ?_)) (fun j => ?_)) (fun j => ?_))
  · exact (show (0 : Int) ≤ 0 ∧ (0 : Int) ≤ 300 by omega)
  · exact (show (0 : Int) ≤ 0 ∧ (0 : Int) ≤ 511 by omega)
  · exact (show (0 : Int) ≤ 0 ∧ (0 : Int) ≤ 1 by omega)
  · exact (show (0 : Int) ≤ 0 ∧ (0 : Int) ≤ 1 by omega)
  · exact trivial
  · exact trivial
  · exact trivial
  · exact trivial
theorem xbeg0_row79 {v : VS} {k : Nat} (h1 : k ≠ 73) (h2 : k ≠ 74) (h3 : k < 79 ∨ 79 + 9 < k) : xbeg0 79 v k = v k := by
  simp only [xbeg0, Nat.reduceAdd]
  rw [xclear_row h1 h2, vfill_row (by omega), vfill_row (by omega), vfill_row (by omega), vfill_row (by omega), v2_row (by omega), v2_row (by omega), v2_row (by omega), v2_row (by omega)]
theorem XI_begin79 {v : VS} (hX : XI v) : XI (xbegin 79 v) := XI_begL (XI_beg0_79 hX) _

theorem x_begL79 {X : PX} {d b : Nat} {v : VS} (hX0 : XI v) : ∀ (f k : Nat), (k : Int) ≤ v 68 0 → (v 68 0).toNat - k < f → WV X (d + 1 + 1) 75 61 [some (.inr (.inr (some 79))), some (.inl (k : Int))] [] b (xbegL k v) (fun r b' v' => r = none ∧ b' = b ∧ v' = xbegL (v 68 0).toNat v) := by
  intro f
  induction f with
  | zero => intro k h1 h2; omega
  | succ f ih =>
    intro k h1 h2
    have h68 : 0 ≤ v 68 0 ∧ v 68 0 ≤ 5 := hX0 68 0
    have hX := XI_begL hX0 k
    have hr68 : xbegL k v 68 0 = v 68 0 := by rw [xbegL_row (by omega)]
    have hr69 : xbegL k v 69 k = v 69 k := by rw [xbegL_row (by omega)]
    have hr70 : xbegL k v 70 k = v 70 k := by rw [xbegL_row (by omega)]
    have hr71 : xbegL k v 71 k = v 71 k := by rw [xbegL_row (by omega)]
    obtain ⟨u, hu⟩ : ∃ u, u = xbegL k v := ⟨_, rfl⟩
    rw [← hu] at hX hr68 hr69 hr70 hr71 ⊢
    refine r_ex 5 (pc' := 72) (lo' := [some (.inr (.inr (some 79))), some (.inl (k : Int))]) (st' := [.inl (u 68 0), .inl (k : Int)]) rfl ?_
    have hb_1 : 0 ≤ (u 68 0) ∧ (u 68 0) ≤ 5 := hX 68 0
    refine r_ic_ge (pc0 := 72) (len := 3) (t := 126) rfl (by first | assumption | (unfold R32 at *; omega) | omega) (by first | assumption | (unfold R32 at *; omega) | omega) (fun h_72 => ?_) (fun h_72 => ?_)
    · show WV _ _ _ 126 _ _ _ _ _
      refine r_ret (rr := none) (I := .return_) (pc0 := 126) (len := 1) rfl rfl ?_
      have ek : (v 68 0).toNat = k := by omega
      rw [ek]
      exact ⟨rfl, rfl, hu⟩
    · show WV _ _ _ 75 _ _ _ _ _
      refine r_ex 7 (pc' := 90) (lo' := [some (.inr (.inr (some 79))), some (.inl (k : Int))]) (st' := [.inl (k : Int), .inr (.inr (some 70)), .inr (.inr (some 73))]) rfl ?_
      refine r_iald2 (j := 0) (x := (u 70 (((k : Int)).toNat))) (pc' := 91) (pc0 := 90) (len := 1) rfl (s_70 _) (by first | assumption | (unfold R32 at *; omega) | omega) (by decide) rfl rfl ?_
      have hb_2 : 0 ≤ (u 70 (((k : Int)).toNat)) ∧ (u 70 (((k : Int)).toNat)) ≤ 299 := hX 70 (((k : Int)).toNat)
      refine r_ex 5 (pc' := 102) (lo' := [some (.inr (.inr (some 79))), some (.inl (k : Int))]) (st' := [.inl (k : Int), .inr (.inr (some 69)), .inl (u 70 (((k : Int)).toNat)), .inr (.inr (some 73))]) rfl ?_
      refine r_iald2 (j := 0) (x := (u 69 (((k : Int)).toNat))) (pc' := 103) (pc0 := 102) (len := 1) rfl (s_69 _) (by first | assumption | (unfold R32 at *; omega) | omega) (by decide) rfl rfl ?_
      have hb_3 : 0 ≤ (u 69 (((k : Int)).toNat)) ∧ (u 69 (((k : Int)).toNat)) ≤ 8 := hX 69 (((k : Int)).toNat)
      refine r_ex 5 (pc' := 114) (lo' := [some (.inr (.inr (some 79))), some (.inl (k : Int))]) (st' := [.inl (k : Int), .inr (.inr (some 71)), .inl (u 69 (((k : Int)).toNat)), .inl (u 70 (((k : Int)).toNat)), .inr (.inr (some 73))]) rfl ?_
      refine r_iald2 (j := 0) (x := (u 71 (((k : Int)).toNat))) (pc' := 115) (pc0 := 114) (len := 1) rfl (s_71 _) (by first | assumption | (unfold R32 at *; omega) | omega) (by decide) rfl rfl ?_
      have hb_4 : 0 ≤ (u 71 (((k : Int)).toNat)) ∧ (u 71 (((k : Int)).toNat)) ≤ 99 := hX 71 (((k : Int)).toNat)
      refine r_ex 2 (pc' := 117) (lo' := [some (.inr (.inr (some 79))), some (.inl (k : Int))]) (st' := [.inl (-1), .inl (-1), .inl (u 71 (((k : Int)).toNat)), .inl (u 69 (((k : Int)).toNat)), .inl (u 70 (((k : Int)).toNat)), .inr (.inr (some 73))]) rfl ?_
      refine r_call (m := 77) (args := [.inr (.inr (some 73)), .inl (u 70 (((k : Int)).toNat)), .inl (u 69 (((k : Int)).toNat)), .inl (u 71 (((k : Int)).toNat)), .inl (-1), .inl (-1)]) (n' := 75) (pc' := 120) (lo' := [some (.inr (.inr (some 79))), some (.inl (k : Int))]) (st' := []) (I := .invokevirtual 77) (pc0 := 117) (len := 3) rfl rfl rfl (x_put hX (by omega) (by omega) (by omega) (by omega) (by omega)) ?_
      show WV _ _ _ 120 _ [] _ (xput u (u 70 (((k : Int)).toNat)) (u 69 (((k : Int)).toNat)) (u 71 (((k : Int)).toNat)) (-1) (-1)) _
      have hXput := XI_put (s := (u 70 (((k : Int)).toNat))) (c := (u 69 (((k : Int)).toNat))) (h := (u 71 (((k : Int)).toNat))) (y := (-1)) (e := (-1)) hX (by omega) (by omega) (by omega) (by omega) (by omega)
      refine r_ex 2 (pc' := 61) (lo' := [some (.inr (.inr (some 79))), some (.inl ((k : Int) + 1))]) (st' := []) rfl ?_
      have hk1 := ih (k + 1) (by omega) (by omega)
      rw [show ((k + 1 : Nat) : Int) = (k : Int) + 1 by omega] at hk1
      have e1 : xbegL (k + 1) v = (xput u (u 70 (((k : Int)).toNat)) (u 69 (((k : Int)).toNat)) (u 71 (((k : Int)).toNat)) (-1) (-1)) := by
        rw [xbegL, ← hu, ← hr69, ← hr70, ← hr71]
        rfl
      rw [e1] at hk1
      exact hk1

theorem x_begin79 {X : PX} {d b : Nat} {v : VS}  (hX : XI v) : EvV X (d + 1 + 1) 75 [.inr (.inr (some 79))] b v (none) b (xbegin 79 v) := by
  refine EvV.of ?_
  show WV _ _ _ 0 [some (.inr (.inr (some 79))), none] [] _ _ _
  refine r_ex 2 (pc' := 2) (lo' := [some (.inr (.inr (some 79))), none]) (st' := [.inl 0, .inr (.inr (some 79))]) rfl ?_
  refine r_puti2 (j := 4) (pc' := 5) (pc0 := 2) (len := 3) rfl (s_79 _) rfl rfl rfl (Or.inl rfl) rfl rfl ?_
  have hX_1 : XI (v2 v 79 4 0) := XI.put hX (show 0 ≤ 0 ∧ 0 ≤ 300 from (by first | assumption | (unfold R32 at *; omega) | omega))
  refine r_ex 2 (pc' := 7) (lo' := [some (.inr (.inr (some 79))), none]) (st' := [.inl 0, .inr (.inr (some 79))]) rfl ?_
  refine r_puti2 (j := 16) (pc' := 10) (pc0 := 7) (len := 3) rfl (s_79 _) rfl rfl rfl (Or.inl rfl) rfl rfl ?_
  have hX_2 : XI (v2 (v2 v 79 4 0) 79 16 0) := XI.put hX_1 (show 0 ≤ 0 ∧ 0 ≤ 511 from (by first | assumption | (unfold R32 at *; omega) | omega))
  refine r_ex 2 (pc' := 12) (lo' := [some (.inr (.inr (some 79))), none]) (st' := [.inl 0, .inr (.inr (some 79))]) rfl ?_
  refine r_puti2 (j := 17) (pc' := 15) (pc0 := 12) (len := 3) rfl (s_79 _) rfl rfl rfl (Or.inr rfl) rfl rfl ?_
  have hX_3 : XI (v2 (v2 (v2 v 79 4 0) 79 16 0) 79 17 0) := XI.put hX_2 (show 0 ≤ 0 ∧ 0 ≤ 1 from (by first | assumption | (unfold R32 at *; omega) | omega))
  refine r_ex 2 (pc' := 17) (lo' := [some (.inr (.inr (some 79))), none]) (st' := [.inl 0, .inr (.inr (some 79))]) rfl ?_
  refine r_puti2 (j := 18) (pc' := 20) (pc0 := 17) (len := 3) rfl (s_79 _) rfl rfl rfl (Or.inr rfl) rfl rfl ?_
  have hX_4 : XI (v2 (v2 (v2 (v2 v 79 4 0) 79 16 0) 79 17 0) 79 18 0) := XI.put hX_3 (show 0 ≤ 0 ∧ 0 ≤ 1 from (by first | assumption | (unfold R32 at *; omega) | omega))
  refine r_ex 3 (pc' := 25) (lo' := [some (.inr (.inr (some 79))), none]) (st' := [.inl 0, .inr (.inr (some 85))]) rfl ?_
  refine r_call (m := 20) (args := [.inr (.inr (some 85)), .inl 0]) (n' := 75) (pc' := 28) (lo' := [some (.inr (.inr (some 79))), none]) (st' := []) (I := .invokestatic 20) (pc0 := 25) (len := 3) rfl rfl rfl (j_fill (s_85 _) (by decide)) ?_
  show WV _ _ _ 28 _ [] _ (vfill (v2 (v2 (v2 (v2 v 79 4 0) 79 16 0) 79 17 0) 79 18 0) 85 8 0) _
  have hXf_5 : XI (vfill (v2 (v2 (v2 (v2 v 79 4 0) 79 16 0) 79 17 0) 79 18 0) 85 8 0) := XI_fillN hX_4 (fun j => trivial)
  refine r_ex 3 (pc' := 33) (lo' := [some (.inr (.inr (some 79))), none]) (st' := [.inl 0, .inr (.inr (some 86))]) rfl ?_
  refine r_call (m := 20) (args := [.inr (.inr (some 86)), .inl 0]) (n' := 75) (pc' := 36) (lo' := [some (.inr (.inr (some 79))), none]) (st' := []) (I := .invokestatic 20) (pc0 := 33) (len := 3) rfl rfl rfl (j_fill (s_86 _) (by decide)) ?_
  show WV _ _ _ 36 _ [] _ (vfill (vfill (v2 (v2 (v2 (v2 v 79 4 0) 79 16 0) 79 17 0) 79 18 0) 85 8 0) 86 12 0) _
  have hXf_6 : XI (vfill (vfill (v2 (v2 (v2 (v2 v 79 4 0) 79 16 0) 79 17 0) 79 18 0) 85 8 0) 86 12 0) := XI_fillN hXf_5 (fun j => trivial)
  refine r_ex 3 (pc' := 41) (lo' := [some (.inr (.inr (some 79))), none]) (st' := [.inl 0, .inr (.inr (some 87))]) rfl ?_
  refine r_call (m := 20) (args := [.inr (.inr (some 87)), .inl 0]) (n' := 75) (pc' := 44) (lo' := [some (.inr (.inr (some 79))), none]) (st' := []) (I := .invokestatic 20) (pc0 := 41) (len := 3) rfl rfl rfl (j_fill (s_87 _) (by decide)) ?_
  show WV _ _ _ 44 _ [] _ (vfill (vfill (vfill (v2 (v2 (v2 (v2 v 79 4 0) 79 16 0) 79 17 0) 79 18 0) 85 8 0) 86 12 0) 87 12 0) _
  have hXf_7 : XI (vfill (vfill (vfill (v2 (v2 (v2 (v2 v 79 4 0) 79 16 0) 79 17 0) 79 18 0) 85 8 0) 86 12 0) 87 12 0) := XI_fillN hXf_6 (fun j => trivial)
  refine r_ex 3 (pc' := 49) (lo' := [some (.inr (.inr (some 79))), none]) (st' := [.inl 0, .inr (.inr (some 88))]) rfl ?_
  refine r_call (m := 20) (args := [.inr (.inr (some 88)), .inl 0]) (n' := 75) (pc' := 52) (lo' := [some (.inr (.inr (some 79))), none]) (st' := []) (I := .invokestatic 20) (pc0 := 49) (len := 3) rfl rfl rfl (j_fill (s_88 _) (by decide)) ?_
  show WV _ _ _ 52 _ [] _ (vfill (vfill (vfill (vfill (v2 (v2 (v2 (v2 v 79 4 0) 79 16 0) 79 17 0) 79 18 0) 85 8 0) 86 12 0) 87 12 0) 88 12 0) _
  have hXf_8 : XI (vfill (vfill (vfill (vfill (v2 (v2 (v2 (v2 v 79 4 0) 79 16 0) 79 17 0) 79 18 0) 85 8 0) 86 12 0) 87 12 0) 88 12 0) := XI_fillN hXf_7 (fun j => trivial)
  refine r_ex 2 (pc' := 56) (lo' := [some (.inr (.inr (some 79))), none]) (st' := [.inr (.inr (some 73))]) rfl ?_
  refine r_call (m := 76) (args := [.inr (.inr (some 73))]) (n' := 75) (pc' := 59) (lo' := [some (.inr (.inr (some 79))), none]) (st' := []) (I := .invokevirtual 76) (pc0 := 56) (len := 3) rfl rfl rfl (x_clear hXf_8) ?_
  show WV _ _ _ 59 _ [] _ (xclear (vfill (vfill (vfill (vfill (v2 (v2 (v2 (v2 v 79 4 0) 79 16 0) 79 17 0) 79 18 0) 85 8 0) 86 12 0) 87 12 0) 88 12 0)) _
  have hXcl := XI_clear hXf_8
  refine r_ex 2 (pc' := 61) (lo' := [some (.inr (.inr (some 79))), some (.inl 0)]) (st' := []) rfl ?_
  have hX0 := XI_beg0_79 hX
  have h68 : 0 ≤ v 68 0 ∧ v 68 0 ≤ 5 := hX 68 0
  have hr68 : xbeg0 79 v 68 0 = v 68 0 := by rw [xbeg0_row79 (by omega) (by omega) (by omega)]
  have h := x_begL79 (X := X) (d := d) (b := b) hX0 ((v 68 0).toNat + 1) 0 (by omega) (by omega)
  rw [hr68] at h
  exact h

theorem XI_beg0_91 {v : VS} (hX : XI v) : XI (xbeg0 91 v) := by
  simp only [xbeg0, Nat.reduceAdd]
  refine XI_clear (XI_fillN (XI_fillN (XI_fillN (XI_fillN (XI.put (XI.put (XI.put (XI.put hX ?_) ?_) ?_) ?_) (fun j => ?_)) (fun j => ?_)) (fun j => ?_)) (fun j => ?_))
  · exact (show (0 : Int) ≤ 0 ∧ (0 : Int) ≤ 300 by omega)
  · exact (show (0 : Int) ≤ 0 ∧ (0 : Int) ≤ 511 by omega)
  · exact (show (0 : Int) ≤ 0 ∧ (0 : Int) ≤ 1 by omega)
  · exact (show (0 : Int) ≤ 0 ∧ (0 : Int) ≤ 1 by omega)
  · exact trivial
  · exact trivial
  · exact trivial
  · exact trivial
theorem xbeg0_row91 {v : VS} {k : Nat} (h1 : k ≠ 73) (h2 : k ≠ 74) (h3 : k < 91 ∨ 91 + 9 < k) : xbeg0 91 v k = v k := by
  simp only [xbeg0, Nat.reduceAdd]
  rw [xclear_row h1 h2, vfill_row (by omega), vfill_row (by omega), vfill_row (by omega), vfill_row (by omega), v2_row (by omega), v2_row (by omega), v2_row (by omega), v2_row (by omega)]
theorem XI_begin91 {v : VS} (hX : XI v) : XI (xbegin 91 v) := XI_begL (XI_beg0_91 hX) _

theorem x_begL91 {X : PX} {d b : Nat} {v : VS} (hX0 : XI v) : ∀ (f k : Nat), (k : Int) ≤ v 68 0 → (v 68 0).toNat - k < f → WV X (d + 1 + 1) 75 61 [some (.inr (.inr (some 91))), some (.inl (k : Int))] [] b (xbegL k v) (fun r b' v' => r = none ∧ b' = b ∧ v' = xbegL (v 68 0).toNat v) := by
  intro f
  induction f with
  | zero => intro k h1 h2; omega
  | succ f ih =>
    intro k h1 h2
    have h68 : 0 ≤ v 68 0 ∧ v 68 0 ≤ 5 := hX0 68 0
    have hX := XI_begL hX0 k
    have hr68 : xbegL k v 68 0 = v 68 0 := by rw [xbegL_row (by omega)]
    have hr69 : xbegL k v 69 k = v 69 k := by rw [xbegL_row (by omega)]
    have hr70 : xbegL k v 70 k = v 70 k := by rw [xbegL_row (by omega)]
    have hr71 : xbegL k v 71 k = v 71 k := by rw [xbegL_row (by omega)]
    obtain ⟨u, hu⟩ : ∃ u, u = xbegL k v := ⟨_, rfl⟩
    rw [← hu] at hX hr68 hr69 hr70 hr71 ⊢
    refine r_ex 5 (pc' := 72) (lo' := [some (.inr (.inr (some 91))), some (.inl (k : Int))]) (st' := [.inl (u 68 0), .inl (k : Int)]) rfl ?_
    have hb_1 : 0 ≤ (u 68 0) ∧ (u 68 0) ≤ 5 := hX 68 0
    refine r_ic_ge (pc0 := 72) (len := 3) (t := 126) rfl (by first | assumption | (unfold R32 at *; omega) | omega) (by first | assumption | (unfold R32 at *; omega) | omega) (fun h_72 => ?_) (fun h_72 => ?_)
    · show WV _ _ _ 126 _ _ _ _ _
      refine r_ret (rr := none) (I := .return_) (pc0 := 126) (len := 1) rfl rfl ?_
      have ek : (v 68 0).toNat = k := by omega
      rw [ek]
      exact ⟨rfl, rfl, hu⟩
    · show WV _ _ _ 75 _ _ _ _ _
      refine r_ex 7 (pc' := 90) (lo' := [some (.inr (.inr (some 91))), some (.inl (k : Int))]) (st' := [.inl (k : Int), .inr (.inr (some 70)), .inr (.inr (some 73))]) rfl ?_
      refine r_iald2 (j := 0) (x := (u 70 (((k : Int)).toNat))) (pc' := 91) (pc0 := 90) (len := 1) rfl (s_70 _) (by first | assumption | (unfold R32 at *; omega) | omega) (by decide) rfl rfl ?_
      have hb_2 : 0 ≤ (u 70 (((k : Int)).toNat)) ∧ (u 70 (((k : Int)).toNat)) ≤ 299 := hX 70 (((k : Int)).toNat)
      refine r_ex 5 (pc' := 102) (lo' := [some (.inr (.inr (some 91))), some (.inl (k : Int))]) (st' := [.inl (k : Int), .inr (.inr (some 69)), .inl (u 70 (((k : Int)).toNat)), .inr (.inr (some 73))]) rfl ?_
      refine r_iald2 (j := 0) (x := (u 69 (((k : Int)).toNat))) (pc' := 103) (pc0 := 102) (len := 1) rfl (s_69 _) (by first | assumption | (unfold R32 at *; omega) | omega) (by decide) rfl rfl ?_
      have hb_3 : 0 ≤ (u 69 (((k : Int)).toNat)) ∧ (u 69 (((k : Int)).toNat)) ≤ 8 := hX 69 (((k : Int)).toNat)
      refine r_ex 5 (pc' := 114) (lo' := [some (.inr (.inr (some 91))), some (.inl (k : Int))]) (st' := [.inl (k : Int), .inr (.inr (some 71)), .inl (u 69 (((k : Int)).toNat)), .inl (u 70 (((k : Int)).toNat)), .inr (.inr (some 73))]) rfl ?_
      refine r_iald2 (j := 0) (x := (u 71 (((k : Int)).toNat))) (pc' := 115) (pc0 := 114) (len := 1) rfl (s_71 _) (by first | assumption | (unfold R32 at *; omega) | omega) (by decide) rfl rfl ?_
      have hb_4 : 0 ≤ (u 71 (((k : Int)).toNat)) ∧ (u 71 (((k : Int)).toNat)) ≤ 99 := hX 71 (((k : Int)).toNat)
      refine r_ex 2 (pc' := 117) (lo' := [some (.inr (.inr (some 91))), some (.inl (k : Int))]) (st' := [.inl (-1), .inl (-1), .inl (u 71 (((k : Int)).toNat)), .inl (u 69 (((k : Int)).toNat)), .inl (u 70 (((k : Int)).toNat)), .inr (.inr (some 73))]) rfl ?_
      refine r_call (m := 77) (args := [.inr (.inr (some 73)), .inl (u 70 (((k : Int)).toNat)), .inl (u 69 (((k : Int)).toNat)), .inl (u 71 (((k : Int)).toNat)), .inl (-1), .inl (-1)]) (n' := 75) (pc' := 120) (lo' := [some (.inr (.inr (some 91))), some (.inl (k : Int))]) (st' := []) (I := .invokevirtual 77) (pc0 := 117) (len := 3) rfl rfl rfl (x_put hX (by omega) (by omega) (by omega) (by omega) (by omega)) ?_
      show WV _ _ _ 120 _ [] _ (xput u (u 70 (((k : Int)).toNat)) (u 69 (((k : Int)).toNat)) (u 71 (((k : Int)).toNat)) (-1) (-1)) _
      have hXput := XI_put (s := (u 70 (((k : Int)).toNat))) (c := (u 69 (((k : Int)).toNat))) (h := (u 71 (((k : Int)).toNat))) (y := (-1)) (e := (-1)) hX (by omega) (by omega) (by omega) (by omega) (by omega)
      refine r_ex 2 (pc' := 61) (lo' := [some (.inr (.inr (some 91))), some (.inl ((k : Int) + 1))]) (st' := []) rfl ?_
      have hk1 := ih (k + 1) (by omega) (by omega)
      rw [show ((k + 1 : Nat) : Int) = (k : Int) + 1 by omega] at hk1
      have e1 : xbegL (k + 1) v = (xput u (u 70 (((k : Int)).toNat)) (u 69 (((k : Int)).toNat)) (u 71 (((k : Int)).toNat)) (-1) (-1)) := by
        rw [xbegL, ← hu, ← hr69, ← hr70, ← hr71]
        rfl
      rw [e1] at hk1
      exact hk1

theorem x_begin91 {X : PX} {d b : Nat} {v : VS}  (hX : XI v) : EvV X (d + 1 + 1) 75 [.inr (.inr (some 91))] b v (none) b (xbegin 91 v) := by
  refine EvV.of ?_
  show WV _ _ _ 0 [some (.inr (.inr (some 91))), none] [] _ _ _
  refine r_ex 2 (pc' := 2) (lo' := [some (.inr (.inr (some 91))), none]) (st' := [.inl 0, .inr (.inr (some 91))]) rfl ?_
  refine r_puti2 (j := 4) (pc' := 5) (pc0 := 2) (len := 3) rfl (s_91 _) rfl rfl rfl (Or.inl rfl) rfl rfl ?_
  have hX_1 : XI (v2 v 91 4 0) := XI.put hX (show 0 ≤ 0 ∧ 0 ≤ 300 from (by first | assumption | (unfold R32 at *; omega) | omega))
  refine r_ex 2 (pc' := 7) (lo' := [some (.inr (.inr (some 91))), none]) (st' := [.inl 0, .inr (.inr (some 91))]) rfl ?_
  refine r_puti2 (j := 16) (pc' := 10) (pc0 := 7) (len := 3) rfl (s_91 _) rfl rfl rfl (Or.inl rfl) rfl rfl ?_
  have hX_2 : XI (v2 (v2 v 91 4 0) 91 16 0) := XI.put hX_1 (show 0 ≤ 0 ∧ 0 ≤ 511 from (by first | assumption | (unfold R32 at *; omega) | omega))
  refine r_ex 2 (pc' := 12) (lo' := [some (.inr (.inr (some 91))), none]) (st' := [.inl 0, .inr (.inr (some 91))]) rfl ?_
  refine r_puti2 (j := 17) (pc' := 15) (pc0 := 12) (len := 3) rfl (s_91 _) rfl rfl rfl (Or.inr rfl) rfl rfl ?_
  have hX_3 : XI (v2 (v2 (v2 v 91 4 0) 91 16 0) 91 17 0) := XI.put hX_2 (show 0 ≤ 0 ∧ 0 ≤ 1 from (by first | assumption | (unfold R32 at *; omega) | omega))
  refine r_ex 2 (pc' := 17) (lo' := [some (.inr (.inr (some 91))), none]) (st' := [.inl 0, .inr (.inr (some 91))]) rfl ?_
  refine r_puti2 (j := 18) (pc' := 20) (pc0 := 17) (len := 3) rfl (s_91 _) rfl rfl rfl (Or.inr rfl) rfl rfl ?_
  have hX_4 : XI (v2 (v2 (v2 (v2 v 91 4 0) 91 16 0) 91 17 0) 91 18 0) := XI.put hX_3 (show 0 ≤ 0 ∧ 0 ≤ 1 from (by first | assumption | (unfold R32 at *; omega) | omega))
  refine r_ex 3 (pc' := 25) (lo' := [some (.inr (.inr (some 91))), none]) (st' := [.inl 0, .inr (.inr (some 97))]) rfl ?_
  refine r_call (m := 20) (args := [.inr (.inr (some 97)), .inl 0]) (n' := 75) (pc' := 28) (lo' := [some (.inr (.inr (some 91))), none]) (st' := []) (I := .invokestatic 20) (pc0 := 25) (len := 3) rfl rfl rfl (j_fill (s_97 _) (by decide)) ?_
  show WV _ _ _ 28 _ [] _ (vfill (v2 (v2 (v2 (v2 v 91 4 0) 91 16 0) 91 17 0) 91 18 0) 97 8 0) _
  have hXf_5 : XI (vfill (v2 (v2 (v2 (v2 v 91 4 0) 91 16 0) 91 17 0) 91 18 0) 97 8 0) := XI_fillN hX_4 (fun j => trivial)
  refine r_ex 3 (pc' := 33) (lo' := [some (.inr (.inr (some 91))), none]) (st' := [.inl 0, .inr (.inr (some 98))]) rfl ?_
  refine r_call (m := 20) (args := [.inr (.inr (some 98)), .inl 0]) (n' := 75) (pc' := 36) (lo' := [some (.inr (.inr (some 91))), none]) (st' := []) (I := .invokestatic 20) (pc0 := 33) (len := 3) rfl rfl rfl (j_fill (s_98 _) (by decide)) ?_
  show WV _ _ _ 36 _ [] _ (vfill (vfill (v2 (v2 (v2 (v2 v 91 4 0) 91 16 0) 91 17 0) 91 18 0) 97 8 0) 98 12 0) _
  have hXf_6 : XI (vfill (vfill (v2 (v2 (v2 (v2 v 91 4 0) 91 16 0) 91 17 0) 91 18 0) 97 8 0) 98 12 0) := XI_fillN hXf_5 (fun j => trivial)
  refine r_ex 3 (pc' := 41) (lo' := [some (.inr (.inr (some 91))), none]) (st' := [.inl 0, .inr (.inr (some 99))]) rfl ?_
  refine r_call (m := 20) (args := [.inr (.inr (some 99)), .inl 0]) (n' := 75) (pc' := 44) (lo' := [some (.inr (.inr (some 91))), none]) (st' := []) (I := .invokestatic 20) (pc0 := 41) (len := 3) rfl rfl rfl (j_fill (s_99 _) (by decide)) ?_
  show WV _ _ _ 44 _ [] _ (vfill (vfill (vfill (v2 (v2 (v2 (v2 v 91 4 0) 91 16 0) 91 17 0) 91 18 0) 97 8 0) 98 12 0) 99 12 0) _
  have hXf_7 : XI (vfill (vfill (vfill (v2 (v2 (v2 (v2 v 91 4 0) 91 16 0) 91 17 0) 91 18 0) 97 8 0) 98 12 0) 99 12 0) := XI_fillN hXf_6 (fun j => trivial)
  refine r_ex 3 (pc' := 49) (lo' := [some (.inr (.inr (some 91))), none]) (st' := [.inl 0, .inr (.inr (some 100))]) rfl ?_
  refine r_call (m := 20) (args := [.inr (.inr (some 100)), .inl 0]) (n' := 75) (pc' := 52) (lo' := [some (.inr (.inr (some 91))), none]) (st' := []) (I := .invokestatic 20) (pc0 := 49) (len := 3) rfl rfl rfl (j_fill (s_100 _) (by decide)) ?_
  show WV _ _ _ 52 _ [] _ (vfill (vfill (vfill (vfill (v2 (v2 (v2 (v2 v 91 4 0) 91 16 0) 91 17 0) 91 18 0) 97 8 0) 98 12 0) 99 12 0) 100 12 0) _
  have hXf_8 : XI (vfill (vfill (vfill (vfill (v2 (v2 (v2 (v2 v 91 4 0) 91 16 0) 91 17 0) 91 18 0) 97 8 0) 98 12 0) 99 12 0) 100 12 0) := XI_fillN hXf_7 (fun j => trivial)
  refine r_ex 2 (pc' := 56) (lo' := [some (.inr (.inr (some 91))), none]) (st' := [.inr (.inr (some 73))]) rfl ?_
  refine r_call (m := 76) (args := [.inr (.inr (some 73))]) (n' := 75) (pc' := 59) (lo' := [some (.inr (.inr (some 91))), none]) (st' := []) (I := .invokevirtual 76) (pc0 := 56) (len := 3) rfl rfl rfl (x_clear hXf_8) ?_
  show WV _ _ _ 59 _ [] _ (xclear (vfill (vfill (vfill (vfill (v2 (v2 (v2 (v2 v 91 4 0) 91 16 0) 91 17 0) 91 18 0) 97 8 0) 98 12 0) 99 12 0) 100 12 0)) _
  have hXcl := XI_clear hXf_8
  refine r_ex 2 (pc' := 61) (lo' := [some (.inr (.inr (some 91))), some (.inl 0)]) (st' := []) rfl ?_
  have hX0 := XI_beg0_91 hX
  have h68 : 0 ≤ v 68 0 ∧ v 68 0 ≤ 5 := hX 68 0
  have hr68 : xbeg0 91 v 68 0 = v 68 0 := by rw [xbeg0_row91 (by omega) (by omega) (by omega)]
  have h := x_begL91 (X := X) (d := d) (b := b) hX0 ((v 68 0).toNat + 1) 0 (by omega) (by omega)
  rw [hr68] at h
  exact h
