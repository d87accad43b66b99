/-! rows of the JDK: Arrays.fill; the pure helpers -/
def EvQ (X : PX) (d n : Nat) (args : List PV) (b : Nat) (v : VS) (Q : Option PV → Nat → VS → Prop) : Prop := ∃ r b' v', EvV X d n args b v r b' v' ∧ Q r b' v'
theorem EvQ.of {X : PX} {d n b : Nat} {args : List PV} {v : VS} {Q : Option PV → Nat → VS → Prop} (k : WV X d n 0 (pm_lay args ++ List.replicate ((pm_m n).2.1 - (pm_lay args).length) none) [] b v Q) : EvQ X d n args b v Q := by
  obtain ⟨f, r, h1, e, b', v', rfl, q⟩ := k
  exact ⟨r, b', v', ⟨f, e⟩, q⟩
theorem WV.mono {X : PX} {d n pc b : Nat} {lo : List (Option PV)} {st : List PV} {v : VS} {Q Q' : Option PV → Nat → VS → Prop} (k : WV X d n pc lo st b v Q) (hq : ∀ r b v, Q r b v → Q' r b v) : WV X d n pc lo st b v Q' := by
  refine Wp.mono k ?_
  rintro a h ⟨b', v', rfl, q⟩
  exact ⟨b', v', rfl, hq _ _ _ q⟩
theorem v2_eq (v : VS) (k j : Nat) (x : Int) (k' j' : Nat) : v2 v k j x k' j' = if k' = k ∧ j' = j then x else v k' j' := by
  unfold v2 fset
  by_cases h1 : k' = k
  · subst h1
    by_cases h2 : j' = j <;> simp [h2]
  · simp [h1]
theorem fset_at {α : Type} (f : Nat → α) (k j : Nat) (x : α) : fset f k x j = if j = k then x else f j := rfl
theorem fset_fset {α : Type} (f : Nat → α) (k : Nat) (x y : α) : fset (fset f k x) k y = fset f k y := by
  funext j
  unfold fset
  split <;> rfl
theorem fset_self {α : Type} (f : Nat → α) (k : Nat) : fset f k (f k) = f := by
  funext j
  unfold fset
  split
  · rename_i h; rw [h]
  · rfl
theorem fset_same {α : Type} (f : Nat → α) (k : Nat) (x : α) : fset f k x k = x := by
  unfold fset
  rw [if_pos rfl]
/-- what is behind Arrays.fill(int[], x) -/
def vfill (v : VS) (k m : Nat) (x : Int) : VS := fset v k (fun j => if j < m then x else v k j)
theorem vfill_0 (v : VS) (k : Nat) (x : Int) : vfill v k 0 x = v := by
  unfold vfill
  have e : (fun j => if j < 0 then x else v k j) = v k := by funext j; rw [if_neg (by omega)]
  rw [e, fset_self]
theorem vfill_s (v : VS) (k i : Nat) (x : Int) : v2 (vfill v k i x) k i x = vfill v k (i + 1) x := by
  unfold v2 vfill
  rw [fset_same, fset_fset]
  congr 1
  funext j
  unfold fset
  by_cases h : j = i
  · subst h; rw [if_pos rfl, if_pos (by omega)]
  · rw [if_neg h]
    by_cases h2 : j < i
    · show (if j < i then x else v k j) = _
      rw [if_pos h2, if_pos (by omega)]
    · show (if j < i then x else v k j) = _
      rw [if_neg h2, if_neg (by omega)]
theorem fill_loop {X : PX} {d b k m : Nat} {v : VS} {x : Int} (hs : sh b k = some (.inl (0, m))) (hm : m ≤ 1000000) : ∀ (f i : Nat), i ≤ m → m - i < f → WV X d 20 5 [some (.inr (.inr (some k))), some (.inl x), some (.inl (i : Int)), some (.inl (m : Int))] [] b (vfill v k i x) (fun r b' v' => r = none ∧ b' = b ∧ v' = vfill v k m x) := by
  intro f
  induction f with
  | zero => intro i h1 h2; omega
  | succ f ih =>
    intro i h1 h2
    refine r_ex 2 (pc' := 7) (lo' := [some (.inr (.inr (some k))), some (.inl x), some (.inl (i : Int)), some (.inl (m : Int))]) (st' := [.inl (m : Int), .inl (i : Int)]) rfl ?_
    refine r_ic_ge (pc0 := 7) (len := 3) (t := 20) rfl ⟨by omega, by omega⟩ ⟨by omega, by omega⟩ (fun h_7 => ?_) (fun h_7 => ?_)
    · have e : i = m := by omega
      subst e
      exact r_ret (rr := none) (I := .return_) (pc0 := 20) (len := 1) rfl rfl ⟨rfl, rfl, rfl⟩
    · refine r_ex 3 (pc' := 13) (lo' := [some (.inr (.inr (some k))), some (.inl x), some (.inl (i : Int)), some (.inl (m : Int))]) (st' := [.inl x, .inl (i : Int), .inr (.inr (some k))]) rfl ?_
      refine r_iast2 (pc' := 14) (pc0 := 13) (len := 1) rfl hs ⟨by omega, by omega⟩ hm rfl ?_
      refine r_ex 2 (pc' := 5) (lo' := [some (.inr (.inr (some k))), some (.inl x), some (.inl ((i : Int) + 1)), some (.inl (m : Int))]) (st' := []) rfl ?_
      rw [show ((i : Int)).toNat = i by omega, vfill_s]
      have := ih (i + 1) (by omega) (by omega)
      rw [show ((i + 1 : Nat) : Int) = (i : Int) + 1 by omega] at this
      exact this
theorem j_fill {X : PX} {d b k m : Nat} {v : VS} {x : Int} (hs : sh b k = some (.inl (0, m))) (hm : m ≤ 1000000) : EvV X d 20 [.inr (.inr (some k)), .inl x] b v none b (vfill v k m x) := by
  refine EvV.of ?_
  show WV _ _ _ 0 [some (.inr (.inr (some k))), some (.inl x), none, none] [] _ _ _
  refine r_ex 3 (pc' := 3) (lo' := [some (.inr (.inr (some k))), some (.inl x), some (.inl 0), none]) (st' := [.inr (.inr (some k))]) rfl ?_
  refine r_alen2 (pc' := 4) (pc0 := 3) (len := 1) rfl hs rfl ?_
  refine r_ex 1 (pc' := 5) (lo' := [some (.inr (.inr (some k))), some (.inl x), some (.inl 0), some (.inl (m : Int))]) (st' := []) rfl ?_
  have := fill_loop (X := X) (d := d) (v := v) (x := x) hs hm (m + 1) 0 (by omega) (by omega)
  rw [vfill_0] at this
  exact this
