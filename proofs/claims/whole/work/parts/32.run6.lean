/-! going out -/
theorem v2_row {v : VS} {k j k' : Nat} {x : Int} (h : k' ≠ k) : v2 v k j x k' = v k' := by
  unfold v2
  rw [fset_at, if_neg h]
theorem xput_row {v : VS} {s c h y e : Int} {k : Nat} (hk : k < 73 ∨ 78 < k) : xput v s c h y e k = v k := by
  unfold xput
  split
  · rw [v2_row (by omega), v2_row (by omega), v2_row (by omega), v2_row (by omega), v2_row (by omega), v2_row (by omega), v2_row (by omega)]
  · split
    · rw [v2_row (by omega), v2_row (by omega), v2_row (by omega), v2_row (by omega), v2_row (by omega), v2_row (by omega)]
    · rw [v2_row (by omega), v2_row (by omega), v2_row (by omega)]
theorem xhear_row {R : Nat} {v : VS} {i e t l : Int} {k : Nat} (hk : k < 73 ∨ 78 < k) (h1 : k ≠ R + 6) (h2 : k ≠ R + 8) : xhear R v i e t l k = v k := by
  unfold xhear
  split
  · rw [v2_row h1]
  · split
    · rw [v2_row h1]
    · rw [xput_row hk, v2_row h2]
theorem xcarry_row {R : Nat} {v : VS} {i e : Int} {k : Nat} (hk : k < 73 ∨ 78 < k) (h1 : k ≠ R + 6) (h2 : k ≠ R + 7) (h3 : k ≠ R + 8) : xcarry R v i e k = v k := by
  unfold xcarry
  split
  · rw [v2_row h1]
  · split
    · rw [v2_row h2, v2_row h1]
    · split
      · rw [v2_row h1]
      · rw [xhear_row hk h1 h3]
def xgoE (R : Nat) (v : VS) (i e : Int) : VS := if v 39 e.toNat = v (R + 2) i.toNat ∧ bt (v 67 1) e = 0 then xcarry R (v2 v (R + 9) e.toNat (v (R + 9) e.toNat + 1)) i e else v
def xgoL (R : Nat) (i : Int) : Nat → VS → VS
  | 0, v => v
  | k + 1, v => xgoE R (xgoL R i k v) i (k : Int)
def xgo (R : Nat) (v : VS) (i : Int) : VS := if v R 17 ≠ 0 ∨ i = v 67 5 then v else xgoL R i (v 37 0).toNat v
theorem xgoE_row {R : Nat} {v : VS} {i e : Int} {k : Nat} (hk : k < 73 ∨ 78 < k) (h1 : k < R + 6 ∨ R + 9 < k) : xgoE R v i e k = v k := by
  unfold xgoE
  split
  · rw [xcarry_row hk (by omega) (by omega) (by omega), v2_row (by omega)]
  · rfl
theorem xgoL_row {R : Nat} {i : Int} {k : Nat} (hk : k < 73 ∨ 78 < k) (h1 : k < R + 6 ∨ R + 9 < k) : ∀ (m : Nat) (v : VS), xgoL R i m v k = v k := by
  intro m
  induction m with
  | zero => intro v; rfl
  | succ m ih => intro v; rw [xgoL, xgoE_row hk h1, ih]
theorem xgo_row {R : Nat} {v : VS} {i : Int} {k : Nat} (hk : k < 73 ∨ 78 < k) (h1 : k < R + 6 ∨ R + 9 < k) : xgo R v i k = v k := by
  unfold xgo
  split
  · rfl
  · exact xgoL_row hk h1 _ _
theorem XI_goL79 {v : VS} {i : Int} (hX : XI v) (hi : 0 ≤ i ∧ i < 300) : ∀ (m : Nat), m ≤ 12 → XI (xgoL 79 i m v) := by
  intro m
  induction m with
  | zero => intro _; exact hX
  | succ m ih =>
    intro hm
    have h := ih (by omega)
    simp only [xgoL, xgoE, Nat.reduceAdd]
    split
    · refine XI_carry79 (XI.put h ?_) hi (by omega)
      exact trivial
    · exact h
theorem XI_go79 {v : VS} {i : Int} (hX : XI v) (hi : 0 ≤ i ∧ i < 300) : XI (xgo 79 v i) := by
  have h1 : 0 ≤ v 37 0 ∧ v 37 0 ≤ 12 := hX 37 0
  unfold xgo
  split
  · exact hX
  · exact XI_goL79 hX hi _ (by omega)

theorem x_goL79 {X : PX} {d b : Nat} {v : VS} {i : Int} (hX0 : XI v) (hi : 0 ≤ i ∧ i < 300) : ∀ (f k : Nat), (k : Int) ≤ v 37 0 → (v 37 0).toNat - k < f → WV X (d + 1 + 1 + 1 + 1) 81 21 [some (.inr (.inr (some 79))), some (.inl i), some (.inl (k : Int))] [] b (xgoL 79 i k v) (fun r b' v' => r = none ∧ b' = b ∧ v' = xgoL 79 i (v 37 0).toNat v) := by
  intro f
  induction f with
  | zero => intro k h1 h2; omega
  | succ f ih =>
    intro k h1 h2
    have h37 : 0 ≤ v 37 0 ∧ v 37 0 ≤ 12 := hX0 37 0
    have hX := XI_goL79 hX0 hi k (by omega)
    have hr37 : xgoL 79 i k v 37 0 = v 37 0 := by rw [xgoL_row (by omega) (by omega)]
    obtain ⟨u, hu⟩ : ∃ u, u = xgoL 79 i k v := ⟨_, rfl⟩
    rw [← hu] at hX hr37 ⊢
    refine r_ex 5 (pc' := 32) (lo' := [some (.inr (.inr (some 79))), some (.inl i), some (.inl (k : Int))]) (st' := [.inl (u 37 0), .inl (k : Int)]) rfl ?_
    have hb_1 : 0 ≤ (u 37 0) ∧ (u 37 0) ≤ 12 := hX 37 0
    refine r_ic_ge (pc0 := 32) (len := 3) (t := 92) rfl (by first | assumption | (unfold R32 at *; omega) | omega) (by first | assumption | (unfold R32 at *; omega) | omega) (fun h_32 => ?_) (fun h_32 => ?_)
    · show WV _ _ _ 92 _ _ _ _ _
      refine r_ret (rr := none) (I := .return_) (pc0 := 92) (len := 1) rfl rfl ?_
      have ek : (v 37 0).toNat = k := by omega
      rw [ek]
      exact ⟨rfl, rfl, hu⟩
    · show WV _ _ _ 35 _ _ _ _ _
      refine r_ex 5 (pc' := 46) (lo' := [some (.inr (.inr (some 79))), some (.inl i), some (.inl (k : Int))]) (st' := [.inl (k : Int), .inr (.inr (some 39))]) rfl ?_
      refine r_iald2 (j := 0) (x := (u 39 (((k : Int)).toNat))) (pc' := 47) (pc0 := 46) (len := 1) rfl (s_39 _) (by first | assumption | (unfold R32 at *; omega) | omega) (by decide) rfl rfl ?_
      have hb_2 : 0 ≤ (u 39 (((k : Int)).toNat)) ∧ (u 39 (((k : Int)).toNat)) ≤ 8 := hX 39 (((k : Int)).toNat)
      refine r_ex 3 (pc' := 52) (lo' := [some (.inr (.inr (some 79))), some (.inl i), some (.inl (k : Int))]) (st' := [.inl i, .inr (.inr (some 81)), .inl (u 39 (((k : Int)).toNat))]) rfl ?_
      refine r_iald2 (j := 0) (x := (u 81 ((i).toNat))) (pc' := 53) (pc0 := 52) (len := 1) rfl (s_81 _) (by first | assumption | (unfold R32 at *; omega) | omega) (by decide) rfl rfl ?_
      have hb_3 : 0 ≤ (u 81 ((i).toNat)) ∧ (u 81 ((i).toNat)) ≤ 8 := hX 81 ((i).toNat)
      refine r_ic_ne (pc0 := 53) (len := 3) (t := 86) rfl (by first | assumption | (unfold R32 at *; omega) | omega) (by first | assumption | (unfold R32 at *; omega) | omega) (fun h_53 => ?_) (fun h_53 => ?_)
      · show WV _ _ _ 86 _ _ _ _ _
        refine r_ex 2 (pc' := 21) (lo' := [some (.inr (.inr (some 79))), some (.inl i), some (.inl ((k : Int) + 1))]) (st' := []) rfl ?_
        have hk1 := ih (k + 1) (by omega) (by omega)
        rw [show ((k + 1 : Nat) : Int) = (k : Int) + 1 by omega] at hk1
        have e1 : xgoL 79 i (k + 1) v = u := by
          rw [xgoL, ← hu]
          simp only [xgoE, Nat.reduceAdd]
          (first | (rw [if_pos (by omega)]; done) | (rw [if_neg (by omega)]; done))
        rw [e1] at hk1
        exact hk1
      · show WV _ _ _ 56 _ _ _ _ _
        refine r_ex 4 (pc' := 64) (lo' := [some (.inr (.inr (some 79))), some (.inl i), some (.inl (k : Int))]) (st' := [.inl (k : Int), .inl (u 67 1)]) rfl ?_
        have hb_4 : 0 ≤ (u 67 1) ∧ (u 67 1) ≤ 4095 := hX 67 1
        refine r_call (m := 63) (args := [.inl (u 67 1), .inl (k : Int)]) (n' := 81) (pc' := 67) (lo' := [some (.inr (.inr (some 79))), some (.inl i), some (.inl (k : Int))]) (st' := []) (I := .invokestatic 63) (pc0 := 64) (len := 3) rfl rfl rfl (x_bitb (by omega) (by omega)) ?_
        show WV _ _ _ 67 _ [.inl (bt (u 67 1) (k : Int))] _ u _
        have hb_5 := bt01 (u 67 1) (k : Int)
        refine r_if_ne (pc0 := 67) (len := 3) (t := 86) rfl (by first | assumption | (unfold R32 at *; omega) | omega) (fun h_67 => ?_) (fun h_67 => ?_)
        · show WV _ _ _ 86 _ _ _ _ _
          refine r_ex 2 (pc' := 21) (lo' := [some (.inr (.inr (some 79))), some (.inl i), some (.inl ((k : Int) + 1))]) (st' := []) rfl ?_
          have hk1 := ih (k + 1) (by omega) (by omega)
          rw [show ((k + 1 : Nat) : Int) = (k : Int) + 1 by omega] at hk1
          have e1 : xgoL 79 i (k + 1) v = u := by
            rw [xgoL, ← hu]
            simp only [xgoE, Nat.reduceAdd]
            (first | (rw [if_pos (by omega)]; done) | (rw [if_neg (by omega)]; done))
          rw [e1] at hk1
          exact hk1
        · show WV _ _ _ 70 _ _ _ _ _
          refine r_ex 4 (pc' := 76) (lo' := [some (.inr (.inr (some 79))), some (.inl i), some (.inl (k : Int))]) (st' := [.inl (k : Int), .inr (.inr (some 88)), .inl (k : Int), .inr (.inr (some 88))]) rfl ?_
          refine r_iald2 (j := 0) (x := (u 88 (((k : Int)).toNat))) (pc' := 77) (pc0 := 76) (len := 1) rfl (s_88 _) (by first | assumption | (unfold R32 at *; omega) | omega) (by decide) rfl rfl ?_
          refine r_ex 2 (pc' := 79) (lo' := [some (.inr (.inr (some 79))), some (.inl i), some (.inl (k : Int))]) (st' := [.inl ((u 88 (((k : Int)).toNat)) + 1), .inl (k : Int), .inr (.inr (some 88))]) rfl ?_
          refine r_iast2 (pc' := 80) (pc0 := 79) (len := 1) rfl (s_88 _) (by first | assumption | (unfold R32 at *; omega) | omega) (by decide) rfl ?_
          have hX_6 : XI (v2 u 88 (((k : Int)).toNat) ((u 88 (((k : Int)).toNat)) + 1)) := XI.put hX trivial
          refine r_ex 3 (pc' := 83) (lo' := [some (.inr (.inr (some 79))), some (.inl i), some (.inl (k : Int))]) (st' := [.inl (k : Int), .inl i, .inr (.inr (some 79))]) rfl ?_
          refine r_call (m := 82) (args := [.inr (.inr (some 79)), .inl i, .inl (k : Int)]) (n' := 81) (pc' := 86) (lo' := [some (.inr (.inr (some 79))), some (.inl i), some (.inl (k : Int))]) (st' := []) (I := .invokevirtual 82) (pc0 := 83) (len := 3) rfl rfl rfl (x_carry79 hX_6 (by omega) (by omega)) ?_
          show WV _ _ _ 86 _ [] _ (xcarry 79 (v2 u 88 (((k : Int)).toNat) ((u 88 (((k : Int)).toNat)) + 1)) i (k : Int)) _
          refine r_ex 2 (pc' := 21) (lo' := [some (.inr (.inr (some 79))), some (.inl i), some (.inl ((k : Int) + 1))]) (st' := []) rfl ?_
          have hk1 := ih (k + 1) (by omega) (by omega)
          rw [show ((k + 1 : Nat) : Int) = (k : Int) + 1 by omega] at hk1
          have e1 : xgoL 79 i (k + 1) v = (xcarry 79 (v2 u 88 (((k : Int)).toNat) ((u 88 (((k : Int)).toNat)) + 1)) i (k : Int)) := by
            rw [xgoL, ← hu]
            simp only [xgoE, Nat.reduceAdd]
            (first | (rw [if_pos (by omega)]; done) | (rw [if_neg (by omega)]; done))
          rw [e1] at hk1
          exact hk1

theorem x_go79 {X : PX} {d b : Nat} {v : VS} {i : Int} (hX : XI v) (hi : 0 ≤ i ∧ i < 300) : EvV X (d + 1 + 1 + 1 + 1) 81 [.inr (.inr (some 79)), .inl i] b v (none) b (xgo 79 v i) := by
  refine EvV.of ?_
  show WV _ _ _ 0 [some (.inr (.inr (some 79))), some (.inl i), none] [] _ _ _
  refine r_ex 2 (pc' := 4) (lo' := [some (.inr (.inr (some 79))), some (.inl i), none]) (st' := [.inl (v 79 17)]) rfl ?_
  have hb_1 : 0 ≤ (v 79 17) ∧ (v 79 17) ≤ 1 := hX 79 17
  refine r_if_ne (pc0 := 4) (len := 3) (t := 18) rfl (by first | assumption | (unfold R32 at *; omega) | omega) (fun h_4 => ?_) (fun h_4 => ?_)
  · show WV _ _ _ 18 _ _ _ _ _
    refine r_ret (rr := none) (I := .return_) (pc0 := 18) (len := 1) rfl rfl ?_
    refine ⟨rfl, rfl, ?_⟩
    unfold xgo
    rw [if_pos (by omega)]
  · show WV _ _ _ 7 _ _ _ _ _
    refine r_ex 4 (pc' := 15) (lo' := [some (.inr (.inr (some 79))), some (.inl i), none]) (st' := [.inl (v 67 5), .inl i]) rfl ?_
    have hb_2 : -1 ≤ (v 67 5) ∧ (v 67 5) ≤ 299 := hX 67 5
    refine r_ic_ne (pc0 := 15) (len := 3) (t := 19) rfl (by first | assumption | (unfold R32 at *; omega) | omega) (by first | assumption | (unfold R32 at *; omega) | omega) (fun h_15 => ?_) (fun h_15 => ?_)
    · show WV _ _ _ 19 _ _ _ _ _
      refine r_ex 2 (pc' := 21) (lo' := [some (.inr (.inr (some 79))), some (.inl i), some (.inl 0)]) (st' := []) rfl ?_
      have h37 : 0 ≤ v 37 0 ∧ v 37 0 ≤ 12 := hX 37 0
      have e1 : xgo 79 v i = xgoL 79 i (v 37 0).toNat v := by unfold xgo; rw [if_neg (by omega)]
      rw [e1]
      exact x_goL79 hX hi ((v 37 0).toNat + 1) 0 (by omega) (by omega)
    · show WV _ _ _ 18 _ _ _ _ _
      refine r_ret (rr := none) (I := .return_) (pc0 := 18) (len := 1) rfl rfl ?_
      refine ⟨rfl, rfl, ?_⟩
      unfold xgo
      rw [if_pos (by omega)]

theorem XI_goL91 {v : VS} {i : Int} (hX : XI v) (hi : 0 ≤ i ∧ i < 300) : ∀ (m : Nat), m ≤ 12 → XI (xgoL 91 i m v) := by
  intro m
  induction m with
  | zero => intro _; exact hX
  | succ m ih =>
    intro hm
    have h := ih (by omega)
    simp only [xgoL, xgoE, Nat.reduceAdd]
    split
    · refine XI_carry91 (XI.put h ?_) hi (by omega)
      exact trivial
    · exact h
theorem XI_go91 {v : VS} {i : Int} (hX : XI v) (hi : 0 ≤ i ∧ i < 300) : XI (xgo 91 v i) := by
  have h1 : 0 ≤ v 37 0 ∧ v 37 0 ≤ 12 := hX 37 0
  unfold xgo
  split
  · exact hX
  · exact XI_goL91 hX hi _ (by omega)

theorem x_goL91 {X : PX} {d b : Nat} {v : VS} {i : Int} (hX0 : XI v) (hi : 0 ≤ i ∧ i < 300) : ∀ (f k : Nat), (k : Int) ≤ v 37 0 → (v 37 0).toNat - k < f → WV X (d + 1 + 1 + 1 + 1) 81 21 [some (.inr (.inr (some 91))), some (.inl i), some (.inl (k : Int))] [] b (xgoL 91 i k v) (fun r b' v' => r = none ∧ b' = b ∧ v' = xgoL 91 i (v 37 0).toNat v) := by
  intro f
  induction f with
  | zero => intro k h1 h2; omega
  | succ f ih =>
    intro k h1 h2
    have h37 : 0 ≤ v 37 0 ∧ v 37 0 ≤ 12 := hX0 37 0
    have hX := XI_goL91 hX0 hi k (by omega)
    have hr37 : xgoL 91 i k v 37 0 = v 37 0 := by rw [xgoL_row (by omega) (by omega)]
    obtain ⟨u, hu⟩ : ∃ u, u = xgoL 91 i k v := ⟨_, rfl⟩
    rw [← hu] at hX hr37 ⊢
    refine r_ex 5 (pc' := 32) (lo' := [some (.inr (.inr (some 91))), some (.inl i), some (.inl (k : Int))]) (st' := [.inl (u 37 0), .inl (k : Int)]) rfl ?_
    have hb_1 : 0 ≤ (u 37 0) ∧ (u 37 0) ≤ 12 := hX 37 0
    refine r_ic_ge (pc0 := 32) (len := 3) (t := 92) rfl (by first | assumption | (unfold R32 at *; omega) | omega) (by first | assumption | (unfold R32 at *; omega) | omega) (fun h_32 => ?_) (fun h_32 => ?_)
    · show WV _ _ _ 92 _ _ _ _ _
      refine r_ret (rr := none) (I := .return_) (pc0 := 92) (len := 1) rfl rfl ?_
      have ek : (v 37 0).toNat = k := by omega
      rw [ek]
      exact ⟨rfl, rfl, hu⟩
    · show WV _ _ _ 35 _ _ _ _ _
      refine r_ex 5 (pc' := 46) (lo' := [some (.inr (.inr (some 91))), some (.inl i), some (.inl (k : Int))]) (st' := [.inl (k : Int), .inr (.inr (some 39))]) rfl ?_
      refine r_iald2 (j := 0) (x := (u 39 (((k : Int)).toNat))) (pc' := 47) (pc0 := 46) (len := 1) rfl (s_39 _) (by first | assumption | (unfold R32 at *; omega) | omega) (by decide) rfl rfl ?_
      have hb_2 : 0 ≤ (u 39 (((k : Int)).toNat)) ∧ (u 39 (((k : Int)).toNat)) ≤ 8 := hX 39 (((k : Int)).toNat)
      refine r_ex 3 (pc' := 52) (lo' := [some (.inr (.inr (some 91))), some (.inl i), some (.inl (k : Int))]) (st' := [.inl i, .inr (.inr (some 93)), .inl (u 39 (((k : Int)).toNat))]) rfl ?_
      refine r_iald2 (j := 0) (x := (u 93 ((i).toNat))) (pc' := 53) (pc0 := 52) (len := 1) rfl (s_93 _) (by first | assumption | (unfold R32 at *; omega) | omega) (by decide) rfl rfl ?_
      have hb_3 : 0 ≤ (u 93 ((i).toNat)) ∧ (u 93 ((i).toNat)) ≤ 8 := hX 93 ((i).toNat)
      refine r_ic_ne (pc0 := 53) (len := 3) (t := 86) rfl (by first | assumption | (unfold R32 at *; omega) | omega) (by first | assumption | (unfold R32 at *; omega) | omega) (fun h_53 => ?_) (fun h_53 => ?_)
      · show WV _ _ _ 86 _ _ _ _ _
        refine r_ex 2 (pc' := 21) (lo' := [some (.inr (.inr (some 91))), some (.inl i), some (.inl ((k : Int) + 1))]) (st' := []) rfl ?_
        have hk1 := ih (k + 1) (by omega) (by omega)
        rw [show ((k + 1 : Nat) : Int) = (k : Int) + 1 by omega] at hk1
        have e1 : xgoL 91 i (k + 1) v = u := by
          rw [xgoL, ← hu]
          simp only [xgoE, Nat.reduceAdd]
          (first | (rw [if_pos (by omega)]; done) | (rw [if_neg (by omega)]; done))
        rw [e1] at hk1
        exact hk1
      · show WV _ _ _ 56 _ _ _ _ _
        refine r_ex 4 (pc' := 64) (lo' := [some (.inr (.inr (some 91))), some (.inl i), some (.inl (k : Int))]) (st' := [.inl (k : Int), .inl (u 67 1)]) rfl ?_
        have hb_4 : 0 ≤ (u 67 1) ∧ (u 67 1) ≤ 4095 := hX 67 1
        refine r_call (m := 63) (args := [.inl (u 67 1), .inl (k : Int)]) (n' := 81) (pc' := 67) (lo' := [some (.inr (.inr (some 91))), some (.inl i), some (.inl (k : Int))]) (st' := []) (I := .invokestatic 63) (pc0 := 64) (len := 3) rfl rfl rfl (x_bitb (by omega) (by omega)) ?_
        show WV _ _ _ 67 _ [.inl (bt (u 67 1) (k : Int))] _ u _
        have hb_5 := bt01 (u 67 1) (k : Int)
        refine r_if_ne (pc0 := 67) (len := 3) (t := 86) rfl (by first | assumption | (unfold R32 at *; omega) | omega) (fun h_67 => ?_) (fun h_67 => ?_)
        · show WV _ _ _ 86 _ _ _ _ _
          refine r_ex 2 (pc' := 21) (lo' := [some (.inr (.inr (some 91))), some (.inl i), some (.inl ((k : Int) + 1))]) (st' := []) rfl ?_
          have hk1 := ih (k + 1) (by omega) (by omega)
          rw [show ((k + 1 : Nat) : Int) = (k : Int) + 1 by omega] at hk1
          have e1 : xgoL 91 i (k + 1) v = u := by
            rw [xgoL, ← hu]
            simp only [xgoE, Nat.reduceAdd]
            (first | (rw [if_pos (by omega)]; done) | (rw [if_neg (by omega)]; done))
          rw [e1] at hk1
          exact hk1
        · show WV _ _ _ 70 _ _ _ _ _
          refine r_ex 4 (pc' := 76) (lo' := [some (.inr (.inr (some 91))), some (.inl i), some (.inl (k : Int))]) (st' := [.inl (k : Int), .inr (.inr (some 100)), .inl (k : Int), .inr (.inr (some 100))]) rfl ?_
          refine r_iald2 (j := 0) (x := (u 100 (((k : Int)).toNat))) (pc' := 77) (pc0 := 76) (len := 1) rfl (s_100 _) (by first | assumption | (unfold R32 at *; omega) | omega) (by decide) rfl rfl ?_
          refine r_ex 2 (pc' := 79) (lo' := [some (.inr (.inr (some 91))), some (.inl i), some (.inl (k : Int))]) (st' := [.inl ((u 100 (((k : Int)).toNat)) + 1), .inl (k : Int), .inr (.inr (some 100))]) rfl ?_
          refine r_iast2 (pc' := 80) (pc0 := 79) (len := 1) rfl (s_100 _) (by first | assumption | (unfold R32 at *; omega) | omega) (by decide) rfl ?_
          have hX_6 : XI (v2 u 100 (((k : Int)).toNat) ((u 100 (((k : Int)).toNat)) + 1)) := XI.put hX trivial
          refine r_ex 3 (pc' := 83) (lo' := [some (.inr (.inr (some 91))), some (.inl i), some (.inl (k : Int))]) (st' := [.inl (k : Int), .inl i, .inr (.inr (some 91))]) rfl ?_
          refine r_call (m := 82) (args := [.inr (.inr (some 91)), .inl i, .inl (k : Int)]) (n' := 81) (pc' := 86) (lo' := [some (.inr (.inr (some 91))), some (.inl i), some (.inl (k : Int))]) (st' := []) (I := .invokevirtual 82) (pc0 := 83) (len := 3) rfl rfl rfl (x_carry91 hX_6 (by omega) (by omega)) ?_
          show WV _ _ _ 86 _ [] _ (xcarry 91 (v2 u 100 (((k : Int)).toNat) ((u 100 (((k : Int)).toNat)) + 1)) i (k : Int)) _
          refine r_ex 2 (pc' := 21) (lo' := [some (.inr (.inr (some 91))), some (.inl i), some (.inl ((k : Int) + 1))]) (st' := []) rfl ?_
          have hk1 := ih (k + 1) (by omega) (by omega)
          rw [show ((k + 1 : Nat) : Int) = (k : Int) + 1 by omega] at hk1
          have e1 : xgoL 91 i (k + 1) v = (xcarry 91 (v2 u 100 (((k : Int)).toNat) ((u 100 (((k : Int)).toNat)) + 1)) i (k : Int)) := by
            rw [xgoL, ← hu]
            simp only [xgoE, Nat.reduceAdd]
            (first | (rw [if_pos (by omega)]; done) | (rw [if_neg (by omega)]; done))
          rw [e1] at hk1
          exact hk1

theorem x_go91 {X : PX} {d b : Nat} {v : VS} {i : Int} (hX : XI v) (hi : 0 ≤ i ∧ i < 300) : EvV X (d + 1 + 1 + 1 + 1) 81 [.inr (.inr (some 91)), .inl i] b v (none) b (xgo 91 v i) := by
  refine EvV.of ?_
  show WV _ _ _ 0 [some (.inr (.inr (some 91))), some (.inl i), none] [] _ _ _
  refine r_ex 2 (pc' := 4) (lo' := [some (.inr (.inr (some 91))), some (.inl i), none]) (st' := [.inl (v 91 17)]) rfl ?_
  have hb_1 : 0 ≤ (v 91 17) ∧ (v 91 17) ≤ 1 := hX 91 17
  refine r_if_ne (pc0 := 4) (len := 3) (t := 18) rfl (by first | assumption | (unfold R32 at *; omega) | omega) (fun h_4 => ?_) (fun h_4 => ?_)
  · show WV _ _ _ 18 _ _ _ _ _
    refine r_ret (rr := none) (I := .return_) (pc0 := 18) (len := 1) rfl rfl ?_
    refine ⟨rfl, rfl, ?_⟩
    unfold xgo
    rw [if_pos (by omega)]
  · show WV _ _ _ 7 _ _ _ _ _
    refine r_ex 4 (pc' := 15) (lo' := [some (.inr (.inr (some 91))), some (.inl i), none]) (st' := [.inl (v 67 5), .inl i]) rfl ?_
    have hb_2 : -1 ≤ (v 67 5) ∧ (v 67 5) ≤ 299 := hX 67 5
    refine r_ic_ne (pc0 := 15) (len := 3) (t := 19) rfl (by first | assumption | (unfold R32 at *; omega) | omega) (by first | assumption | (unfold R32 at *; omega) | omega) (fun h_15 => ?_) (fun h_15 => ?_)
    · show WV _ _ _ 19 _ _ _ _ _
      refine r_ex 2 (pc' := 21) (lo' := [some (.inr (.inr (some 91))), some (.inl i), some (.inl 0)]) (st' := []) rfl ?_
      have h37 : 0 ≤ v 37 0 ∧ v 37 0 ≤ 12 := hX 37 0
      have e1 : xgo 91 v i = xgoL 91 i (v 37 0).toNat v := by unfold xgo; rw [if_neg (by omega)]
      rw [e1]
      exact x_goL91 hX hi ((v 37 0).toNat + 1) 0 (by omega) (by omega)
    · show WV _ _ _ 18 _ _ _ _ _
      refine r_ret (rr := none) (I := .return_) (pc0 := 18) (len := 1) rfl rfl ?_
      refine ⟨rfl, rfl, ?_⟩
      unfold xgo
      rw [if_pos (by omega)]
