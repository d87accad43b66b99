/-! striking: the class's run R (79 or 91) -/
def xclear (v : VS) : VS := v2 (v2 (fset v 74 (fun j => if v 73 5 ≤ (j : Int) ∧ (j : Int) ≤ v 73 6 then 0 else v 74 j)) 73 5 300) 73 6 (-1)
def xstr (R : Nat) (v : VS) (s c : Int) : Int × VS :=
  if bt (v 67 0) c = 1 then (0, v2 (v2 v (R + 6) 7 (v (R + 6) 7 + v 78 (s * 9 + c).toNat)) (R + 6) 4 (v (R + 6) 4 + 1))
  else if bt (v R 16) c = 1 ∧ v 67 4 ≠ 4 ∧ s - v (R + 10) c.toNat ≤ v 36 c.toNat then (0, v2 (v2 v (R + 6) 7 (v (R + 6) 7 + v 78 (s * 9 + c).toNat)) (R + 6) 2 (v (R + 6) 2 + 1))
  else if bt (v R 16) c = 1 ∧ (v 34 c.toNat = 1 ∧ v 67 4 ≠ 5) ∧ v 75 (s * 9 + c).toNat ≤ v (R + 11) c.toNat then (0, v2 (v2 v (R + 6) 7 (v (R + 6) 7 + v 78 (s * 9 + c).toNat)) (R + 6) 3 (v (R + 6) 3 + 1))
  else (if v R 4 < 300 then 1 else 0, v2 v (R + 6) 7 (v (R + 6) 7 + v 78 (s * 9 + c).toNat))
theorem x_bitb {X : PX} {d b : Nat} {v : VS} {x c : Int} (hx : 0 ≤ x ∧ x < 4096) (hc : 0 ≤ c ∧ c < 12) : EvV X d 63 [.inl x, .inl c] b v (some (.inl (bt x c))) b v := by
  have q := x_bit (X := X) (d := d) (b := b) (v := v) (c := x) (k := c)
  rw [bit_eq hx hc] at q
  exact q
theorem x_isProud79 {X : PX} {d b : Nat} {v : VS} {c : Int} (hX : XI v) (hc : 0 ≤ c ∧ c < 9) : EvV X d 79 [.inr (.inr (some 79)), .inl c] b v (some (.inl (if v 34 c.toNat = 1 ∧ v 67 4 ≠ 5 then 1 else 0))) b v := by
  refine EvV.of ?_
  show WV _ _ _ 0 [some (.inr (.inr (some 79))), some (.inl c)] [] _ _ _
  refine r_ex 4 (pc' := 8) (lo' := [some (.inr (.inr (some 79))), some (.inl c)]) (st' := [.inl c, .inr (.inr (some 34))]) rfl ?_
  refine r_iald2 (j := 0) (x := (v 34 ((c).toNat))) (pc' := 9) (pc0 := 8) (len := 1) rfl (s_34 _) (by first | assumption | (unfold R32 at *; omega) | omega) (by decide) rfl rfl ?_
  have hb_1 : 0 ≤ (v 34 ((c).toNat)) ∧ (v 34 ((c).toNat)) ≤ 2 := hX 34 ((c).toNat)
  refine r_ex 1 (pc' := 10) (lo' := [some (.inr (.inr (some 79))), some (.inl c)]) (st' := [.inl 1, .inl (v 34 ((c).toNat))]) rfl ?_
  refine r_ic_ne (pc0 := 10) (len := 3) (t := 28) rfl (by first | assumption | (unfold R32 at *; omega) | omega) (by first | assumption | (unfold R32 at *; omega) | omega) (fun h_10 => ?_) (fun h_10 => ?_)
  · show WV _ _ _ 28 _ _ _ _ _
    refine r_ex 1 (pc' := 29) (lo' := [some (.inr (.inr (some 79))), some (.inl c)]) (st' := [.inl 0]) rfl ?_
    refine r_ret (rr := some (.inl 0)) (I := .ireturn) (pc0 := 29) (len := 1) rfl rfl ?_
    refine ⟨?_, rfl, rfl⟩
    congr 2
    (first | (rw [if_pos (by omega)]; done) | (rw [if_neg (by omega)]; done))
  · show WV _ _ _ 13 _ _ _ _ _
    refine r_ex 4 (pc' := 21) (lo' := [some (.inr (.inr (some 79))), some (.inl c)]) (st' := [.inl 5, .inl (v 67 4)]) rfl ?_
    have hb_2 : -1 ≤ (v 67 4) ∧ (v 67 4) ≤ 6 := hX 67 4
    refine r_ic_eq (pc0 := 21) (len := 3) (t := 28) rfl (by first | assumption | (unfold R32 at *; omega) | omega) (by first | assumption | (unfold R32 at *; omega) | omega) (fun h_21 => ?_) (fun h_21 => ?_)
    · show WV _ _ _ 28 _ _ _ _ _
      refine r_ex 1 (pc' := 29) (lo' := [some (.inr (.inr (some 79))), some (.inl c)]) (st' := [.inl 0]) rfl ?_
      refine r_ret (rr := some (.inl 0)) (I := .ireturn) (pc0 := 29) (len := 1) rfl rfl ?_
      refine ⟨?_, rfl, rfl⟩
      congr 2
      (first | (rw [if_pos (by omega)]; done) | (rw [if_neg (by omega)]; done))
    · show WV _ _ _ 24 _ _ _ _ _
      refine r_ex 2 (pc' := 29) (lo' := [some (.inr (.inr (some 79))), some (.inl c)]) (st' := [.inl 1]) rfl ?_
      refine r_ret (rr := some (.inl 1)) (I := .ireturn) (pc0 := 29) (len := 1) rfl rfl ?_
      refine ⟨?_, rfl, rfl⟩
      congr 2
      (first | (rw [if_pos (by omega)]; done) | (rw [if_neg (by omega)]; done))

theorem x_isStruck79 {X : PX} {d b : Nat} {v : VS} {s c : Int} (hX : XI v) (hs : 0 ≤ s ∧ s < 300) (hc : 0 ≤ c ∧ c < 9) : EvV X (d + 1) 78 [.inr (.inr (some 79)), .inl s, .inl c] b v (some (.inl (xstr 79 v s c).1)) b ((xstr 79 v s c).2) := by
  refine EvV.of ?_
  show WV _ _ _ 0 [some (.inr (.inr (some 79))), some (.inl s), some (.inl c), none, none] [] _ _ _
  refine r_ex 9 (pc' := 12) (lo' := [some (.inr (.inr (some 79))), some (.inl s), some (.inl c), some (.inl ((s * 9) + c)), none]) (st' := [.inl c, .inl (v 79 16)]) rfl ?_
  have hb_1 : 0 ≤ (v 79 16) ∧ (v 79 16) ≤ 511 := hX 79 16
  refine r_call (m := 63) (args := [.inl (v 79 16), .inl c]) (n' := 78) (pc' := 15) (lo' := [some (.inr (.inr (some 79))), some (.inl s), some (.inl c), some (.inl ((s * 9) + c)), none]) (st' := []) (I := .invokestatic 63) (pc0 := 12) (len := 3) rfl rfl rfl (x_bitb (by omega) (by omega)) ?_
  show WV _ _ _ 15 _ [.inl (bt (v 79 16) c)] _ v _
  have hb_2 := bt01 (v 79 16) c
  refine r_ex 1 (pc' := 16) (lo' := [some (.inr (.inr (some 79))), some (.inl s), some (.inl c), some (.inl ((s * 9) + c)), none]) (st' := [.inl 1, .inl (bt (v 79 16) c)]) rfl ?_
  refine r_ic_ne (pc0 := 16) (len := 3) (t := 23) rfl (by first | assumption | (unfold R32 at *; omega) | omega) (by first | assumption | (unfold R32 at *; omega) | omega) (fun h_16 => ?_) (fun h_16 => ?_)
  · show WV _ _ _ 23 _ _ _ _ _
    refine r_ex 6 (pc' := 33) (lo' := [some (.inr (.inr (some 79))), some (.inl s), some (.inl c), some (.inl ((s * 9) + c)), some (.inl 0)]) (st' := [.inl 7, .inr (.inr (some 85)), .inl 7, .inr (.inr (some 85))]) rfl ?_
    refine r_iald2 (j := 0) (x := (v 85 7)) (pc' := 34) (pc0 := 33) (len := 1) rfl (s_85 _) (by first | assumption | (unfold R32 at *; omega) | omega) (by decide) rfl rfl ?_
    refine r_ex 4 (pc' := 42) (lo' := [some (.inr (.inr (some 79))), some (.inl s), some (.inl c), some (.inl ((s * 9) + c)), some (.inl 0)]) (st' := [.inl ((s * 9) + c), .inr (.inr (some 78)), .inl (v 85 7), .inl 7, .inr (.inr (some 85))]) rfl ?_
    refine r_iald2 (j := 0) (x := (v 78 ((((s * 9) + c)).toNat))) (pc' := 43) (pc0 := 42) (len := 1) rfl (s_78 _) (by first | assumption | (unfold R32 at *; omega) | omega) (by decide) rfl rfl ?_
    refine r_ex 1 (pc' := 44) (lo' := [some (.inr (.inr (some 79))), some (.inl s), some (.inl c), some (.inl ((s * 9) + c)), some (.inl 0)]) (st' := [.inl ((v 85 7) + (v 78 ((((s * 9) + c)).toNat))), .inl 7, .inr (.inr (some 85))]) rfl ?_
    refine r_iast2 (pc' := 45) (pc0 := 44) (len := 1) rfl (s_85 _) (by first | assumption | (unfold R32 at *; omega) | omega) (by decide) rfl ?_
    have hX_3 : XI (v2 v 85 7 ((v 85 7) + (v 78 ((((s * 9) + c)).toNat)))) := XI.put hX trivial
    show WV _ _ _ 45 _ _ _ (v2 v 85 7 ((v 85 7) + (v 78 ((((s * 9) + c)).toNat)))) _
    refine r_ex 4 (pc' := 53) (lo' := [some (.inr (.inr (some 79))), some (.inl s), some (.inl c), some (.inl ((s * 9) + c)), some (.inl 0)]) (st' := [.inl c, .inl (v 67 0)]) rfl ?_
    have hb_4 : 0 ≤ (v 67 0) ∧ (v 67 0) ≤ 511 := hX_3 67 0
    refine r_call (m := 63) (args := [.inl (v 67 0), .inl c]) (n' := 78) (pc' := 56) (lo' := [some (.inr (.inr (some 79))), some (.inl s), some (.inl c), some (.inl ((s * 9) + c)), some (.inl 0)]) (st' := []) (I := .invokestatic 63) (pc0 := 53) (len := 3) rfl rfl rfl (x_bitb (by omega) (by omega)) ?_
    show WV _ _ _ 56 _ [.inl (bt (v 67 0) c)] _ (v2 v 85 7 ((v 85 7) + (v 78 ((((s * 9) + c)).toNat)))) _
    have hb_5 := bt01 (v 67 0) c
    refine r_ex 1 (pc' := 57) (lo' := [some (.inr (.inr (some 79))), some (.inl s), some (.inl c), some (.inl ((s * 9) + c)), some (.inl 0)]) (st' := [.inl 1, .inl (bt (v 67 0) c)]) rfl ?_
    refine r_ic_ne (pc0 := 57) (len := 3) (t := 72) rfl (by first | assumption | (unfold R32 at *; omega) | omega) (by first | assumption | (unfold R32 at *; omega) | omega) (fun h_57 => ?_) (fun h_57 => ?_)
    · show WV _ _ _ 72 _ _ _ _ _
      refine r_ex 7 (pc' := 170) (lo' := [some (.inr (.inr (some 79))), some (.inl s), some (.inl c), some (.inl ((s * 9) + c)), some (.inl 0)]) (st' := [.inl 300, .inl (v 79 4)]) rfl ?_
      have hb_6 : 0 ≤ (v 79 4) ∧ (v 79 4) ≤ 300 := hX_3 79 4
      refine r_ic_ge (pc0 := 170) (len := 3) (t := 177) rfl (by first | assumption | (unfold R32 at *; omega) | omega) (by first | assumption | (unfold R32 at *; omega) | omega) (fun h_170 => ?_) (fun h_170 => ?_)
      · show WV _ _ _ 177 _ _ _ _ _
        refine r_ex 1 (pc' := 178) (lo' := [some (.inr (.inr (some 79))), some (.inl s), some (.inl c), some (.inl ((s * 9) + c)), some (.inl 0)]) (st' := [.inl 0]) rfl ?_
        refine r_ret (rr := some (.inl 0)) (I := .ireturn) (pc0 := 178) (len := 1) rfl rfl ?_
        refine ⟨?_, rfl, ?_⟩
        · simp only [xstr, Nat.reduceAdd]
          congr 2
          (first | (rw [if_pos (by omega)]; done) | (rw [if_neg (by omega), if_pos (by omega)]; done) | (rw [if_neg (by omega), if_neg (by omega), if_pos (by omega)]; done) | (rw [if_neg (by omega), if_neg (by omega), if_neg (by omega)]; (first | (rw [if_pos (by omega)]; done) | (rw [if_neg (by omega)]; done))))
        · simp only [xstr, Nat.reduceAdd]
          (first | (rw [if_pos (by omega)]; done) | (rw [if_neg (by omega), if_pos (by omega)]; done) | (rw [if_neg (by omega), if_neg (by omega), if_pos (by omega)]; done) | (rw [if_neg (by omega), if_neg (by omega), if_neg (by omega)]; done))
      · show WV _ _ _ 173 _ _ _ _ _
        refine r_ex 2 (pc' := 178) (lo' := [some (.inr (.inr (some 79))), some (.inl s), some (.inl c), some (.inl ((s * 9) + c)), some (.inl 0)]) (st' := [.inl 1]) rfl ?_
        refine r_ret (rr := some (.inl 1)) (I := .ireturn) (pc0 := 178) (len := 1) rfl rfl ?_
        refine ⟨?_, rfl, ?_⟩
        · simp only [xstr, Nat.reduceAdd]
          congr 2
          (first | (rw [if_pos (by omega)]; done) | (rw [if_neg (by omega), if_pos (by omega)]; done) | (rw [if_neg (by omega), if_neg (by omega), if_pos (by omega)]; done) | (rw [if_neg (by omega), if_neg (by omega), if_neg (by omega)]; (first | (rw [if_pos (by omega)]; done) | (rw [if_neg (by omega)]; done))))
        · simp only [xstr, Nat.reduceAdd]
          (first | (rw [if_pos (by omega)]; done) | (rw [if_neg (by omega), if_pos (by omega)]; done) | (rw [if_neg (by omega), if_neg (by omega), if_pos (by omega)]; done) | (rw [if_neg (by omega), if_neg (by omega), if_neg (by omega)]; done))
    · show WV _ _ _ 60 _ _ _ _ _
      refine r_ex 4 (pc' := 66) (lo' := [some (.inr (.inr (some 79))), some (.inl s), some (.inl c), some (.inl ((s * 9) + c)), some (.inl 0)]) (st' := [.inl 4, .inr (.inr (some 85)), .inl 4, .inr (.inr (some 85))]) rfl ?_
      refine r_iald2 (j := 0) (x := (v 85 4)) (pc' := 67) (pc0 := 66) (len := 1) rfl (s_85 _) (by first | assumption | (unfold R32 at *; omega) | omega) (by decide) rfl rfl ?_
      refine r_ex 2 (pc' := 69) (lo' := [some (.inr (.inr (some 79))), some (.inl s), some (.inl c), some (.inl ((s * 9) + c)), some (.inl 0)]) (st' := [.inl ((v 85 4) + 1), .inl 4, .inr (.inr (some 85))]) rfl ?_
      refine r_iast2 (pc' := 70) (pc0 := 69) (len := 1) rfl (s_85 _) (by first | assumption | (unfold R32 at *; omega) | omega) (by decide) rfl ?_
      have hX_7 : XI (v2 (v2 v 85 7 ((v 85 7) + (v 78 ((((s * 9) + c)).toNat)))) 85 4 ((v 85 4) + 1)) := XI.put hX_3 trivial
      show WV _ _ _ 70 _ _ _ (v2 (v2 v 85 7 ((v 85 7) + (v 78 ((((s * 9) + c)).toNat)))) 85 4 ((v 85 4) + 1)) _
      refine r_ex 1 (pc' := 71) (lo' := [some (.inr (.inr (some 79))), some (.inl s), some (.inl c), some (.inl ((s * 9) + c)), some (.inl 0)]) (st' := [.inl 0]) rfl ?_
      refine r_ret (rr := some (.inl 0)) (I := .ireturn) (pc0 := 71) (len := 1) rfl rfl ?_
      refine ⟨?_, rfl, ?_⟩
      · simp only [xstr, Nat.reduceAdd]
        congr 2
        (first | (rw [if_pos (by omega)]; done) | (rw [if_neg (by omega), if_pos (by omega)]; done) | (rw [if_neg (by omega), if_neg (by omega), if_pos (by omega)]; done) | (rw [if_neg (by omega), if_neg (by omega), if_neg (by omega)]; (first | (rw [if_pos (by omega)]; done) | (rw [if_neg (by omega)]; done))))
      · simp only [xstr, Nat.reduceAdd]
        (first | (rw [if_pos (by omega)]; done) | (rw [if_neg (by omega), if_pos (by omega)]; done) | (rw [if_neg (by omega), if_neg (by omega), if_pos (by omega)]; done) | (rw [if_neg (by omega), if_neg (by omega), if_neg (by omega)]; done))
  · show WV _ _ _ 19 _ _ _ _ _
    refine r_ex 7 (pc' := 33) (lo' := [some (.inr (.inr (some 79))), some (.inl s), some (.inl c), some (.inl ((s * 9) + c)), some (.inl 1)]) (st' := [.inl 7, .inr (.inr (some 85)), .inl 7, .inr (.inr (some 85))]) rfl ?_
    refine r_iald2 (j := 0) (x := (v 85 7)) (pc' := 34) (pc0 := 33) (len := 1) rfl (s_85 _) (by first | assumption | (unfold R32 at *; omega) | omega) (by decide) rfl rfl ?_
    refine r_ex 4 (pc' := 42) (lo' := [some (.inr (.inr (some 79))), some (.inl s), some (.inl c), some (.inl ((s * 9) + c)), some (.inl 1)]) (st' := [.inl ((s * 9) + c), .inr (.inr (some 78)), .inl (v 85 7), .inl 7, .inr (.inr (some 85))]) rfl ?_
    refine r_iald2 (j := 0) (x := (v 78 ((((s * 9) + c)).toNat))) (pc' := 43) (pc0 := 42) (len := 1) rfl (s_78 _) (by first | assumption | (unfold R32 at *; omega) | omega) (by decide) rfl rfl ?_
    refine r_ex 1 (pc' := 44) (lo' := [some (.inr (.inr (some 79))), some (.inl s), some (.inl c), some (.inl ((s * 9) + c)), some (.inl 1)]) (st' := [.inl ((v 85 7) + (v 78 ((((s * 9) + c)).toNat))), .inl 7, .inr (.inr (some 85))]) rfl ?_
    refine r_iast2 (pc' := 45) (pc0 := 44) (len := 1) rfl (s_85 _) (by first | assumption | (unfold R32 at *; omega) | omega) (by decide) rfl ?_
    have hX_8 : XI (v2 v 85 7 ((v 85 7) + (v 78 ((((s * 9) + c)).toNat)))) := XI.put hX trivial
    show WV _ _ _ 45 _ _ _ (v2 v 85 7 ((v 85 7) + (v 78 ((((s * 9) + c)).toNat)))) _
    refine r_ex 4 (pc' := 53) (lo' := [some (.inr (.inr (some 79))), some (.inl s), some (.inl c), some (.inl ((s * 9) + c)), some (.inl 1)]) (st' := [.inl c, .inl (v 67 0)]) rfl ?_
    have hb_9 : 0 ≤ (v 67 0) ∧ (v 67 0) ≤ 511 := hX_8 67 0
    refine r_call (m := 63) (args := [.inl (v 67 0), .inl c]) (n' := 78) (pc' := 56) (lo' := [some (.inr (.inr (some 79))), some (.inl s), some (.inl c), some (.inl ((s * 9) + c)), some (.inl 1)]) (st' := []) (I := .invokestatic 63) (pc0 := 53) (len := 3) rfl rfl rfl (x_bitb (by omega) (by omega)) ?_
    show WV _ _ _ 56 _ [.inl (bt (v 67 0) c)] _ (v2 v 85 7 ((v 85 7) + (v 78 ((((s * 9) + c)).toNat)))) _
    have hb_10 := bt01 (v 67 0) c
    refine r_ex 1 (pc' := 57) (lo' := [some (.inr (.inr (some 79))), some (.inl s), some (.inl c), some (.inl ((s * 9) + c)), some (.inl 1)]) (st' := [.inl 1, .inl (bt (v 67 0) c)]) rfl ?_
    refine r_ic_ne (pc0 := 57) (len := 3) (t := 72) rfl (by first | assumption | (unfold R32 at *; omega) | omega) (by first | assumption | (unfold R32 at *; omega) | omega) (fun h_57 => ?_) (fun h_57 => ?_)
    · show WV _ _ _ 72 _ _ _ _ _
      refine r_ex 6 (pc' := 85) (lo' := [some (.inr (.inr (some 79))), some (.inl s), some (.inl c), some (.inl ((s * 9) + c)), some (.inl 1)]) (st' := [.inl 4, .inl (v 67 4)]) rfl ?_
      have hb_11 : -1 ≤ (v 67 4) ∧ (v 67 4) ≤ 6 := hX_8 67 4
      refine r_ic_eq (pc0 := 85) (len := 3) (t := 120) rfl (by first | assumption | (unfold R32 at *; omega) | omega) (by first | assumption | (unfold R32 at *; omega) | omega) (fun h_85 => ?_) (fun h_85 => ?_)
      · show WV _ _ _ 120 _ _ _ _ _
        refine r_ex 4 (pc' := 127) (lo' := [some (.inr (.inr (some 79))), some (.inl s), some (.inl c), some (.inl ((s * 9) + c)), some (.inl 1)]) (st' := [.inl c, .inr (.inr (some 79))]) rfl ?_
        refine r_callb (m := 79) (args := [.inr (.inr (some 79)), .inl c]) (n' := 78) (pc' := 130) (lo' := [some (.inr (.inr (some 79))), some (.inl s), some (.inl c), some (.inl ((s * 9) + c)), some (.inl 1)]) (st' := []) (I := .invokevirtual 79) (pc0 := 127) (len := 3) rfl rfl rfl (x_isProud79 hX_8 (by omega)) (fun h_127 => ?_) (fun h_127 => ?_)
        · show WV _ _ _ 130 _ _ _ _ _
          have h_127 : (v 34 ((c).toNat)) = 1 ∧ (v 67 4) ≠ 5 := h_127
          refine r_ex 5 (pc' := 141) (lo' := [some (.inr (.inr (some 79))), some (.inl s), some (.inl c), some (.inl ((s * 9) + c)), some (.inl 1)]) (st' := [.inl ((s * 9) + c), .inr (.inr (some 75))]) rfl ?_
          refine r_iald2 (j := 0) (x := (v 75 ((((s * 9) + c)).toNat))) (pc' := 142) (pc0 := 141) (len := 1) rfl (s_75 _) (by first | assumption | (unfold R32 at *; omega) | omega) (by decide) rfl rfl ?_
          have hb_12 : 0 ≤ (v 75 ((((s * 9) + c)).toNat)) ∧ (v 75 ((((s * 9) + c)).toNat)) ≤ 99 := hX_8 75 ((((s * 9) + c)).toNat)
          refine r_ex 3 (pc' := 147) (lo' := [some (.inr (.inr (some 79))), some (.inl s), some (.inl c), some (.inl ((s * 9) + c)), some (.inl 1)]) (st' := [.inl c, .inr (.inr (some 90)), .inl (v 75 ((((s * 9) + c)).toNat))]) rfl ?_
          refine r_iald2 (j := 0) (x := (v 90 ((c).toNat))) (pc' := 148) (pc0 := 147) (len := 1) rfl (s_90 _) (by first | assumption | (unfold R32 at *; omega) | omega) (by decide) rfl rfl ?_
          have hb_13 : 0 ≤ (v 90 ((c).toNat)) ∧ (v 90 ((c).toNat)) ≤ 99 := hX_8 90 ((c).toNat)
          refine r_ic_gt (pc0 := 148) (len := 3) (t := 163) rfl (by first | assumption | (unfold R32 at *; omega) | omega) (by first | assumption | (unfold R32 at *; omega) | omega) (fun h_148 => ?_) (fun h_148 => ?_)
          · show WV _ _ _ 163 _ _ _ _ _
            refine r_ex 3 (pc' := 170) (lo' := [some (.inr (.inr (some 79))), some (.inl s), some (.inl c), some (.inl ((s * 9) + c)), some (.inl 1)]) (st' := [.inl 300, .inl (v 79 4)]) rfl ?_
            have hb_14 : 0 ≤ (v 79 4) ∧ (v 79 4) ≤ 300 := hX_8 79 4
            refine r_ic_ge (pc0 := 170) (len := 3) (t := 177) rfl (by first | assumption | (unfold R32 at *; omega) | omega) (by first | assumption | (unfold R32 at *; omega) | omega) (fun h_170 => ?_) (fun h_170 => ?_)
            · show WV _ _ _ 177 _ _ _ _ _
              refine r_ex 1 (pc' := 178) (lo' := [some (.inr (.inr (some 79))), some (.inl s), some (.inl c), some (.inl ((s * 9) + c)), some (.inl 1)]) (st' := [.inl 0]) rfl ?_
              refine r_ret (rr := some (.inl 0)) (I := .ireturn) (pc0 := 178) (len := 1) rfl rfl ?_
              refine ⟨?_, rfl, ?_⟩
              · simp only [xstr, Nat.reduceAdd]
                congr 2
                (first | (rw [if_pos (by omega)]; done) | (rw [if_neg (by omega), if_pos (by omega)]; done) | (rw [if_neg (by omega), if_neg (by omega), if_pos (by omega)]; done) | (rw [if_neg (by omega), if_neg (by omega), if_neg (by omega)]; (first | (rw [if_pos (by omega)]; done) | (rw [if_neg (by omega)]; done))))
              · simp only [xstr, Nat.reduceAdd]
                (first | (rw [if_pos (by omega)]; done) | (rw [if_neg (by omega), if_pos (by omega)]; done) | (rw [if_neg (by omega), if_neg (by omega), if_pos (by omega)]; done) | (rw [if_neg (by omega), if_neg (by omega), if_neg (by omega)]; done))
            · show WV _ _ _ 173 _ _ _ _ _
              refine r_ex 2 (pc' := 178) (lo' := [some (.inr (.inr (some 79))), some (.inl s), some (.inl c), some (.inl ((s * 9) + c)), some (.inl 1)]) (st' := [.inl 1]) rfl ?_
              refine r_ret (rr := some (.inl 1)) (I := .ireturn) (pc0 := 178) (len := 1) rfl rfl ?_
              refine ⟨?_, rfl, ?_⟩
              · simp only [xstr, Nat.reduceAdd]
                congr 2
                (first | (rw [if_pos (by omega)]; done) | (rw [if_neg (by omega), if_pos (by omega)]; done) | (rw [if_neg (by omega), if_neg (by omega), if_pos (by omega)]; done) | (rw [if_neg (by omega), if_neg (by omega), if_neg (by omega)]; (first | (rw [if_pos (by omega)]; done) | (rw [if_neg (by omega)]; done))))
              · simp only [xstr, Nat.reduceAdd]
                (first | (rw [if_pos (by omega)]; done) | (rw [if_neg (by omega), if_pos (by omega)]; done) | (rw [if_neg (by omega), if_neg (by omega), if_pos (by omega)]; done) | (rw [if_neg (by omega), if_neg (by omega), if_neg (by omega)]; done))
          · show WV _ _ _ 151 _ _ _ _ _
            refine r_ex 4 (pc' := 157) (lo' := [some (.inr (.inr (some 79))), some (.inl s), some (.inl c), some (.inl ((s * 9) + c)), some (.inl 1)]) (st' := [.inl 3, .inr (.inr (some 85)), .inl 3, .inr (.inr (some 85))]) rfl ?_
            refine r_iald2 (j := 0) (x := (v 85 3)) (pc' := 158) (pc0 := 157) (len := 1) rfl (s_85 _) (by first | assumption | (unfold R32 at *; omega) | omega) (by decide) rfl rfl ?_
            refine r_ex 2 (pc' := 160) (lo' := [some (.inr (.inr (some 79))), some (.inl s), some (.inl c), some (.inl ((s * 9) + c)), some (.inl 1)]) (st' := [.inl ((v 85 3) + 1), .inl 3, .inr (.inr (some 85))]) rfl ?_
            refine r_iast2 (pc' := 161) (pc0 := 160) (len := 1) rfl (s_85 _) (by first | assumption | (unfold R32 at *; omega) | omega) (by decide) rfl ?_
            have hX_15 : XI (v2 (v2 v 85 7 ((v 85 7) + (v 78 ((((s * 9) + c)).toNat)))) 85 3 ((v 85 3) + 1)) := XI.put hX_8 trivial
            show WV _ _ _ 161 _ _ _ (v2 (v2 v 85 7 ((v 85 7) + (v 78 ((((s * 9) + c)).toNat)))) 85 3 ((v 85 3) + 1)) _
            refine r_ex 1 (pc' := 162) (lo' := [some (.inr (.inr (some 79))), some (.inl s), some (.inl c), some (.inl ((s * 9) + c)), some (.inl 1)]) (st' := [.inl 0]) rfl ?_
            refine r_ret (rr := some (.inl 0)) (I := .ireturn) (pc0 := 162) (len := 1) rfl rfl ?_
            refine ⟨?_, rfl, ?_⟩
            · simp only [xstr, Nat.reduceAdd]
              congr 2
              (first | (rw [if_pos (by omega)]; done) | (rw [if_neg (by omega), if_pos (by omega)]; done) | (rw [if_neg (by omega), if_neg (by omega), if_pos (by omega)]; done) | (rw [if_neg (by omega), if_neg (by omega), if_neg (by omega)]; (first | (rw [if_pos (by omega)]; done) | (rw [if_neg (by omega)]; done))))
            · simp only [xstr, Nat.reduceAdd]
              (first | (rw [if_pos (by omega)]; done) | (rw [if_neg (by omega), if_pos (by omega)]; done) | (rw [if_neg (by omega), if_neg (by omega), if_pos (by omega)]; done) | (rw [if_neg (by omega), if_neg (by omega), if_neg (by omega)]; done))
        · show WV _ _ _ 130 _ _ _ _ _
          have h_127 : ¬ ((v 34 ((c).toNat)) = 1 ∧ (v 67 4) ≠ 5) := h_127
          refine r_ex 4 (pc' := 170) (lo' := [some (.inr (.inr (some 79))), some (.inl s), some (.inl c), some (.inl ((s * 9) + c)), some (.inl 1)]) (st' := [.inl 300, .inl (v 79 4)]) rfl ?_
          have hb_16 : 0 ≤ (v 79 4) ∧ (v 79 4) ≤ 300 := hX_8 79 4
          refine r_ic_ge (pc0 := 170) (len := 3) (t := 177) rfl (by first | assumption | (unfold R32 at *; omega) | omega) (by first | assumption | (unfold R32 at *; omega) | omega) (fun h_170 => ?_) (fun h_170 => ?_)
          · show WV _ _ _ 177 _ _ _ _ _
            refine r_ex 1 (pc' := 178) (lo' := [some (.inr (.inr (some 79))), some (.inl s), some (.inl c), some (.inl ((s * 9) + c)), some (.inl 1)]) (st' := [.inl 0]) rfl ?_
            refine r_ret (rr := some (.inl 0)) (I := .ireturn) (pc0 := 178) (len := 1) rfl rfl ?_
            refine ⟨?_, rfl, ?_⟩
            · simp only [xstr, Nat.reduceAdd]
              congr 2
              (first | (rw [if_pos (by omega)]; done) | (rw [if_neg (by omega), if_pos (by omega)]; done) | (rw [if_neg (by omega), if_neg (by omega), if_pos (by omega)]; done) | (rw [if_neg (by omega), if_neg (by omega), if_neg (by omega)]; (first | (rw [if_pos (by omega)]; done) | (rw [if_neg (by omega)]; done))))
            · simp only [xstr, Nat.reduceAdd]
              (first | (rw [if_pos (by omega)]; done) | (rw [if_neg (by omega), if_pos (by omega)]; done) | (rw [if_neg (by omega), if_neg (by omega), if_pos (by omega)]; done) | (rw [if_neg (by omega), if_neg (by omega), if_neg (by omega)]; done))
          · show WV _ _ _ 173 _ _ _ _ _
            refine r_ex 2 (pc' := 178) (lo' := [some (.inr (.inr (some 79))), some (.inl s), some (.inl c), some (.inl ((s * 9) + c)), some (.inl 1)]) (st' := [.inl 1]) rfl ?_
            refine r_ret (rr := some (.inl 1)) (I := .ireturn) (pc0 := 178) (len := 1) rfl rfl ?_
            refine ⟨?_, rfl, ?_⟩
            · simp only [xstr, Nat.reduceAdd]
              congr 2
              (first | (rw [if_pos (by omega)]; done) | (rw [if_neg (by omega), if_pos (by omega)]; done) | (rw [if_neg (by omega), if_neg (by omega), if_pos (by omega)]; done) | (rw [if_neg (by omega), if_neg (by omega), if_neg (by omega)]; (first | (rw [if_pos (by omega)]; done) | (rw [if_neg (by omega)]; done))))
            · simp only [xstr, Nat.reduceAdd]
              (first | (rw [if_pos (by omega)]; done) | (rw [if_neg (by omega), if_pos (by omega)]; done) | (rw [if_neg (by omega), if_neg (by omega), if_pos (by omega)]; done) | (rw [if_neg (by omega), if_neg (by omega), if_neg (by omega)]; done))
      · show WV _ _ _ 88 _ _ _ _ _
        refine r_ex 4 (pc' := 94) (lo' := [some (.inr (.inr (some 79))), some (.inl s), some (.inl c), some (.inl ((s * 9) + c)), some (.inl 1)]) (st' := [.inl c, .inr (.inr (some 89)), .inl s]) rfl ?_
        refine r_iald2 (j := 0) (x := (v 89 ((c).toNat))) (pc' := 95) (pc0 := 94) (len := 1) rfl (s_89 _) (by first | assumption | (unfold R32 at *; omega) | omega) (by decide) rfl rfl ?_
        have hb_17 : 0 ≤ (v 89 ((c).toNat)) ∧ (v 89 ((c).toNat)) ≤ 299 := hX_8 89 ((c).toNat)
        refine r_ex 5 (pc' := 104) (lo' := [some (.inr (.inr (some 79))), some (.inl s), some (.inl c), some (.inl ((s * 9) + c)), some (.inl 1)]) (st' := [.inl c, .inr (.inr (some 36)), .inl (s - (v 89 ((c).toNat)))]) rfl ?_
        refine r_iald2 (j := 0) (x := (v 36 ((c).toNat))) (pc' := 105) (pc0 := 104) (len := 1) rfl (s_36 _) (by first | assumption | (unfold R32 at *; omega) | omega) (by decide) rfl rfl ?_
        have hb_18 : 0 ≤ (v 36 ((c).toNat)) ∧ (v 36 ((c).toNat)) ≤ 99 := hX_8 36 ((c).toNat)
        refine r_ic_gt (pc0 := 105) (len := 3) (t := 120) rfl (by first | assumption | (unfold R32 at *; omega) | omega) (by first | assumption | (unfold R32 at *; omega) | omega) (fun h_105 => ?_) (fun h_105 => ?_)
        · show WV _ _ _ 120 _ _ _ _ _
          refine r_ex 4 (pc' := 127) (lo' := [some (.inr (.inr (some 79))), some (.inl s), some (.inl c), some (.inl ((s * 9) + c)), some (.inl 1)]) (st' := [.inl c, .inr (.inr (some 79))]) rfl ?_
          refine r_callb (m := 79) (args := [.inr (.inr (some 79)), .inl c]) (n' := 78) (pc' := 130) (lo' := [some (.inr (.inr (some 79))), some (.inl s), some (.inl c), some (.inl ((s * 9) + c)), some (.inl 1)]) (st' := []) (I := .invokevirtual 79) (pc0 := 127) (len := 3) rfl rfl rfl (x_isProud79 hX_8 (by omega)) (fun h_127 => ?_) (fun h_127 => ?_)
          · show WV _ _ _ 130 _ _ _ _ _
            have h_127 : (v 34 ((c).toNat)) = 1 ∧ (v 67 4) ≠ 5 := h_127
            refine r_ex 5 (pc' := 141) (lo' := [some (.inr (.inr (some 79))), some (.inl s), some (.inl c), some (.inl ((s * 9) + c)), some (.inl 1)]) (st' := [.inl ((s * 9) + c), .inr (.inr (some 75))]) rfl ?_
            refine r_iald2 (j := 0) (x := (v 75 ((((s * 9) + c)).toNat))) (pc' := 142) (pc0 := 141) (len := 1) rfl (s_75 _) (by first | assumption | (unfold R32 at *; omega) | omega) (by decide) rfl rfl ?_
            have hb_19 : 0 ≤ (v 75 ((((s * 9) + c)).toNat)) ∧ (v 75 ((((s * 9) + c)).toNat)) ≤ 99 := hX_8 75 ((((s * 9) + c)).toNat)
            refine r_ex 3 (pc' := 147) (lo' := [some (.inr (.inr (some 79))), some (.inl s), some (.inl c), some (.inl ((s * 9) + c)), some (.inl 1)]) (st' := [.inl c, .inr (.inr (some 90)), .inl (v 75 ((((s * 9) + c)).toNat))]) rfl ?_
            refine r_iald2 (j := 0) (x := (v 90 ((c).toNat))) (pc' := 148) (pc0 := 147) (len := 1) rfl (s_90 _) (by first | assumption | (unfold R32 at *; omega) | omega) (by decide) rfl rfl ?_
            have hb_20 : 0 ≤ (v 90 ((c).toNat)) ∧ (v 90 ((c).toNat)) ≤ 99 := hX_8 90 ((c).toNat)
            refine r_ic_gt (pc0 := 148) (len := 3) (t := 163) rfl (by first | assumption | (unfold R32 at *; omega) | omega) (by first | assumption | (unfold R32 at *; omega) | omega) (fun h_148 => ?_) (fun h_148 => ?_)
            · show WV _ _ _ 163 _ _ _ _ _
              refine r_ex 3 (pc' := 170) (lo' := [some (.inr (.inr (some 79))), some (.inl s), some (.inl c), some (.inl ((s * 9) + c)), some (.inl 1)]) (st' := [.inl 300, .inl (v 79 4)]) rfl ?_
              have hb_21 : 0 ≤ (v 79 4) ∧ (v 79 4) ≤ 300 := hX_8 79 4
              refine r_ic_ge (pc0 := 170) (len := 3) (t := 177) rfl (by first | assumption | (unfold R32 at *; omega) | omega) (by first | assumption | (unfold R32 at *; omega) | omega) (fun h_170 => ?_) (fun h_170 => ?_)
              · show WV _ _ _ 177 _ _ _ _ _
                refine r_ex 1 (pc' := 178) (lo' := [some (.inr (.inr (some 79))), some (.inl s), some (.inl c), some (.inl ((s * 9) + c)), some (.inl 1)]) (st' := [.inl 0]) rfl ?_
                refine r_ret (rr := some (.inl 0)) (I := .ireturn) (pc0 := 178) (len := 1) rfl rfl ?_
                refine ⟨?_, rfl, ?_⟩
                · simp only [xstr, Nat.reduceAdd]
                  congr 2
                  (first | (rw [if_pos (by omega)]; done) | (rw [if_neg (by omega), if_pos (by omega)]; done) | (rw [if_neg (by omega), if_neg (by omega), if_pos (by omega)]; done) | (rw [if_neg (by omega), if_neg (by omega), if_neg (by omega)]; (first | (rw [if_pos (by omega)]; done) | (rw [if_neg (by omega)]; done))))
                · simp only [xstr, Nat.reduceAdd]
                  (first | (rw [if_pos (by omega)]; done) | (rw [if_neg (by omega), if_pos (by omega)]; done) | (rw [if_neg (by omega), if_neg (by omega), if_pos (by omega)]; done) | (rw [if_neg (by omega), if_neg (by omega), if_neg (by omega)]; done))
              · show WV _ _ _ 173 _ _ _ _ _
                refine r_ex 2 (pc' := 178) (lo' := [some (.inr (.inr (some 79))), some (.inl s), some (.inl c), some (.inl ((s * 9) + c)), some (.inl 1)]) (st' := [.inl 1]) rfl ?_
                refine r_ret (rr := some (.inl 1)) (I := .ireturn) (pc0 := 178) (len := 1) rfl rfl ?_
                refine ⟨?_, rfl, ?_⟩
                · simp only [xstr, Nat.reduceAdd]
                  congr 2
                  (first | (rw [if_pos (by omega)]; done) | (rw [if_neg (by omega), if_pos (by omega)]; done) | (rw [if_neg (by omega), if_neg (by omega), if_pos (by omega)]; done) | (rw [if_neg (by omega), if_neg (by omega), if_neg (by omega)]; (first | (rw [if_pos (by omega)]; done) | (rw [if_neg (by omega)]; done))))
                · simp only [xstr, Nat.reduceAdd]
                  (first | (rw [if_pos (by omega)]; done) | (rw [if_neg (by omega), if_pos (by omega)]; done) | (rw [if_neg (by omega), if_neg (by omega), if_pos (by omega)]; done) | (rw [if_neg (by omega), if_neg (by omega), if_neg (by omega)]; done))
            · show WV _ _ _ 151 _ _ _ _ _
              refine r_ex 4 (pc' := 157) (lo' := [some (.inr (.inr (some 79))), some (.inl s), some (.inl c), some (.inl ((s * 9) + c)), some (.inl 1)]) (st' := [.inl 3, .inr (.inr (some 85)), .inl 3, .inr (.inr (some 85))]) rfl ?_
              refine r_iald2 (j := 0) (x := (v 85 3)) (pc' := 158) (pc0 := 157) (len := 1) rfl (s_85 _) (by first | assumption | (unfold R32 at *; omega) | omega) (by decide) rfl rfl ?_
              refine r_ex 2 (pc' := 160) (lo' := [some (.inr (.inr (some 79))), some (.inl s), some (.inl c), some (.inl ((s * 9) + c)), some (.inl 1)]) (st' := [.inl ((v 85 3) + 1), .inl 3, .inr (.inr (some 85))]) rfl ?_
              refine r_iast2 (pc' := 161) (pc0 := 160) (len := 1) rfl (s_85 _) (by first | assumption | (unfold R32 at *; omega) | omega) (by decide) rfl ?_
              have hX_22 : XI (v2 (v2 v 85 7 ((v 85 7) + (v 78 ((((s * 9) + c)).toNat)))) 85 3 ((v 85 3) + 1)) := XI.put hX_8 trivial
              show WV _ _ _ 161 _ _ _ (v2 (v2 v 85 7 ((v 85 7) + (v 78 ((((s * 9) + c)).toNat)))) 85 3 ((v 85 3) + 1)) _
              refine r_ex 1 (pc' := 162) (lo' := [some (.inr (.inr (some 79))), some (.inl s), some (.inl c), some (.inl ((s * 9) + c)), some (.inl 1)]) (st' := [.inl 0]) rfl ?_
              refine r_ret (rr := some (.inl 0)) (I := .ireturn) (pc0 := 162) (len := 1) rfl rfl ?_
              refine ⟨?_, rfl, ?_⟩
              · simp only [xstr, Nat.reduceAdd]
                congr 2
                (first | (rw [if_pos (by omega)]; done) | (rw [if_neg (by omega), if_pos (by omega)]; done) | (rw [if_neg (by omega), if_neg (by omega), if_pos (by omega)]; done) | (rw [if_neg (by omega), if_neg (by omega), if_neg (by omega)]; (first | (rw [if_pos (by omega)]; done) | (rw [if_neg (by omega)]; done))))
              · simp only [xstr, Nat.reduceAdd]
                (first | (rw [if_pos (by omega)]; done) | (rw [if_neg (by omega), if_pos (by omega)]; done) | (rw [if_neg (by omega), if_neg (by omega), if_pos (by omega)]; done) | (rw [if_neg (by omega), if_neg (by omega), if_neg (by omega)]; done))
          · show WV _ _ _ 130 _ _ _ _ _
            have h_127 : ¬ ((v 34 ((c).toNat)) = 1 ∧ (v 67 4) ≠ 5) := h_127
            refine r_ex 4 (pc' := 170) (lo' := [some (.inr (.inr (some 79))), some (.inl s), some (.inl c), some (.inl ((s * 9) + c)), some (.inl 1)]) (st' := [.inl 300, .inl (v 79 4)]) rfl ?_
            have hb_23 : 0 ≤ (v 79 4) ∧ (v 79 4) ≤ 300 := hX_8 79 4
            refine r_ic_ge (pc0 := 170) (len := 3) (t := 177) rfl (by first | assumption | (unfold R32 at *; omega) | omega) (by first | assumption | (unfold R32 at *; omega) | omega) (fun h_170 => ?_) (fun h_170 => ?_)
            · show WV _ _ _ 177 _ _ _ _ _
              refine r_ex 1 (pc' := 178) (lo' := [some (.inr (.inr (some 79))), some (.inl s), some (.inl c), some (.inl ((s * 9) + c)), some (.inl 1)]) (st' := [.inl 0]) rfl ?_
              refine r_ret (rr := some (.inl 0)) (I := .ireturn) (pc0 := 178) (len := 1) rfl rfl ?_
              refine ⟨?_, rfl, ?_⟩
              · simp only [xstr, Nat.reduceAdd]
                congr 2
                (first | (rw [if_pos (by omega)]; done) | (rw [if_neg (by omega), if_pos (by omega)]; done) | (rw [if_neg (by omega), if_neg (by omega), if_pos (by omega)]; done) | (rw [if_neg (by omega), if_neg (by omega), if_neg (by omega)]; (first | (rw [if_pos (by omega)]; done) | (rw [if_neg (by omega)]; done))))
              · simp only [xstr, Nat.reduceAdd]
                (first | (rw [if_pos (by omega)]; done) | (rw [if_neg (by omega), if_pos (by omega)]; done) | (rw [if_neg (by omega), if_neg (by omega), if_pos (by omega)]; done) | (rw [if_neg (by omega), if_neg (by omega), if_neg (by omega)]; done))
            · show WV _ _ _ 173 _ _ _ _ _
              refine r_ex 2 (pc' := 178) (lo' := [some (.inr (.inr (some 79))), some (.inl s), some (.inl c), some (.inl ((s * 9) + c)), some (.inl 1)]) (st' := [.inl 1]) rfl ?_
              refine r_ret (rr := some (.inl 1)) (I := .ireturn) (pc0 := 178) (len := 1) rfl rfl ?_
              refine ⟨?_, rfl, ?_⟩
              · simp only [xstr, Nat.reduceAdd]
                congr 2
                (first | (rw [if_pos (by omega)]; done) | (rw [if_neg (by omega), if_pos (by omega)]; done) | (rw [if_neg (by omega), if_neg (by omega), if_pos (by omega)]; done) | (rw [if_neg (by omega), if_neg (by omega), if_neg (by omega)]; (first | (rw [if_pos (by omega)]; done) | (rw [if_neg (by omega)]; done))))
              · simp only [xstr, Nat.reduceAdd]
                (first | (rw [if_pos (by omega)]; done) | (rw [if_neg (by omega), if_pos (by omega)]; done) | (rw [if_neg (by omega), if_neg (by omega), if_pos (by omega)]; done) | (rw [if_neg (by omega), if_neg (by omega), if_neg (by omega)]; done))
        · show WV _ _ _ 108 _ _ _ _ _
          refine r_ex 4 (pc' := 114) (lo' := [some (.inr (.inr (some 79))), some (.inl s), some (.inl c), some (.inl ((s * 9) + c)), some (.inl 1)]) (st' := [.inl 2, .inr (.inr (some 85)), .inl 2, .inr (.inr (some 85))]) rfl ?_
          refine r_iald2 (j := 0) (x := (v 85 2)) (pc' := 115) (pc0 := 114) (len := 1) rfl (s_85 _) (by first | assumption | (unfold R32 at *; omega) | omega) (by decide) rfl rfl ?_
          refine r_ex 2 (pc' := 117) (lo' := [some (.inr (.inr (some 79))), some (.inl s), some (.inl c), some (.inl ((s * 9) + c)), some (.inl 1)]) (st' := [.inl ((v 85 2) + 1), .inl 2, .inr (.inr (some 85))]) rfl ?_
          refine r_iast2 (pc' := 118) (pc0 := 117) (len := 1) rfl (s_85 _) (by first | assumption | (unfold R32 at *; omega) | omega) (by decide) rfl ?_
          have hX_24 : XI (v2 (v2 v 85 7 ((v 85 7) + (v 78 ((((s * 9) + c)).toNat)))) 85 2 ((v 85 2) + 1)) := XI.put hX_8 trivial
          show WV _ _ _ 118 _ _ _ (v2 (v2 v 85 7 ((v 85 7) + (v 78 ((((s * 9) + c)).toNat)))) 85 2 ((v 85 2) + 1)) _
          refine r_ex 1 (pc' := 119) (lo' := [some (.inr (.inr (some 79))), some (.inl s), some (.inl c), some (.inl ((s * 9) + c)), some (.inl 1)]) (st' := [.inl 0]) rfl ?_
          refine r_ret (rr := some (.inl 0)) (I := .ireturn) (pc0 := 119) (len := 1) rfl rfl ?_
          refine ⟨?_, rfl, ?_⟩
          · simp only [xstr, Nat.reduceAdd]
            congr 2
            (first | (rw [if_pos (by omega)]; done) | (rw [if_neg (by omega), if_pos (by omega)]; done) | (rw [if_neg (by omega), if_neg (by omega), if_pos (by omega)]; done) | (rw [if_neg (by omega), if_neg (by omega), if_neg (by omega)]; (first | (rw [if_pos (by omega)]; done) | (rw [if_neg (by omega)]; done))))
          · simp only [xstr, Nat.reduceAdd]
            (first | (rw [if_pos (by omega)]; done) | (rw [if_neg (by omega), if_pos (by omega)]; done) | (rw [if_neg (by omega), if_neg (by omega), if_pos (by omega)]; done) | (rw [if_neg (by omega), if_neg (by omega), if_neg (by omega)]; done))
    · show WV _ _ _ 60 _ _ _ _ _
      refine r_ex 4 (pc' := 66) (lo' := [some (.inr (.inr (some 79))), some (.inl s), some (.inl c), some (.inl ((s * 9) + c)), some (.inl 1)]) (st' := [.inl 4, .inr (.inr (some 85)), .inl 4, .inr (.inr (some 85))]) rfl ?_
      refine r_iald2 (j := 0) (x := (v 85 4)) (pc' := 67) (pc0 := 66) (len := 1) rfl (s_85 _) (by first | assumption | (unfold R32 at *; omega) | omega) (by decide) rfl rfl ?_
      refine r_ex 2 (pc' := 69) (lo' := [some (.inr (.inr (some 79))), some (.inl s), some (.inl c), some (.inl ((s * 9) + c)), some (.inl 1)]) (st' := [.inl ((v 85 4) + 1), .inl 4, .inr (.inr (some 85))]) rfl ?_
      refine r_iast2 (pc' := 70) (pc0 := 69) (len := 1) rfl (s_85 _) (by first | assumption | (unfold R32 at *; omega) | omega) (by decide) rfl ?_
      have hX_25 : XI (v2 (v2 v 85 7 ((v 85 7) + (v 78 ((((s * 9) + c)).toNat)))) 85 4 ((v 85 4) + 1)) := XI.put hX_8 trivial
      show WV _ _ _ 70 _ _ _ (v2 (v2 v 85 7 ((v 85 7) + (v 78 ((((s * 9) + c)).toNat)))) 85 4 ((v 85 4) + 1)) _
      refine r_ex 1 (pc' := 71) (lo' := [some (.inr (.inr (some 79))), some (.inl s), some (.inl c), some (.inl ((s * 9) + c)), some (.inl 1)]) (st' := [.inl 0]) rfl ?_
      refine r_ret (rr := some (.inl 0)) (I := .ireturn) (pc0 := 71) (len := 1) rfl rfl ?_
      refine ⟨?_, rfl, ?_⟩
      · simp only [xstr, Nat.reduceAdd]
        congr 2
        (first | (rw [if_pos (by omega)]; done) | (rw [if_neg (by omega), if_pos (by omega)]; done) | (rw [if_neg (by omega), if_neg (by omega), if_pos (by omega)]; done) | (rw [if_neg (by omega), if_neg (by omega), if_neg (by omega)]; (first | (rw [if_pos (by omega)]; done) | (rw [if_neg (by omega)]; done))))
      · simp only [xstr, Nat.reduceAdd]
        (first | (rw [if_pos (by omega)]; done) | (rw [if_neg (by omega), if_pos (by omega)]; done) | (rw [if_neg (by omega), if_neg (by omega), if_pos (by omega)]; done) | (rw [if_neg (by omega), if_neg (by omega), if_neg (by omega)]; done))

theorem x_isProud91 {X : PX} {d b : Nat} {v : VS} {c : Int} (hX : XI v) (hc : 0 ≤ c ∧ c < 9) : EvV X d 79 [.inr (.inr (some 91)), .inl c] b v (some (.inl (if v 34 c.toNat = 1 ∧ v 67 4 ≠ 5 then 1 else 0))) b v := by
  refine EvV.of ?_
  show WV _ _ _ 0 [some (.inr (.inr (some 91))), some (.inl c)] [] _ _ _
  refine r_ex 4 (pc' := 8) (lo' := [some (.inr (.inr (some 91))), some (.inl c)]) (st' := [.inl c, .inr (.inr (some 34))]) rfl ?_
  refine r_iald2 (j := 0) (x := (v 34 ((c).toNat))) (pc' := 9) (pc0 := 8) (len := 1) rfl (s_34 _) (by first | assumption | (unfold R32 at *; omega) | omega) (by decide) rfl rfl ?_
  have hb_1 : 0 ≤ (v 34 ((c).toNat)) ∧ (v 34 ((c).toNat)) ≤ 2 := hX 34 ((c).toNat)
  refine r_ex 1 (pc' := 10) (lo' := [some (.inr (.inr (some 91))), some (.inl c)]) (st' := [.inl 1, .inl (v 34 ((c).toNat))]) rfl ?_
  refine r_ic_ne (pc0 := 10) (len := 3) (t := 28) rfl (by first | assumption | (unfold R32 at *; omega) | omega) (by first | assumption | (unfold R32 at *; omega) | omega) (fun h_10 => ?_) (fun h_10 => ?_)
  · show WV _ _ _ 28 _ _ _ _ _
    refine r_ex 1 (pc' := 29) (lo' := [some (.inr (.inr (some 91))), some (.inl c)]) (st' := [.inl 0]) rfl ?_
    refine r_ret (rr := some (.inl 0)) (I := .ireturn) (pc0 := 29) (len := 1) rfl rfl ?_
    refine ⟨?_, rfl, rfl⟩
    congr 2
    (first | (rw [if_pos (by omega)]; done) | (rw [if_neg (by omega)]; done))
  · show WV _ _ _ 13 _ _ _ _ _
    refine r_ex 4 (pc' := 21) (lo' := [some (.inr (.inr (some 91))), some (.inl c)]) (st' := [.inl 5, .inl (v 67 4)]) rfl ?_
    have hb_2 : -1 ≤ (v 67 4) ∧ (v 67 4) ≤ 6 := hX 67 4
    refine r_ic_eq (pc0 := 21) (len := 3) (t := 28) rfl (by first | assumption | (unfold R32 at *; omega) | omega) (by first | assumption | (unfold R32 at *; omega) | omega) (fun h_21 => ?_) (fun h_21 => ?_)
    · show WV _ _ _ 28 _ _ _ _ _
      refine r_ex 1 (pc' := 29) (lo' := [some (.inr (.inr (some 91))), some (.inl c)]) (st' := [.inl 0]) rfl ?_
      refine r_ret (rr := some (.inl 0)) (I := .ireturn) (pc0 := 29) (len := 1) rfl rfl ?_
      refine ⟨?_, rfl, rfl⟩
      congr 2
      (first | (rw [if_pos (by omega)]; done) | (rw [if_neg (by omega)]; done))
    · show WV _ _ _ 24 _ _ _ _ _
      refine r_ex 2 (pc' := 29) (lo' := [some (.inr (.inr (some 91))), some (.inl c)]) (st' := [.inl 1]) rfl ?_
      refine r_ret (rr := some (.inl 1)) (I := .ireturn) (pc0 := 29) (len := 1) rfl rfl ?_
      refine ⟨?_, rfl, rfl⟩
      congr 2
      (first | (rw [if_pos (by omega)]; done) | (rw [if_neg (by omega)]; done))

theorem x_isStruck91 {X : PX} {d b : Nat} {v : VS} {s c : Int} (hX : XI v) (hs : 0 ≤ s ∧ s < 300) (hc : 0 ≤ c ∧ c < 9) : EvV X (d + 1) 78 [.inr (.inr (some 91)), .inl s, .inl c] b v (some (.inl (xstr 91 v s c).1)) b ((xstr 91 v s c).2) := by
  refine EvV.of ?_
  show WV _ _ _ 0 [some (.inr (.inr (some 91))), some (.inl s), some (.inl c), none, none] [] _ _ _
  refine r_ex 9 (pc' := 12) (lo' := [some (.inr (.inr (some 91))), some (.inl s), some (.inl c), some (.inl ((s * 9) + c)), none]) (st' := [.inl c, .inl (v 91 16)]) rfl ?_
  have hb_1 : 0 ≤ (v 91 16) ∧ (v 91 16) ≤ 511 := hX 91 16
  refine r_call (m := 63) (args := [.inl (v 91 16), .inl c]) (n' := 78) (pc' := 15) (lo' := [some (.inr (.inr (some 91))), some (.inl s), some (.inl c), some (.inl ((s * 9) + c)), none]) (st' := []) (I := .invokestatic 63) (pc0 := 12) (len := 3) rfl rfl rfl (x_bitb (by omega) (by omega)) ?_
  show WV _ _ _ 15 _ [.inl (bt (v 91 16) c)] _ v _
  have hb_2 := bt01 (v 91 16) c
  refine r_ex 1 (pc' := 16) (lo' := [some (.inr (.inr (some 91))), some (.inl s), some (.inl c), some (.inl ((s * 9) + c)), none]) (st' := [.inl 1, .inl (bt (v 91 16) c)]) rfl ?_
  refine r_ic_ne (pc0 := 16) (len := 3) (t := 23) rfl (by first | assumption | (unfold R32 at *; omega) | omega) (by first | assumption | (unfold R32 at *; omega) | omega) (fun h_16 => ?_) (fun h_16 => ?_)
  · show WV _ _ _ 23 _ _ _ _ _
    refine r_ex 6 (pc' := 33) (lo' := [some (.inr (.inr (some 91))), some (.inl s), some (.inl c), some (.inl ((s * 9) + c)), some (.inl 0)]) (st' := [.inl 7, .inr (.inr (some 97)), .inl 7, .inr (.inr (some 97))]) rfl ?_
    refine r_iald2 (j := 0) (x := (v 97 7)) (pc' := 34) (pc0 := 33) (len := 1) rfl (s_97 _) (by first | assumption | (unfold R32 at *; omega) | omega) (by decide) rfl rfl ?_
    refine r_ex 4 (pc' := 42) (lo' := [some (.inr (.inr (some 91))), some (.inl s), some (.inl c), some (.inl ((s * 9) + c)), some (.inl 0)]) (st' := [.inl ((s * 9) + c), .inr (.inr (some 78)), .inl (v 97 7), .inl 7, .inr (.inr (some 97))]) rfl ?_
    refine r_iald2 (j := 0) (x := (v 78 ((((s * 9) + c)).toNat))) (pc' := 43) (pc0 := 42) (len := 1) rfl (s_78 _) (by first | assumption | (unfold R32 at *; omega) | omega) (by decide) rfl rfl ?_
    refine r_ex 1 (pc' := 44) (lo' := [some (.inr (.inr (some 91))), some (.inl s), some (.inl c), some (.inl ((s * 9) + c)), some (.inl 0)]) (st' := [.inl ((v 97 7) + (v 78 ((((s * 9) + c)).toNat))), .inl 7, .inr (.inr (some 97))]) rfl ?_
    refine r_iast2 (pc' := 45) (pc0 := 44) (len := 1) rfl (s_97 _) (by first | assumption | (unfold R32 at *; omega) | omega) (by decide) rfl ?_
    have hX_3 : XI (v2 v 97 7 ((v 97 7) + (v 78 ((((s * 9) + c)).toNat)))) := XI.put hX trivial
    show WV _ _ _ 45 _ _ _ (v2 v 97 7 ((v 97 7) + (v 78 ((((s * 9) + c)).toNat)))) _
    refine r_ex 4 (pc' := 53) (lo' := [some (.inr (.inr (some 91))), some (.inl s), some (.inl c), some (.inl ((s * 9) + c)), some (.inl 0)]) (st' := [.inl c, .inl (v 67 0)]) rfl ?_
    have hb_4 : 0 ≤ (v 67 0) ∧ (v 67 0) ≤ 511 := hX_3 67 0
    refine r_call (m := 63) (args := [.inl (v 67 0), .inl c]) (n' := 78) (pc' := 56) (lo' := [some (.inr (.inr (some 91))), some (.inl s), some (.inl c), some (.inl ((s * 9) + c)), some (.inl 0)]) (st' := []) (I := .invokestatic 63) (pc0 := 53) (len := 3) rfl rfl rfl (x_bitb (by omega) (by omega)) ?_
    show WV _ _ _ 56 _ [.inl (bt (v 67 0) c)] _ (v2 v 97 7 ((v 97 7) + (v 78 ((((s * 9) + c)).toNat)))) _
    have hb_5 := bt01 (v 67 0) c
    refine r_ex 1 (pc' := 57) (lo' := [some (.inr (.inr (some 91))), some (.inl s), some (.inl c), some (.inl ((s * 9) + c)), some (.inl 0)]) (st' := [.inl 1, .inl (bt (v 67 0) c)]) rfl ?_
    refine r_ic_ne (pc0 := 57) (len := 3) (t := 72) rfl (by first | assumption | (unfold R32 at *; omega) | omega) (by first | assumption | (unfold R32 at *; omega) | omega) (fun h_57 => ?_) (fun h_57 => ?_)
    · show WV _ _ _ 72 _ _ _ _ _
      refine r_ex 7 (pc' := 170) (lo' := [some (.inr (.inr (some 91))), some (.inl s), some (.inl c), some (.inl ((s * 9) + c)), some (.inl 0)]) (st' := [.inl 300, .inl (v 91 4)]) rfl ?_
      have hb_6 : 0 ≤ (v 91 4) ∧ (v 91 4) ≤ 300 := hX_3 91 4
      refine r_ic_ge (pc0 := 170) (len := 3) (t := 177) rfl (by first | assumption | (unfold R32 at *; omega) | omega) (by first | assumption | (unfold R32 at *; omega) | omega) (fun h_170 => ?_) (fun h_170 => ?_)
      · show WV _ _ _ 177 _ _ _ _ _
        refine r_ex 1 (pc' := 178) (lo' := [some (.inr (.inr (some 91))), some (.inl s), some (.inl c), some (.inl ((s * 9) + c)), some (.inl 0)]) (st' := [.inl 0]) rfl ?_
        refine r_ret (rr := some (.inl 0)) (I := .ireturn) (pc0 := 178) (len := 1) rfl rfl ?_
        refine ⟨?_, rfl, ?_⟩
        · simp only [xstr, Nat.reduceAdd]
          congr 2
          (first | (rw [if_pos (by omega)]; done) | (rw [if_neg (by omega), if_pos (by omega)]; done) | (rw [if_neg (by omega), if_neg (by omega), if_pos (by omega)]; done) | (rw [if_neg (by omega), if_neg (by omega), if_neg (by omega)]; (first | (rw [if_pos (by omega)]; done) | (rw [if_neg (by omega)]; done))))
        · simp only [xstr, Nat.reduceAdd]
          (first | (rw [if_pos (by omega)]; done) | (rw [if_neg (by omega), if_pos (by omega)]; done) | (rw [if_neg (by omega), if_neg (by omega), if_pos (by omega)]; done) | (rw [if_neg (by omega), if_neg (by omega), if_neg (by omega)]; done))
      · show WV _ _ _ 173 _ _ _ _ _
        refine r_ex 2 (pc' := 178) (lo' := [some (.inr (.inr (some 91))), some (.inl s), some (.inl c), some (.inl ((s * 9) + c)), some (.inl 0)]) (st' := [.inl 1]) rfl ?_
        refine r_ret (rr := some (.inl 1)) (I := .ireturn) (pc0 := 178) (len := 1) rfl rfl ?_
        refine ⟨?_, rfl, ?_⟩
        · simp only [xstr, Nat.reduceAdd]
          congr 2
          (first | (rw [if_pos (by omega)]; done) | (rw [if_neg (by omega), if_pos (by omega)]; done) | (rw [if_neg (by omega), if_neg (by omega), if_pos (by omega)]; done) | (rw [if_neg (by omega), if_neg (by omega), if_neg (by omega)]; (first | (rw [if_pos (by omega)]; done) | (rw [if_neg (by omega)]; done))))
        · simp only [xstr, Nat.reduceAdd]
          (first | (rw [if_pos (by omega)]; done) | (rw [if_neg (by omega), if_pos (by omega)]; done) | (rw [if_neg (by omega), if_neg (by omega), if_pos (by omega)]; done) | (rw [if_neg (by omega), if_neg (by omega), if_neg (by omega)]; done))
    · show WV _ _ _ 60 _ _ _ _ _
      refine r_ex 4 (pc' := 66) (lo' := [some (.inr (.inr (some 91))), some (.inl s), some (.inl c), some (.inl ((s * 9) + c)), some (.inl 0)]) (st' := [.inl 4, .inr (.inr (some 97)), .inl 4, .inr (.inr (some 97))]) rfl ?_
      refine r_iald2 (j := 0) (x := (v 97 4)) (pc' := 67) (pc0 := 66) (len := 1) rfl (s_97 _) (by first | assumption | (unfold R32 at *; omega) | omega) (by decide) rfl rfl ?_
      refine r_ex 2 (pc' := 69) (lo' := [some (.inr (.inr (some 91))), some (.inl s), some (.inl c), some (.inl ((s * 9) + c)), some (.inl 0)]) (st' := [.inl ((v 97 4) + 1), .inl 4, .inr (.inr (some 97))]) rfl ?_
      refine r_iast2 (pc' := 70) (pc0 := 69) (len := 1) rfl (s_97 _) (by first | assumption | (unfold R32 at *; omega) | omega) (by decide) rfl ?_
      have hX_7 : XI (v2 (v2 v 97 7 ((v 97 7) + (v 78 ((((s * 9) + c)).toNat)))) 97 4 ((v 97 4) + 1)) := XI.put hX_3 trivial
      show WV _ _ _ 70 _ _ _ (v2 (v2 v 97 7 ((v 97 7) + (v 78 ((((s * 9) + c)).toNat)))) 97 4 ((v 97 4) + 1)) _
      refine r_ex 1 (pc' := 71) (lo' := [some (.inr (.inr (some 91))), some (.inl s), some (.inl c), some (.inl ((s * 9) + c)), some (.inl 0)]) (st' := [.inl 0]) rfl ?_
      refine r_ret (rr := some (.inl 0)) (I := .ireturn) (pc0 := 71) (len := 1) rfl rfl ?_
      refine ⟨?_, rfl, ?_⟩
      · simp only [xstr, Nat.reduceAdd]
        congr 2
        (first | (rw [if_pos (by omega)]; done) | (rw [if_neg (by omega), if_pos (by omega)]; done) | (rw [if_neg (by omega), if_neg (by omega), if_pos (by omega)]; done) | (rw [if_neg (by omega), if_neg (by omega), if_neg (by omega)]; (first | (rw [if_pos (by omega)]; done) | (rw [if_neg (by omega)]; done))))
      · simp only [xstr, Nat.reduceAdd]
        (first | (rw [if_pos (by omega)]; done) | (rw [if_neg (by omega), if_pos (by omega)]; done) | (rw [if_neg (by omega), if_neg (by omega), if_pos (by omega)]; done) | (rw [if_neg (by omega), if_neg (by omega), if_neg (by omega)]; done))
  · show WV _ _ _ 19 _ _ _ _ _
    refine r_ex 7 (pc' := 33) (lo' := [some (.inr (.inr (some 91))), some (.inl s), some (.inl c), some (.inl ((s * 9) + c)), some (.inl 1)]) (st' := [.inl 7, .inr (.inr (some 97)), .inl 7, .inr (.inr (some 97))]) rfl ?_
    refine r_iald2 (j := 0) (x := (v 97 7)) (pc' := 34) (pc0 := 33) (len := 1) rfl (s_97 _) (by first | assumption | (unfold R32 at *; omega) | omega) (by decide) rfl rfl ?_
    refine r_ex 4 (pc' := 42) (lo' := [some (.inr (.inr (some 91))), some (.inl s), some (.inl c), some (.inl ((s * 9) + c)), some (.inl 1)]) (st' := [.inl ((s * 9) + c), .inr (.inr (some 78)), .inl (v 97 7), .inl 7, .inr (.inr (some 97))]) rfl ?_
    refine r_iald2 (j := 0) (x := (v 78 ((((s * 9) + c)).toNat))) (pc' := 43) (pc0 := 42) (len := 1) rfl (s_78 _) (by first | assumption | (unfold R32 at *; omega) | omega) (by decide) rfl rfl ?_
    refine r_ex 1 (pc' := 44) (lo' := [some (.inr (.inr (some 91))), some (.inl s), some (.inl c), some (.inl ((s * 9) + c)), some (.inl 1)]) (st' := [.inl ((v 97 7) + (v 78 ((((s * 9) + c)).toNat))), .inl 7, .inr (.inr (some 97))]) rfl ?_
    refine r_iast2 (pc' := 45) (pc0 := 44) (len := 1) rfl (s_97 _) (by first | assumption | (unfold R32 at *; omega) | omega) (by decide) rfl ?_
    have hX_8 : XI (v2 v 97 7 ((v 97 7) + (v 78 ((((s * 9) + c)).toNat)))) := XI.put hX trivial
    show WV _ _ _ 45 _ _ _ (v2 v 97 7 ((v 97 7) + (v 78 ((((s * 9) + c)).toNat)))) _
    refine r_ex 4 (pc' := 53) (lo' := [some (.inr (.inr (some 91))), some (.inl s), some (.inl c), some (.inl ((s * 9) + c)), some (.inl 1)]) (st' := [.inl c, .inl (v 67 0)]) rfl ?_
    have hb_9 : 0 ≤ (v 67 0) ∧ (v 67 0) ≤ 511 := hX_8 67 0
    refine r_call (m := 63) (args := [.inl (v 67 0), .inl c]) (n' := 78) (pc' := 56) (lo' := [some (.inr (.inr (some 91))), some (.inl s), some (.inl c), some (.inl ((s * 9) + c)), some (.inl 1)]) (st' := []) (I := .invokestatic 63) (pc0 := 53) (len := 3) rfl rfl rfl (x_bitb (by omega) (by omega)) ?_
    show WV _ _ _ 56 _ [.inl (bt (v 67 0) c)] _ (v2 v 97 7 ((v 97 7) + (v 78 ((((s * 9) + c)).toNat)))) _
    have hb_10 := bt01 (v 67 0) c
    refine r_ex 1 (pc' := 57) (lo' := [some (.inr (.inr (some 91))), some (.inl s), some (.inl c), some (.inl ((s * 9) + c)), some (.inl 1)]) (st' := [.inl 1, .inl (bt (v 67 0) c)]) rfl ?_
    refine r_ic_ne (pc0 := 57) (len := 3) (t := 72) rfl (by first | assumption | (unfold R32 at *; omega) | omega) (by first | assumption | (unfold R32 at *; omega) | omega) (fun h_57 => ?_) (fun h_57 => ?_)
    · show WV _ _ _ 72 _ _ _ _ _
      refine r_ex 6 (pc' := 85) (lo' := [some (.inr (.inr (some 91))), some (.inl s), some (.inl c), some (.inl ((s * 9) + c)), some (.inl 1)]) (st' := [.inl 4, .inl (v 67 4)]) rfl ?_
      have hb_11 : -1 ≤ (v 67 4) ∧ (v 67 4) ≤ 6 := hX_8 67 4
      refine r_ic_eq (pc0 := 85) (len := 3) (t := 120) rfl (by first | assumption | (unfold R32 at *; omega) | omega) (by first | assumption | (unfold R32 at *; omega) | omega) (fun h_85 => ?_) (fun h_85 => ?_)
      · show WV _ _ _ 120 _ _ _ _ _
        refine r_ex 4 (pc' := 127) (lo' := [some (.inr (.inr (some 91))), some (.inl s), some (.inl c), some (.inl ((s * 9) + c)), some (.inl 1)]) (st' := [.inl c, .inr (.inr (some 91))]) rfl ?_
        refine r_callb (m := 79) (args := [.inr (.inr (some 91)), .inl c]) (n' := 78) (pc' := 130) (lo' := [some (.inr (.inr (some 91))), some (.inl s), some (.inl c), some (.inl ((s * 9) + c)), some (.inl 1)]) (st' := []) (I := .invokevirtual 79) (pc0 := 127) (len := 3) rfl rfl rfl (x_isProud91 hX_8 (by omega)) (fun h_127 => ?_) (fun h_127 => ?_)
        · show WV _ _ _ 130 _ _ _ _ _
          have h_127 : (v 34 ((c).toNat)) = 1 ∧ (v 67 4) ≠ 5 := h_127
          refine r_ex 5 (pc' := 141) (lo' := [some (.inr (.inr (some 91))), some (.inl s), some (.inl c), some (.inl ((s * 9) + c)), some (.inl 1)]) (st' := [.inl ((s * 9) + c), .inr (.inr (some 75))]) rfl ?_
          refine r_iald2 (j := 0) (x := (v 75 ((((s * 9) + c)).toNat))) (pc' := 142) (pc0 := 141) (len := 1) rfl (s_75 _) (by first | assumption | (unfold R32 at *; omega) | omega) (by decide) rfl rfl ?_
          have hb_12 : 0 ≤ (v 75 ((((s * 9) + c)).toNat)) ∧ (v 75 ((((s * 9) + c)).toNat)) ≤ 99 := hX_8 75 ((((s * 9) + c)).toNat)
          refine r_ex 3 (pc' := 147) (lo' := [some (.inr (.inr (some 91))), some (.inl s), some (.inl c), some (.inl ((s * 9) + c)), some (.inl 1)]) (st' := [.inl c, .inr (.inr (some 102)), .inl (v 75 ((((s * 9) + c)).toNat))]) rfl ?_
          refine r_iald2 (j := 0) (x := (v 102 ((c).toNat))) (pc' := 148) (pc0 := 147) (len := 1) rfl (s_102 _) (by first | assumption | (unfold R32 at *; omega) | omega) (by decide) rfl rfl ?_
          have hb_13 : 0 ≤ (v 102 ((c).toNat)) ∧ (v 102 ((c).toNat)) ≤ 99 := hX_8 102 ((c).toNat)
          refine r_ic_gt (pc0 := 148) (len := 3) (t := 163) rfl (by first | assumption | (unfold R32 at *; omega) | omega) (by first | assumption | (unfold R32 at *; omega) | omega) (fun h_148 => ?_) (fun h_148 => ?_)
          · show WV _ _ _ 163 _ _ _ _ _
            refine r_ex 3 (pc' := 170) (lo' := [some (.inr (.inr (some 91))), some (.inl s), some (.inl c), some (.inl ((s * 9) + c)), some (.inl 1)]) (st' := [.inl 300, .inl (v 91 4)]) rfl ?_
            have hb_14 : 0 ≤ (v 91 4) ∧ (v 91 4) ≤ 300 := hX_8 91 4
            refine r_ic_ge (pc0 := 170) (len := 3) (t := 177) rfl (by first | assumption | (unfold R32 at *; omega) | omega) (by first | assumption | (unfold R32 at *; omega) | omega) (fun h_170 => ?_) (fun h_170 => ?_)
            · show WV _ _ _ 177 _ _ _ _ _
              refine r_ex 1 (pc' := 178) (lo' := [some (.inr (.inr (some 91))), some (.inl s), some (.inl c), some (.inl ((s * 9) + c)), some (.inl 1)]) (st' := [.inl 0]) rfl ?_
              refine r_ret (rr := some (.inl 0)) (I := .ireturn) (pc0 := 178) (len := 1) rfl rfl ?_
              refine ⟨?_, rfl, ?_⟩
              · simp only [xstr, Nat.reduceAdd]
                congr 2
                (first | (rw [if_pos (by omega)]; done) | (rw [if_neg (by omega), if_pos (by omega)]; done) | (rw [if_neg (by omega), if_neg (by omega), if_pos (by omega)]; done) | (rw [if_neg (by omega), if_neg (by omega), if_neg (by omega)]; (first | (rw [if_pos (by omega)]; done) | (rw [if_neg (by omega)]; done))))
              · simp only [xstr, Nat.reduceAdd]
                (first | (rw [if_pos (by omega)]; done) | (rw [if_neg (by omega), if_pos (by omega)]; done) | (rw [if_neg (by omega), if_neg (by omega), if_pos (by omega)]; done) | (rw [if_neg (by omega), if_neg (by omega), if_neg (by omega)]; done))
            · show WV _ _ _ 173 _ _ _ _ _
              refine r_ex 2 (pc' := 178) (lo' := [some (.inr (.inr (some 91))), some (.inl s), some (.inl c), some (.inl ((s * 9) + c)), some (.inl 1)]) (st' := [.inl 1]) rfl ?_
              refine r_ret (rr := some (.inl 1)) (I := .ireturn) (pc0 := 178) (len := 1) rfl rfl ?_
              refine ⟨?_, rfl, ?_⟩
              · simp only [xstr, Nat.reduceAdd]
                congr 2
                (first | (rw [if_pos (by omega)]; done) | (rw [if_neg (by omega), if_pos (by omega)]; done) | (rw [if_neg (by omega), if_neg (by omega), if_pos (by omega)]; done) | (rw [if_neg (by omega), if_neg (by omega), if_neg (by omega)]; (first | (rw [if_pos (by omega)]; done) | (rw [if_neg (by omega)]; done))))
              · simp only [xstr, Nat.reduceAdd]
                (first | (rw [if_pos (by omega)]; done) | (rw [if_neg (by omega), if_pos (by omega)]; done) | (rw [if_neg (by omega), if_neg (by omega), if_pos (by omega)]; done) | (rw [if_neg (by omega), if_neg (by omega), if_neg (by omega)]; done))
          · show WV _ _ _ 151 _ _ _ _ _
            refine r_ex 4 (pc' := 157) (lo' := [some (.inr (.inr (some 91))), some (.inl s), some (.inl c), some (.inl ((s * 9) + c)), some (.inl 1)]) (st' := [.inl 3, .inr (.inr (some 97)), .inl 3, .inr (.inr (some 97))]) rfl ?_
            refine r_iald2 (j := 0) (x := (v 97 3)) (pc' := 158) (pc0 := 157) (len := 1) rfl (s_97 _) (by first | assumption | (unfold R32 at *; omega) | omega) (by decide) rfl rfl ?_
            refine r_ex 2 (pc' := 160) (lo' := [some (.inr (.inr (some 91))), some (.inl s), some (.inl c), some (.inl ((s * 9) + c)), some (.inl 1)]) (st' := [.inl ((v 97 3) + 1), .inl 3, .inr (.inr (some 97))]) rfl ?_
            refine r_iast2 (pc' := 161) (pc0 := 160) (len := 1) rfl (s_97 _) (by first | assumption | (unfold R32 at *; omega) | omega) (by decide) rfl ?_
            have hX_15 : XI (v2 (v2 v 97 7 ((v 97 7) + (v 78 ((((s * 9) + c)).toNat)))) 97 3 ((v 97 3) + 1)) := XI.put hX_8 trivial
            show WV _ _ _ 161 _ _ _ (v2 (v2 v 97 7 ((v 97 7) + (v 78 ((((s * 9) + c)).toNat)))) 97 3 ((v 97 3) + 1)) _
            refine r_ex 1 (pc' := 162) (lo' := [some (.inr (.inr (some 91))), some (.inl s), some (.inl c), some (.inl ((s * 9) + c)), some (.inl 1)]) (st' := [.inl 0]) rfl ?_
            refine r_ret (rr := some (.inl 0)) (I := .ireturn) (pc0 := 162) (len := 1) rfl rfl ?_
            refine ⟨?_, rfl, ?_⟩
            · simp only [xstr, Nat.reduceAdd]
              congr 2
              (first | (rw [if_pos (by omega)]; done) | (rw [if_neg (by omega), if_pos (by omega)]; done) | (rw [if_neg (by omega), if_neg (by omega), if_pos (by omega)]; done) | (rw [if_neg (by omega), if_neg (by omega), if_neg (by omega)]; (first | (rw [if_pos (by omega)]; done) | (rw [if_neg (by omega)]; done))))
            · simp only [xstr, Nat.reduceAdd]
              (first | (rw [if_pos (by omega)]; done) | (rw [if_neg (by omega), if_pos (by omega)]; done) | (rw [if_neg (by omega), if_neg (by omega), if_pos (by omega)]; done) | (rw [if_neg (by omega), if_neg (by omega), if_neg (by omega)]; done))
        · show WV _ _ _ 130 _ _ _ _ _
          have h_127 : ¬ ((v 34 ((c).toNat)) = 1 ∧ (v 67 4) ≠ 5) := h_127
          refine r_ex 4 (pc' := 170) (lo' := [some (.inr (.inr (some 91))), some (.inl s), some (.inl c), some (.inl ((s * 9) + c)), some (.inl 1)]) (st' := [.inl 300, .inl (v 91 4)]) rfl ?_
          have hb_16 : 0 ≤ (v 91 4) ∧ (v 91 4) ≤ 300 := hX_8 91 4
          refine r_ic_ge (pc0 := 170) (len := 3) (t := 177) rfl (by first | assumption | (unfold R32 at *; omega) | omega) (by first | assumption | (unfold R32 at *; omega) | omega) (fun h_170 => ?_) (fun h_170 => ?_)
          · show WV _ _ _ 177 _ _ _ _ _
            refine r_ex 1 (pc' := 178) (lo' := [some (.inr (.inr (some 91))), some (.inl s), some (.inl c), some (.inl ((s * 9) + c)), some (.inl 1)]) (st' := [.inl 0]) rfl ?_
            refine r_ret (rr := some (.inl 0)) (I := .ireturn) (pc0 := 178) (len := 1) rfl rfl ?_
            refine ⟨?_, rfl, ?_⟩
            · simp only [xstr, Nat.reduceAdd]
              congr 2
              (first | (rw [if_pos (by omega)]; done) | (rw [if_neg (by omega), if_pos (by omega)]; done) | (rw [if_neg (by omega), if_neg (by omega), if_pos (by omega)]; done) | (rw [if_neg (by omega), if_neg (by omega), if_neg (by omega)]; (first | (rw [if_pos (by omega)]; done) | (rw [if_neg (by omega)]; done))))
            · simp only [xstr, Nat.reduceAdd]
              (first | (rw [if_pos (by omega)]; done) | (rw [if_neg (by omega), if_pos (by omega)]; done) | (rw [if_neg (by omega), if_neg (by omega), if_pos (by omega)]; done) | (rw [if_neg (by omega), if_neg (by omega), if_neg (by omega)]; done))
          · show WV _ _ _ 173 _ _ _ _ _
            refine r_ex 2 (pc' := 178) (lo' := [some (.inr (.inr (some 91))), some (.inl s), some (.inl c), some (.inl ((s * 9) + c)), some (.inl 1)]) (st' := [.inl 1]) rfl ?_
            refine r_ret (rr := some (.inl 1)) (I := .ireturn) (pc0 := 178) (len := 1) rfl rfl ?_
            refine ⟨?_, rfl, ?_⟩
            · simp only [xstr, Nat.reduceAdd]
              congr 2
              (first | (rw [if_pos (by omega)]; done) | (rw [if_neg (by omega), if_pos (by omega)]; done) | (rw [if_neg (by omega), if_neg (by omega), if_pos (by omega)]; done) | (rw [if_neg (by omega), if_neg (by omega), if_neg (by omega)]; (first | (rw [if_pos (by omega)]; done) | (rw [if_neg (by omega)]; done))))
            · simp only [xstr, Nat.reduceAdd]
              (first | (rw [if_pos (by omega)]; done) | (rw [if_neg (by omega), if_pos (by omega)]; done) | (rw [if_neg (by omega), if_neg (by omega), if_pos (by omega)]; done) | (rw [if_neg (by omega), if_neg (by omega), if_neg (by omega)]; done))
      · show WV _ _ _ 88 _ _ _ _ _
        refine r_ex 4 (pc' := 94) (lo' := [some (.inr (.inr (some 91))), some (.inl s), some (.inl c), some (.inl ((s * 9) + c)), some (.inl 1)]) (st' := [.inl c, .inr (.inr (some 101)), .inl s]) rfl ?_
        refine r_iald2 (j := 0) (x := (v 101 ((c).toNat))) (pc' := 95) (pc0 := 94) (len := 1) rfl (s_101 _) (by first | assumption | (unfold R32 at *; omega) | omega) (by decide) rfl rfl ?_
        have hb_17 : 0 ≤ (v 101 ((c).toNat)) ∧ (v 101 ((c).toNat)) ≤ 299 := hX_8 101 ((c).toNat)
        refine r_ex 5 (pc' := 104) (lo' := [some (.inr (.inr (some 91))), some (.inl s), some (.inl c), some (.inl ((s * 9) + c)), some (.inl 1)]) (st' := [.inl c, .inr (.inr (some 36)), .inl (s - (v 101 ((c).toNat)))]) rfl ?_
        refine r_iald2 (j := 0) (x := (v 36 ((c).toNat))) (pc' := 105) (pc0 := 104) (len := 1) rfl (s_36 _) (by first | assumption | (unfold R32 at *; omega) | omega) (by decide) rfl rfl ?_
        have hb_18 : 0 ≤ (v 36 ((c).toNat)) ∧ (v 36 ((c).toNat)) ≤ 99 := hX_8 36 ((c).toNat)
        refine r_ic_gt (pc0 := 105) (len := 3) (t := 120) rfl (by first | assumption | (unfold R32 at *; omega) | omega) (by first | assumption | (unfold R32 at *; omega) | omega) (fun h_105 => ?_) (fun h_105 => ?_)
        · show WV _ _ _ 120 _ _ _ _ _
          refine r_ex 4 (pc' := 127) (lo' := [some (.inr (.inr (some 91))), some (.inl s), some (.inl c), some (.inl ((s * 9) + c)), some (.inl 1)]) (st' := [.inl c, .inr (.inr (some 91))]) rfl ?_
          refine r_callb (m := 79) (args := [.inr (.inr (some 91)), .inl c]) (n' := 78) (pc' := 130) (lo' := [some (.inr (.inr (some 91))), some (.inl s), some (.inl c), some (.inl ((s * 9) + c)), some (.inl 1)]) (st' := []) (I := .invokevirtual 79) (pc0 := 127) (len := 3) rfl rfl rfl (x_isProud91 hX_8 (by omega)) (fun h_127 => ?_) (fun h_127 => ?_)
          · show WV _ _ _ 130 _ _ _ _ _
            have h_127 : (v 34 ((c).toNat)) = 1 ∧ (v 67 4) ≠ 5 := h_127
            refine r_ex 5 (pc' := 141) (lo' := [some (.inr (.inr (some 91))), some (.inl s), some (.inl c), some (.inl ((s * 9) + c)), some (.inl 1)]) (st' := [.inl ((s * 9) + c), .inr (.inr (some 75))]) rfl ?_
            refine r_iald2 (j := 0) (x := (v 75 ((((s * 9) + c)).toNat))) (pc' := 142) (pc0 := 141) (len := 1) rfl (s_75 _) (by first | assumption | (unfold R32 at *; omega) | omega) (by decide) rfl rfl ?_
            have hb_19 : 0 ≤ (v 75 ((((s * 9) + c)).toNat)) ∧ (v 75 ((((s * 9) + c)).toNat)) ≤ 99 := hX_8 75 ((((s * 9) + c)).toNat)
            refine r_ex 3 (pc' := 147) (lo' := [some (.inr (.inr (some 91))), some (.inl s), some (.inl c), some (.inl ((s * 9) + c)), some (.inl 1)]) (st' := [.inl c, .inr (.inr (some 102)), .inl (v 75 ((((s * 9) + c)).toNat))]) rfl ?_
            refine r_iald2 (j := 0) (x := (v 102 ((c).toNat))) (pc' := 148) (pc0 := 147) (len := 1) rfl (s_102 _) (by first | assumption | (unfold R32 at *; omega) | omega) (by decide) rfl rfl ?_
            have hb_20 : 0 ≤ (v 102 ((c).toNat)) ∧ (v 102 ((c).toNat)) ≤ 99 := hX_8 102 ((c).toNat)
            refine r_ic_gt (pc0 := 148) (len := 3) (t := 163) rfl (by first | assumption | (unfold R32 at *; omega) | omega) (by first | assumption | (unfold R32 at *; omega) | omega) (fun h_148 => ?_) (fun h_148 => ?_)
            · show WV _ _ _ 163 _ _ _ _ _
              refine r_ex 3 (pc' := 170) (lo' := [some (.inr (.inr (some 91))), some (.inl s), some (.inl c), some (.inl ((s * 9) + c)), some (.inl 1)]) (st' := [.inl 300, .inl (v 91 4)]) rfl ?_
              have hb_21 : 0 ≤ (v 91 4) ∧ (v 91 4) ≤ 300 := hX_8 91 4
              refine r_ic_ge (pc0 := 170) (len := 3) (t := 177) rfl (by first | assumption | (unfold R32 at *; omega) | omega) (by first | assumption | (unfold R32 at *; omega) | omega) (fun h_170 => ?_) (fun h_170 => ?_)
              · show WV _ _ _ 177 _ _ _ _ _
                refine r_ex 1 (pc' := 178) (lo' := [some (.inr (.inr (some 91))), some (.inl s), some (.inl c), some (.inl ((s * 9) + c)), some (.inl 1)]) (st' := [.inl 0]) rfl ?_
                refine r_ret (rr := some (.inl 0)) (I := .ireturn) (pc0 := 178) (len := 1) rfl rfl ?_
                refine ⟨?_, rfl, ?_⟩
                · simp only [xstr, Nat.reduceAdd]
                  congr 2
                  (first | (rw [if_pos (by omega)]; done) | (rw [if_neg (by omega), if_pos (by omega)]; done) | (rw [if_neg (by omega), if_neg (by omega), if_pos (by omega)]; done) | (rw [if_neg (by omega), if_neg (by omega), if_neg (by omega)]; (first | (rw [if_pos (by omega)]; done) | (rw [if_neg (by omega)]; done))))
                · simp only [xstr, Nat.reduceAdd]
                  (first | (rw [if_pos (by omega)]; done) | (rw [if_neg (by omega), if_pos (by omega)]; done) | (rw [if_neg (by omega), if_neg (by omega), if_pos (by omega)]; done) | (rw [if_neg (by omega), if_neg (by omega), if_neg (by omega)]; done))
              · show WV _ _ _ 173 _ _ _ _ _
                refine r_ex 2 (pc' := 178) (lo' := [some (.inr (.inr (some 91))), some (.inl s), some (.inl c), some (.inl ((s * 9) + c)), some (.inl 1)]) (st' := [.inl 1]) rfl ?_
                refine r_ret (rr := some (.inl 1)) (I := .ireturn) (pc0 := 178) (len := 1) rfl rfl ?_
                refine ⟨?_, rfl, ?_⟩
                · simp only [xstr, Nat.reduceAdd]
                  congr 2
                  (first | (rw [if_pos (by omega)]; done) | (rw [if_neg (by omega), if_pos (by omega)]; done) | (rw [if_neg (by omega), if_neg (by omega), if_pos (by omega)]; done) | (rw [if_neg (by omega), if_neg (by omega), if_neg (by omega)]; (first | (rw [if_pos (by omega)]; done) | (rw [if_neg (by omega)]; done))))
                · simp only [xstr, Nat.reduceAdd]
                  (first | (rw [if_pos (by omega)]; done) | (rw [if_neg (by omega), if_pos (by omega)]; done) | (rw [if_neg (by omega), if_neg (by omega), if_pos (by omega)]; done) | (rw [if_neg (by omega), if_neg (by omega), if_neg (by omega)]; done))
            · show WV _ _ _ 151 _ _ _ _ _
              refine r_ex 4 (pc' := 157) (lo' := [some (.inr (.inr (some 91))), some (.inl s), some (.inl c), some (.inl ((s * 9) + c)), some (.inl 1)]) (st' := [.inl 3, .inr (.inr (some 97)), .inl 3, .inr (.inr (some 97))]) rfl ?_
              refine r_iald2 (j := 0) (x := (v 97 3)) (pc' := 158) (pc0 := 157) (len := 1) rfl (s_97 _) (by first | assumption | (unfold R32 at *; omega) | omega) (by decide) rfl rfl ?_
              refine r_ex 2 (pc' := 160) (lo' := [some (.inr (.inr (some 91))), some (.inl s), some (.inl c), some (.inl ((s * 9) + c)), some (.inl 1)]) (st' := [.inl ((v 97 3) + 1), .inl 3, .inr (.inr (some 97))]) rfl ?_
              refine r_iast2 (pc' := 161) (pc0 := 160) (len := 1) rfl (s_97 _) (by first | assumption | (unfold R32 at *; omega) | omega) (by decide) rfl ?_
              have hX_22 : XI (v2 (v2 v 97 7 ((v 97 7) + (v 78 ((((s * 9) + c)).toNat)))) 97 3 ((v 97 3) + 1)) := XI.put hX_8 trivial
              show WV _ _ _ 161 _ _ _ (v2 (v2 v 97 7 ((v 97 7) + (v 78 ((((s * 9) + c)).toNat)))) 97 3 ((v 97 3) + 1)) _
              refine r_ex 1 (pc' := 162) (lo' := [some (.inr (.inr (some 91))), some (.inl s), some (.inl c), some (.inl ((s * 9) + c)), some (.inl 1)]) (st' := [.inl 0]) rfl ?_
              refine r_ret (rr := some (.inl 0)) (I := .ireturn) (pc0 := 162) (len := 1) rfl rfl ?_
              refine ⟨?_, rfl, ?_⟩
              · simp only [xstr, Nat.reduceAdd]
                congr 2
                (first | (rw [if_pos (by omega)]; done) | (rw [if_neg (by omega), if_pos (by omega)]; done) | (rw [if_neg (by omega), if_neg (by omega), if_pos (by omega)]; done) | (rw [if_neg (by omega), if_neg (by omega), if_neg (by omega)]; (first | (rw [if_pos (by omega)]; done) | (rw [if_neg (by omega)]; done))))
              · simp only [xstr, Nat.reduceAdd]
                (first | (rw [if_pos (by omega)]; done) | (rw [if_neg (by omega), if_pos (by omega)]; done) | (rw [if_neg (by omega), if_neg (by omega), if_pos (by omega)]; done) | (rw [if_neg (by omega), if_neg (by omega), if_neg (by omega)]; done))
          · show WV _ _ _ 130 _ _ _ _ _
            have h_127 : ¬ ((v 34 ((c).toNat)) = 1 ∧ (v 67 4) ≠ 5) := h_127
            refine r_ex 4 (pc' := 170) (lo' := [some (.inr (.inr (some 91))), some (.inl s), some (.inl c), some (.inl ((s * 9) + c)), some (.inl 1)]) (st' := [.inl 300, .inl (v 91 4)]) rfl ?_
            have hb_23 : 0 ≤ (v 91 4) ∧ (v 91 4) ≤ 300 := hX_8 91 4
            refine r_ic_ge (pc0 := 170) (len := 3) (t := 177) rfl (by first | assumption | (unfold R32 at *; omega) | omega) (by first | assumption | (unfold R32 at *; omega) | omega) (fun h_170 => ?_) (fun h_170 => ?_)
            · show WV _ _ _ 177 _ _ _ _ _
              refine r_ex 1 (pc' := 178) (lo' := [some (.inr (.inr (some 91))), some (.inl s), some (.inl c), some (.inl ((s * 9) + c)), some (.inl 1)]) (st' := [.inl 0]) rfl ?_
              refine r_ret (rr := some (.inl 0)) (I := .ireturn) (pc0 := 178) (len := 1) rfl rfl ?_
              refine ⟨?_, rfl, ?_⟩
              · simp only [xstr, Nat.reduceAdd]
                congr 2
                (first | (rw [if_pos (by omega)]; done) | (rw [if_neg (by omega), if_pos (by omega)]; done) | (rw [if_neg (by omega), if_neg (by omega), if_pos (by omega)]; done) | (rw [if_neg (by omega), if_neg (by omega), if_neg (by omega)]; (first | (rw [if_pos (by omega)]; done) | (rw [if_neg (by omega)]; done))))
              · simp only [xstr, Nat.reduceAdd]
                (first | (rw [if_pos (by omega)]; done) | (rw [if_neg (by omega), if_pos (by omega)]; done) | (rw [if_neg (by omega), if_neg (by omega), if_pos (by omega)]; done) | (rw [if_neg (by omega), if_neg (by omega), if_neg (by omega)]; done))
            · show WV _ _ _ 173 _ _ _ _ _
              refine r_ex 2 (pc' := 178) (lo' := [some (.inr (.inr (some 91))), some (.inl s), some (.inl c), some (.inl ((s * 9) + c)), some (.inl 1)]) (st' := [.inl 1]) rfl ?_
              refine r_ret (rr := some (.inl 1)) (I := .ireturn) (pc0 := 178) (len := 1) rfl rfl ?_
              refine ⟨?_, rfl, ?_⟩
              · simp only [xstr, Nat.reduceAdd]
                congr 2
                (first | (rw [if_pos (by omega)]; done) | (rw [if_neg (by omega), if_pos (by omega)]; done) | (rw [if_neg (by omega), if_neg (by omega), if_pos (by omega)]; done) | (rw [if_neg (by omega), if_neg (by omega), if_neg (by omega)]; (first | (rw [if_pos (by omega)]; done) | (rw [if_neg (by omega)]; done))))
              · simp only [xstr, Nat.reduceAdd]
                (first | (rw [if_pos (by omega)]; done) | (rw [if_neg (by omega), if_pos (by omega)]; done) | (rw [if_neg (by omega), if_neg (by omega), if_pos (by omega)]; done) | (rw [if_neg (by omega), if_neg (by omega), if_neg (by omega)]; done))
        · show WV _ _ _ 108 _ _ _ _ _
          refine r_ex 4 (pc' := 114) (lo' := [some (.inr (.inr (some 91))), some (.inl s), some (.inl c), some (.inl ((s * 9) + c)), some (.inl 1)]) (st' := [.inl 2, .inr (.inr (some 97)), .inl 2, .inr (.inr (some 97))]) rfl ?_
          refine r_iald2 (j := 0) (x := (v 97 2)) (pc' := 115) (pc0 := 114) (len := 1) rfl (s_97 _) (by first | assumption | (unfold R32 at *; omega) | omega) (by decide) rfl rfl ?_
          refine r_ex 2 (pc' := 117) (lo' := [some (.inr (.inr (some 91))), some (.inl s), some (.inl c), some (.inl ((s * 9) + c)), some (.inl 1)]) (st' := [.inl ((v 97 2) + 1), .inl 2, .inr (.inr (some 97))]) rfl ?_
          refine r_iast2 (pc' := 118) (pc0 := 117) (len := 1) rfl (s_97 _) (by first | assumption | (unfold R32 at *; omega) | omega) (by decide) rfl ?_
          have hX_24 : XI (v2 (v2 v 97 7 ((v 97 7) + (v 78 ((((s * 9) + c)).toNat)))) 97 2 ((v 97 2) + 1)) := XI.put hX_8 trivial
          show WV _ _ _ 118 _ _ _ (v2 (v2 v 97 7 ((v 97 7) + (v 78 ((((s * 9) + c)).toNat)))) 97 2 ((v 97 2) + 1)) _
          refine r_ex 1 (pc' := 119) (lo' := [some (.inr (.inr (some 91))), some (.inl s), some (.inl c), some (.inl ((s * 9) + c)), some (.inl 1)]) (st' := [.inl 0]) rfl ?_
          refine r_ret (rr := some (.inl 0)) (I := .ireturn) (pc0 := 119) (len := 1) rfl rfl ?_
          refine ⟨?_, rfl, ?_⟩
          · simp only [xstr, Nat.reduceAdd]
            congr 2
            (first | (rw [if_pos (by omega)]; done) | (rw [if_neg (by omega), if_pos (by omega)]; done) | (rw [if_neg (by omega), if_neg (by omega), if_pos (by omega)]; done) | (rw [if_neg (by omega), if_neg (by omega), if_neg (by omega)]; (first | (rw [if_pos (by omega)]; done) | (rw [if_neg (by omega)]; done))))
          · simp only [xstr, Nat.reduceAdd]
            (first | (rw [if_pos (by omega)]; done) | (rw [if_neg (by omega), if_pos (by omega)]; done) | (rw [if_neg (by omega), if_neg (by omega), if_pos (by omega)]; done) | (rw [if_neg (by omega), if_neg (by omega), if_neg (by omega)]; done))
    · show WV _ _ _ 60 _ _ _ _ _
      refine r_ex 4 (pc' := 66) (lo' := [some (.inr (.inr (some 91))), some (.inl s), some (.inl c), some (.inl ((s * 9) + c)), some (.inl 1)]) (st' := [.inl 4, .inr (.inr (some 97)), .inl 4, .inr (.inr (some 97))]) rfl ?_
      refine r_iald2 (j := 0) (x := (v 97 4)) (pc' := 67) (pc0 := 66) (len := 1) rfl (s_97 _) (by first | assumption | (unfold R32 at *; omega) | omega) (by decide) rfl rfl ?_
      refine r_ex 2 (pc' := 69) (lo' := [some (.inr (.inr (some 91))), some (.inl s), some (.inl c), some (.inl ((s * 9) + c)), some (.inl 1)]) (st' := [.inl ((v 97 4) + 1), .inl 4, .inr (.inr (some 97))]) rfl ?_
      refine r_iast2 (pc' := 70) (pc0 := 69) (len := 1) rfl (s_97 _) (by first | assumption | (unfold R32 at *; omega) | omega) (by decide) rfl ?_
      have hX_25 : XI (v2 (v2 v 97 7 ((v 97 7) + (v 78 ((((s * 9) + c)).toNat)))) 97 4 ((v 97 4) + 1)) := XI.put hX_8 trivial
      show WV _ _ _ 70 _ _ _ (v2 (v2 v 97 7 ((v 97 7) + (v 78 ((((s * 9) + c)).toNat)))) 97 4 ((v 97 4) + 1)) _
      refine r_ex 1 (pc' := 71) (lo' := [some (.inr (.inr (some 91))), some (.inl s), some (.inl c), some (.inl ((s * 9) + c)), some (.inl 1)]) (st' := [.inl 0]) rfl ?_
      refine r_ret (rr := some (.inl 0)) (I := .ireturn) (pc0 := 71) (len := 1) rfl rfl ?_
      refine ⟨?_, rfl, ?_⟩
      · simp only [xstr, Nat.reduceAdd]
        congr 2
        (first | (rw [if_pos (by omega)]; done) | (rw [if_neg (by omega), if_pos (by omega)]; done) | (rw [if_neg (by omega), if_neg (by omega), if_pos (by omega)]; done) | (rw [if_neg (by omega), if_neg (by omega), if_neg (by omega)]; (first | (rw [if_pos (by omega)]; done) | (rw [if_neg (by omega)]; done))))
      · simp only [xstr, Nat.reduceAdd]
        (first | (rw [if_pos (by omega)]; done) | (rw [if_neg (by omega), if_pos (by omega)]; done) | (rw [if_neg (by omega), if_neg (by omega), if_pos (by omega)]; done) | (rw [if_neg (by omega), if_neg (by omega), if_neg (by omega)]; done))
