/-! small methods of the class -/
theorem x_isChurch {X : PX} {d b : Nat} {v : VS} {c : Int} (hc : R32 c) (hn : R32 (v 33 0)) : EvV X d 62 [.inr (.inr (some 0)), .inl c] b v (some (.inl (if 0 ≤ c ∧ c < v 33 0 then 1 else 0))) b v := by
  refine EvV.of ?_
  show WV _ _ _ 0 [some (.inr (.inr (some 0))), some (.inl c)] [] _ _ _
  refine r_ex 1 (pc' := 1) (lo' := [some (.inr (.inr (some 0))), some (.inl c)]) (st' := [.inl c]) rfl ?_
  refine r_if_lt (pc0 := 1) (len := 3) (t := 19) rfl (by first | assumption | (unfold R32 at *; omega)) (fun h_1 => ?_) (fun h_1 => ?_)
  · show WV _ _ _ 19 _ _ _ _ _
    refine r_ex 1 (pc' := 20) (lo' := [some (.inr (.inr (some 0))), some (.inl c)]) (st' := [.inl 0]) rfl ?_
    refine r_ret (rr := some (.inl 0)) (I := .ireturn) (pc0 := 20) (len := 1) rfl rfl ?_
    refine ⟨?_, rfl, rfl⟩
    (first | rfl | (congr 2; (first | rfl | (split <;> omega))))
  · show WV _ _ _ 4 _ _ _ _ _
    refine r_ex 4 (pc' := 12) (lo' := [some (.inr (.inr (some 0))), some (.inl c)]) (st' := [.inl (v 33 0), .inl c]) rfl ?_
    refine r_ic_ge (pc0 := 12) (len := 3) (t := 19) rfl (by first | assumption | (unfold R32 at *; omega)) (by first | assumption | (unfold R32 at *; omega)) (fun h_12 => ?_) (fun h_12 => ?_)
    · show WV _ _ _ 19 _ _ _ _ _
      refine r_ex 1 (pc' := 20) (lo' := [some (.inr (.inr (some 0))), some (.inl c)]) (st' := [.inl 0]) rfl ?_
      refine r_ret (rr := some (.inl 0)) (I := .ireturn) (pc0 := 20) (len := 1) rfl rfl ?_
      refine ⟨?_, rfl, rfl⟩
      (first | rfl | (congr 2; (first | rfl | (split <;> omega))))
    · show WV _ _ _ 15 _ _ _ _ _
      refine r_ex 2 (pc' := 20) (lo' := [some (.inr (.inr (some 0))), some (.inl c)]) (st' := [.inl 1]) rfl ?_
      refine r_ret (rr := some (.inl 1)) (I := .ireturn) (pc0 := 20) (len := 1) rfl rfl ?_
      refine ⟨?_, rfl, rfl⟩
      (first | rfl | (congr 2; (first | rfl | (split <;> omega))))

theorem x_isSecond {X : PX} {d b : Nat} {v : VS} {c : Int} (hc : R32 c) (hn : R32 (v 33 1)) : EvV X d 67 [.inr (.inr (some 0)), .inl c] b v (some (.inl (if 0 ≤ c ∧ c < v 33 1 then 1 else 0))) b v := by
  refine EvV.of ?_
  show WV _ _ _ 0 [some (.inr (.inr (some 0))), some (.inl c)] [] _ _ _
  refine r_ex 1 (pc' := 1) (lo' := [some (.inr (.inr (some 0))), some (.inl c)]) (st' := [.inl c]) rfl ?_
  refine r_if_lt (pc0 := 1) (len := 3) (t := 19) rfl (by first | assumption | (unfold R32 at *; omega)) (fun h_1 => ?_) (fun h_1 => ?_)
  · show WV _ _ _ 19 _ _ _ _ _
    refine r_ex 1 (pc' := 20) (lo' := [some (.inr (.inr (some 0))), some (.inl c)]) (st' := [.inl 0]) rfl ?_
    refine r_ret (rr := some (.inl 0)) (I := .ireturn) (pc0 := 20) (len := 1) rfl rfl ?_
    refine ⟨?_, rfl, rfl⟩
    (first | rfl | (congr 2; (first | rfl | (split <;> omega))))
  · show WV _ _ _ 4 _ _ _ _ _
    refine r_ex 4 (pc' := 12) (lo' := [some (.inr (.inr (some 0))), some (.inl c)]) (st' := [.inl (v 33 1), .inl c]) rfl ?_
    refine r_ic_ge (pc0 := 12) (len := 3) (t := 19) rfl (by first | assumption | (unfold R32 at *; omega)) (by first | assumption | (unfold R32 at *; omega)) (fun h_12 => ?_) (fun h_12 => ?_)
    · show WV _ _ _ 19 _ _ _ _ _
      refine r_ex 1 (pc' := 20) (lo' := [some (.inr (.inr (some 0))), some (.inl c)]) (st' := [.inl 0]) rfl ?_
      refine r_ret (rr := some (.inl 0)) (I := .ireturn) (pc0 := 20) (len := 1) rfl rfl ?_
      refine ⟨?_, rfl, rfl⟩
      (first | rfl | (congr 2; (first | rfl | (split <;> omega))))
    · show WV _ _ _ 15 _ _ _ _ _
      refine r_ex 2 (pc' := 20) (lo' := [some (.inr (.inr (some 0))), some (.inl c)]) (st' := [.inl 1]) rfl ?_
      refine r_ret (rr := some (.inl 1)) (I := .ireturn) (pc0 := 20) (len := 1) rfl rfl ?_
      refine ⟨?_, rfl, rfl⟩
      (first | rfl | (congr 2; (first | rfl | (split <;> omega))))

theorem x_isEar {X : PX} {d b : Nat} {v : VS} {c : Int} (hc : R32 c) (hn : R32 (v 37 0)) : EvV X d 65 [.inr (.inr (some 0)), .inl c] b v (some (.inl (if 0 ≤ c ∧ c < v 37 0 then 1 else 0))) b v := by
  refine EvV.of ?_
  show WV _ _ _ 0 [some (.inr (.inr (some 0))), some (.inl c)] [] _ _ _
  refine r_ex 1 (pc' := 1) (lo' := [some (.inr (.inr (some 0))), some (.inl c)]) (st' := [.inl c]) rfl ?_
  refine r_if_lt (pc0 := 1) (len := 3) (t := 22) rfl (by first | assumption | (unfold R32 at *; omega)) (fun h_1 => ?_) (fun h_1 => ?_)
  · show WV _ _ _ 22 _ _ _ _ _
    refine r_ex 1 (pc' := 23) (lo' := [some (.inr (.inr (some 0))), some (.inl c)]) (st' := [.inl 0]) rfl ?_
    refine r_ret (rr := some (.inl 0)) (I := .ireturn) (pc0 := 23) (len := 1) rfl rfl ?_
    refine ⟨?_, rfl, rfl⟩
    (first | rfl | (congr 2; (first | rfl | (split <;> omega))))
  · show WV _ _ _ 4 _ _ _ _ _
    refine r_ex 5 (pc' := 15) (lo' := [some (.inr (.inr (some 0))), some (.inl c)]) (st' := [.inl (v 37 0), .inl c]) rfl ?_
    refine r_ic_ge (pc0 := 15) (len := 3) (t := 22) rfl (by first | assumption | (unfold R32 at *; omega)) (by first | assumption | (unfold R32 at *; omega)) (fun h_15 => ?_) (fun h_15 => ?_)
    · show WV _ _ _ 22 _ _ _ _ _
      refine r_ex 1 (pc' := 23) (lo' := [some (.inr (.inr (some 0))), some (.inl c)]) (st' := [.inl 0]) rfl ?_
      refine r_ret (rr := some (.inl 0)) (I := .ireturn) (pc0 := 23) (len := 1) rfl rfl ?_
      refine ⟨?_, rfl, rfl⟩
      (first | rfl | (congr 2; (first | rfl | (split <;> omega))))
    · show WV _ _ _ 18 _ _ _ _ _
      refine r_ex 2 (pc' := 23) (lo' := [some (.inr (.inr (some 0))), some (.inl c)]) (st' := [.inl 1]) rfl ?_
      refine r_ret (rr := some (.inl 1)) (I := .ireturn) (pc0 := 23) (len := 1) rfl rfl ?_
      refine ⟨?_, rfl, rfl⟩
      (first | rfl | (congr 2; (first | rfl | (split <;> omega))))

theorem x_isStart {X : PX} {d b : Nat} {v : VS} {c : Int} (hc : R32 c) (hn : R32 (v 42 0)) : EvV X d 159 [.inr (.inr (some 0)), .inl c] b v (some (.inl (if 0 ≤ c ∧ c < v 42 0 then 1 else 0))) b v := by
  refine EvV.of ?_
  show WV _ _ _ 0 [some (.inr (.inr (some 0))), some (.inl c)] [] _ _ _
  refine r_ex 1 (pc' := 1) (lo' := [some (.inr (.inr (some 0))), some (.inl c)]) (st' := [.inl c]) rfl ?_
  refine r_if_lt (pc0 := 1) (len := 3) (t := 22) rfl (by first | assumption | (unfold R32 at *; omega)) (fun h_1 => ?_) (fun h_1 => ?_)
  · show WV _ _ _ 22 _ _ _ _ _
    refine r_ex 1 (pc' := 23) (lo' := [some (.inr (.inr (some 0))), some (.inl c)]) (st' := [.inl 0]) rfl ?_
    refine r_ret (rr := some (.inl 0)) (I := .ireturn) (pc0 := 23) (len := 1) rfl rfl ?_
    refine ⟨?_, rfl, rfl⟩
    (first | rfl | (congr 2; (first | rfl | (split <;> omega))))
  · show WV _ _ _ 4 _ _ _ _ _
    refine r_ex 5 (pc' := 15) (lo' := [some (.inr (.inr (some 0))), some (.inl c)]) (st' := [.inl (v 42 0), .inl c]) rfl ?_
    refine r_ic_ge (pc0 := 15) (len := 3) (t := 22) rfl (by first | assumption | (unfold R32 at *; omega)) (by first | assumption | (unfold R32 at *; omega)) (fun h_15 => ?_) (fun h_15 => ?_)
    · show WV _ _ _ 22 _ _ _ _ _
      refine r_ex 1 (pc' := 23) (lo' := [some (.inr (.inr (some 0))), some (.inl c)]) (st' := [.inl 0]) rfl ?_
      refine r_ret (rr := some (.inl 0)) (I := .ireturn) (pc0 := 23) (len := 1) rfl rfl ?_
      refine ⟨?_, rfl, rfl⟩
      (first | rfl | (congr 2; (first | rfl | (split <;> omega))))
    · show WV _ _ _ 18 _ _ _ _ _
      refine r_ex 2 (pc' := 23) (lo' := [some (.inr (.inr (some 0))), some (.inl c)]) (st' := [.inl 1]) rfl ?_
      refine r_ret (rr := some (.inl 1)) (I := .ireturn) (pc0 := 23) (len := 1) rfl rfl ?_
      refine ⟨?_, rfl, rfl⟩
      (first | rfl | (congr 2; (first | rfl | (split <;> omega))))

theorem x_hasBay {X : PX} {d b : Nat} {v : VS}  (hn : R32 (v 33 2)) : EvV X d 71 [.inr (.inr (some 0))] b v (some (.inl (if 0 < v 33 2 then 1 else 0))) b v := by
  refine EvV.of ?_
  show WV _ _ _ 0 [some (.inr (.inr (some 0)))] [] _ _ _
  refine r_ex 3 (pc' := 7) (lo' := [some (.inr (.inr (some 0)))]) (st' := [.inl (v 33 2)]) rfl ?_
  refine r_if_le (pc0 := 7) (len := 3) (t := 14) rfl (by first | assumption | (unfold R32 at *; omega)) (fun h_7 => ?_) (fun h_7 => ?_)
  · show WV _ _ _ 14 _ _ _ _ _
    refine r_ex 1 (pc' := 15) (lo' := [some (.inr (.inr (some 0)))]) (st' := [.inl 0]) rfl ?_
    refine r_ret (rr := some (.inl 0)) (I := .ireturn) (pc0 := 15) (len := 1) rfl rfl ?_
    refine ⟨?_, rfl, rfl⟩
    (first | rfl | (congr 2; (first | rfl | (split <;> omega))))
  · show WV _ _ _ 10 _ _ _ _ _
    refine r_ex 2 (pc' := 15) (lo' := [some (.inr (.inr (some 0)))]) (st' := [.inl 1]) rfl ?_
    refine r_ret (rr := some (.inl 1)) (I := .ireturn) (pc0 := 15) (len := 1) rfl rfl ?_
    refine ⟨?_, rfl, rfl⟩
    (first | rfl | (congr 2; (first | rfl | (split <;> omega))))

theorem x_isHour {X : PX} {d b : Nat} {v : VS} {c : Int} (hc : R32 c) : EvV X d 98 [.inl c] b v (some (.inl (if 1 ≤ c ∧ c ≤ 99 then 1 else 0))) b v := by
  refine EvV.of ?_
  show WV _ _ _ 0 [some (.inl c)] [] _ _ _
  refine r_ex 2 (pc' := 2) (lo' := [some (.inl c)]) (st' := [.inl 1, .inl c]) rfl ?_
  refine r_ic_lt (pc0 := 2) (len := 3) (t := 15) rfl (by first | assumption | (unfold R32 at *; omega)) (by first | assumption | (unfold R32 at *; omega)) (fun h_2 => ?_) (fun h_2 => ?_)
  · show WV _ _ _ 15 _ _ _ _ _
    refine r_ex 1 (pc' := 16) (lo' := [some (.inl c)]) (st' := [.inl 0]) rfl ?_
    refine r_ret (rr := some (.inl 0)) (I := .ireturn) (pc0 := 16) (len := 1) rfl rfl ?_
    refine ⟨?_, rfl, rfl⟩
    (first | rfl | (congr 2; (first | rfl | (split <;> omega))))
  · show WV _ _ _ 5 _ _ _ _ _
    refine r_ex 2 (pc' := 8) (lo' := [some (.inl c)]) (st' := [.inl 99, .inl c]) rfl ?_
    refine r_ic_gt (pc0 := 8) (len := 3) (t := 15) rfl (by first | assumption | (unfold R32 at *; omega)) (by first | assumption | (unfold R32 at *; omega)) (fun h_8 => ?_) (fun h_8 => ?_)
    · show WV _ _ _ 15 _ _ _ _ _
      refine r_ex 1 (pc' := 16) (lo' := [some (.inl c)]) (st' := [.inl 0]) rfl ?_
      refine r_ret (rr := some (.inl 0)) (I := .ireturn) (pc0 := 16) (len := 1) rfl rfl ?_
      refine ⟨?_, rfl, rfl⟩
      (first | rfl | (congr 2; (first | rfl | (split <;> omega))))
    · show WV _ _ _ 11 _ _ _ _ _
      refine r_ex 2 (pc' := 16) (lo' := [some (.inl c)]) (st' := [.inl 1]) rfl ?_
      refine r_ret (rr := some (.inl 1)) (I := .ireturn) (pc0 := 16) (len := 1) rfl rfl ?_
      refine ⟨?_, rfl, rfl⟩
      (first | rfl | (congr 2; (first | rfl | (split <;> omega))))

theorem x_isSlot {X : PX} {d b : Nat} {v : VS} {c : Int} (hc : R32 c) : EvV X d 163 [.inl c] b v (some (.inl (if 0 ≤ c ∧ c < 4 then 1 else 0))) b v := by
  refine EvV.of ?_
  show WV _ _ _ 0 [some (.inl c)] [] _ _ _
  refine r_ex 1 (pc' := 1) (lo' := [some (.inl c)]) (st' := [.inl c]) rfl ?_
  refine r_if_lt (pc0 := 1) (len := 3) (t := 13) rfl (by first | assumption | (unfold R32 at *; omega)) (fun h_1 => ?_) (fun h_1 => ?_)
  · show WV _ _ _ 13 _ _ _ _ _
    refine r_ex 1 (pc' := 14) (lo' := [some (.inl c)]) (st' := [.inl 0]) rfl ?_
    refine r_ret (rr := some (.inl 0)) (I := .ireturn) (pc0 := 14) (len := 1) rfl rfl ?_
    refine ⟨?_, rfl, rfl⟩
    (first | rfl | (congr 2; (first | rfl | (split <;> omega))))
  · show WV _ _ _ 4 _ _ _ _ _
    refine r_ex 2 (pc' := 6) (lo' := [some (.inl c)]) (st' := [.inl 4, .inl c]) rfl ?_
    refine r_ic_ge (pc0 := 6) (len := 3) (t := 13) rfl (by first | assumption | (unfold R32 at *; omega)) (by first | assumption | (unfold R32 at *; omega)) (fun h_6 => ?_) (fun h_6 => ?_)
    · show WV _ _ _ 13 _ _ _ _ _
      refine r_ex 1 (pc' := 14) (lo' := [some (.inl c)]) (st' := [.inl 0]) rfl ?_
      refine r_ret (rr := some (.inl 0)) (I := .ireturn) (pc0 := 14) (len := 1) rfl rfl ?_
      refine ⟨?_, rfl, rfl⟩
      (first | rfl | (congr 2; (first | rfl | (split <;> omega))))
    · show WV _ _ _ 9 _ _ _ _ _
      refine r_ex 2 (pc' := 14) (lo' := [some (.inl c)]) (st' := [.inl 1]) rfl ?_
      refine r_ret (rr := some (.inl 1)) (I := .ireturn) (pc0 := 14) (len := 1) rfl rfl ?_
      refine ⟨?_, rfl, rfl⟩
      (first | rfl | (congr 2; (first | rfl | (split <;> omega))))

theorem x_isDraw {X : PX} {d b : Nat} {v : VS} {c k : Int} (hc : R32 c) (hk : R32 k) : EvV X d 180 [.inl c, .inl k] b v (some (.inl (if (0 ≤ c ∧ c ≤ 2000000000) ∧ (0 ≤ k ∧ k ≤ 20) then 1 else 0))) b v := by
  refine EvV.of ?_
  show WV _ _ _ 0 [some (.inl c), some (.inl k)] [] _ _ _
  refine r_ex 1 (pc' := 1) (lo' := [some (.inl c), some (.inl k)]) (st' := [.inl c]) rfl ?_
  refine r_if_lt (pc0 := 1) (len := 3) (t := 25) rfl (by first | assumption | (unfold R32 at *; omega)) (fun h_1 => ?_) (fun h_1 => ?_)
  · show WV _ _ _ 25 _ _ _ _ _
    refine r_ex 1 (pc' := 26) (lo' := [some (.inl c), some (.inl k)]) (st' := [.inl 0]) rfl ?_
    refine r_ret (rr := some (.inl 0)) (I := .ireturn) (pc0 := 26) (len := 1) rfl rfl ?_
    refine ⟨?_, rfl, rfl⟩
    (first | rfl | (congr 2; (first | rfl | (split <;> omega))))
  · show WV _ _ _ 4 _ _ _ _ _
    refine r_ex 2 (pc' := 8) (lo' := [some (.inl c), some (.inl k)]) (st' := [.inl 2000000000, .inl c]) rfl ?_
    refine r_ic_gt (pc0 := 8) (len := 3) (t := 25) rfl (by first | assumption | (unfold R32 at *; omega)) (by first | assumption | (unfold R32 at *; omega)) (fun h_8 => ?_) (fun h_8 => ?_)
    · show WV _ _ _ 25 _ _ _ _ _
      refine r_ex 1 (pc' := 26) (lo' := [some (.inl c), some (.inl k)]) (st' := [.inl 0]) rfl ?_
      refine r_ret (rr := some (.inl 0)) (I := .ireturn) (pc0 := 26) (len := 1) rfl rfl ?_
      refine ⟨?_, rfl, rfl⟩
      (first | rfl | (congr 2; (first | rfl | (split <;> omega))))
    · show WV _ _ _ 11 _ _ _ _ _
      refine r_ex 1 (pc' := 12) (lo' := [some (.inl c), some (.inl k)]) (st' := [.inl k]) rfl ?_
      refine r_if_lt (pc0 := 12) (len := 3) (t := 25) rfl (by first | assumption | (unfold R32 at *; omega)) (fun h_12 => ?_) (fun h_12 => ?_)
      · show WV _ _ _ 25 _ _ _ _ _
        refine r_ex 1 (pc' := 26) (lo' := [some (.inl c), some (.inl k)]) (st' := [.inl 0]) rfl ?_
        refine r_ret (rr := some (.inl 0)) (I := .ireturn) (pc0 := 26) (len := 1) rfl rfl ?_
        refine ⟨?_, rfl, rfl⟩
        (first | rfl | (congr 2; (first | rfl | (split <;> omega))))
      · show WV _ _ _ 15 _ _ _ _ _
        refine r_ex 2 (pc' := 18) (lo' := [some (.inl c), some (.inl k)]) (st' := [.inl 20, .inl k]) rfl ?_
        refine r_ic_gt (pc0 := 18) (len := 3) (t := 25) rfl (by first | assumption | (unfold R32 at *; omega)) (by first | assumption | (unfold R32 at *; omega)) (fun h_18 => ?_) (fun h_18 => ?_)
        · show WV _ _ _ 25 _ _ _ _ _
          refine r_ex 1 (pc' := 26) (lo' := [some (.inl c), some (.inl k)]) (st' := [.inl 0]) rfl ?_
          refine r_ret (rr := some (.inl 0)) (I := .ireturn) (pc0 := 26) (len := 1) rfl rfl ?_
          refine ⟨?_, rfl, rfl⟩
          (first | rfl | (congr 2; (first | rfl | (split <;> omega))))
        · show WV _ _ _ 21 _ _ _ _ _
          refine r_ex 2 (pc' := 26) (lo' := [some (.inl c), some (.inl k)]) (st' := [.inl 1]) rfl ?_
          refine r_ret (rr := some (.inl 1)) (I := .ireturn) (pc0 := 26) (len := 1) rfl rfl ?_
          refine ⟨?_, rfl, rfl⟩
          (first | rfl | (congr 2; (first | rfl | (split <;> omega))))

theorem x_end {X : PX} {d b : Nat} {v : VS} {c : Int} (hc : R32 c) (hn : R32 (v 0 1)) : EvV X d 15 [.inr (.inr (some 0)), .inl c] b v (some (.inl (if 0 ≤ c ∧ c ≤ v 0 1 then c else -1))) b (if 0 ≤ c ∧ c ≤ v 0 1 then v2 v 0 1 c else v) := by
  refine EvV.of ?_
  show WV _ _ _ 0 [some (.inr (.inr (some 0))), some (.inl c)] [] _ _ _
  refine r_ex 1 (pc' := 1) (lo' := [some (.inr (.inr (some 0))), some (.inl c)]) (st' := [.inl c]) rfl ?_
  refine r_if_lt (pc0 := 1) (len := 3) (t := 12) rfl (by first | assumption | (unfold R32 at *; omega)) (fun h_1 => ?_) (fun h_1 => ?_)
  · show WV _ _ _ 12 _ _ _ _ _
    refine r_ex 1 (pc' := 13) (lo' := [some (.inr (.inr (some 0))), some (.inl c)]) (st' := [.inl (-1)]) rfl ?_
    refine r_ret (rr := some (.inl (-1))) (I := .ireturn) (pc0 := 13) (len := 1) rfl rfl ?_
    refine ⟨?_, rfl, ?_⟩
    · (first | rfl | (congr 2; (first | (rw [if_pos (by omega)]) | (rw [if_neg (by omega)]))))
    · (first | (rw [if_pos (by omega)]; done) | (rw [if_neg (by omega)]; done))
  · show WV _ _ _ 4 _ _ _ _ _
    refine r_ex 3 (pc' := 9) (lo' := [some (.inr (.inr (some 0))), some (.inl c)]) (st' := [.inl (v 0 1), .inl c]) rfl ?_
    refine r_ic_le (pc0 := 9) (len := 3) (t := 14) rfl (by first | assumption | (unfold R32 at *; omega)) (by first | assumption | (unfold R32 at *; omega)) (fun h_9 => ?_) (fun h_9 => ?_)
    · show WV _ _ _ 14 _ _ _ _ _
      refine r_ex 2 (pc' := 16) (lo' := [some (.inr (.inr (some 0))), some (.inl c)]) (st' := [.inl c, .inr (.inr (some 0))]) rfl ?_
      refine r_puti2 (j := 1) (pc' := 19) (pc0 := 16) (len := 3) rfl (s_0 _) rfl rfl rfl (Or.inl rfl) rfl rfl ?_
      refine r_ex 1 (pc' := 20) (lo' := [some (.inr (.inr (some 0))), some (.inl c)]) (st' := [.inl c]) rfl ?_
      refine r_ret (rr := some (.inl c)) (I := .ireturn) (pc0 := 20) (len := 1) rfl rfl ?_
      refine ⟨?_, rfl, ?_⟩
      · (first | rfl | (congr 2; (first | (rw [if_pos (by omega)]) | (rw [if_neg (by omega)]))))
      · (first | (rw [if_pos (by omega)]; done) | (rw [if_neg (by omega)]; done))
    · show WV _ _ _ 12 _ _ _ _ _
      refine r_ex 1 (pc' := 13) (lo' := [some (.inr (.inr (some 0))), some (.inl c)]) (st' := [.inl (-1)]) rfl ?_
      refine r_ret (rr := some (.inl (-1))) (I := .ireturn) (pc0 := 13) (len := 1) rfl rfl ?_
      refine ⟨?_, rfl, ?_⟩
      · (first | rfl | (congr 2; (first | (rw [if_pos (by omega)]) | (rw [if_neg (by omega)]))))
      · (first | (rw [if_pos (by omega)]; done) | (rw [if_neg (by omega)]; done))

theorem x_bit {X : PX} {d b : Nat} {v : VS} {c k : Int}  : EvV X d 63 [.inl c, .inl k] b v (some (.inl (pm_and (pm_shr c k) 1))) b v := by
  refine EvV.of ?_
  show WV _ _ _ 0 [some (.inl c), some (.inl k)] [] _ _ _
  refine r_ex 5 (pc' := 5) (lo' := [some (.inl c), some (.inl k)]) (st' := [.inl (pm_and (pm_shr c k) 1)]) rfl ?_
  refine r_ret (rr := some (.inl (pm_and (pm_shr c k) 1))) (I := .ireturn) (pc0 := 5) (len := 1) rfl rfl ?_
  exact ⟨rfl, rfl, rfl⟩
