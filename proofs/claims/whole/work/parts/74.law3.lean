/-! the law goes round -/
set_option maxRecDepth 100000 in
theorem law_loop {INV : Nat → VS → Prop} {X : PX} (hS : Steps INV X) (hx : ∀ j, R32 (X.2.1 j)) (hL : X.1 ≤ 3072) : ∀ (f b : Nat) (v : VS) (i : Int), 0 ≤ i → i ≤ 3078 → 3078 < i + f → INV b v → WV X 13 329 18 [some (.inr (.inr (some 100000))), some (.inr (.inr (some 0))), some (.inr (.inr (some 203))), some (.inl i)] [] b v (fun r b1 v1 => r = some (.inl 1)) := by
  intro f
  induction f with
  | zero => intro b v i h0 h1 h2 hI; omega
  | succ f ih =>
    intro b v i h0 h1 h2 hI
    have hK : ∀ b1 v1, i + 6 ≤ X.1 → INV b1 v1 → WV X 13 329 2199 [some (.inr (.inr (some 100000))), some (.inr (.inr (some 0))), some (.inr (.inr (some 203))), some (.inl i)] [] b1 v1 (fun r b1 v1 => r = some (.inl 1)) := by
      intro b1 v1 hi hI1
      refine r_go (I := .iinc 3 6) (pc0 := 2199) (len := 3) (pc' := 2202) (lo' := [some (.inr (.inr (some 100000))), some (.inr (.inr (some 0))), some (.inr (.inr (some 203))), some (.inl (i + 6))]) (st' := []) fl_2199 rfl ?_
      refine r_go (I := .goto 18) (pc0 := 2202) (len := 3) (pc' := 18) (lo' := [some (.inr (.inr (some 100000))), some (.inr (.inr (some 0))), some (.inr (.inr (some 203))), some (.inl (i + 6))]) (st' := []) fl_2202 rfl ?_
      exact ih b1 v1 (i + 6) (by omega) (by omega) (by omega) hI1
    refine r_ex 2 (pc' := 20) (lo' := [some (.inr (.inr (some 100000))), some (.inr (.inr (some 0))), some (.inr (.inr (some 203))), some (.inl i)]) (st' := [.inr (.inr (some 100000)), .inl i]) rfl ?_
    refine n_slen (pc' := 21) (pc0 := 20) (len := 1) rfl rfl ?_
    refine r_ex 2 (pc' := 24) (lo' := [some (.inr (.inr (some 100000))), some (.inr (.inr (some 0))), some (.inr (.inr (some 203))), some (.inl i)]) (st' := [.inl ((X.1 : Int) - 6), .inl i]) rfl ?_
    refine n_ic_gt (pc0 := 24) (len := 3) (t := 2205) rfl ⟨by omega, by omega⟩ ⟨by omega, by omega⟩ (fun h_24 => ?_) (fun h_24 => ?_)
    · show WV _ _ _ 2205 _ _ _ _ _
      refine r_go (I := .iconst 1) (pc0 := 2205) (len := 1) (pc' := 2206) (lo' := [some (.inr (.inr (some 100000))), some (.inr (.inr (some 0))), some (.inr (.inr (some 203))), some (.inl i)]) (st' := [.inl 1]) fl_2205 rfl ?_
      exact r_ret (rr := some (.inl 1)) (I := .ireturn) (pc0 := 2206) (len := 1) fl_2206 rfl rfl
    · show WV _ _ _ 27 _ _ _ _ _
      have hi : i + 6 ≤ X.1 := by omega
      refine r_ex 2 (pc' := 29) (lo' := [some (.inr (.inr (some 100000))), some (.inr (.inr (some 0))), some (.inr (.inr (some 203))), some (.inl i)]) (st' := [.inl i, .inr (.inr (some 100000))]) rfl ?_
      refine n_sld (pc' := 30) (pc0 := 29) (len := 1) rfl ⟨by omega, by omega⟩ (by omega) rfl ?_
      refine r_ex 2 (pc' := 33) (lo' := [some (.inr (.inr (some 100000))), some (.inr (.inr (some 0))), some (.inr (.inr (some 203))), some (.inl i)]) (st' := [.inl (pm_and (X.2.1 i.toNat) 63)]) rfl ?_
      rw [and63]
      by_cases h_0 : X.2.1 i.toNat % 64 = 0
      · refine n_ts (pc' := 300) (pc0 := 33) (len := 267) (x := X.2.1 i.toNat % 64) (y := 0) fl_33 h_0 rfl ?_
        exact law_0 hS hx hL ⟨h0, hi⟩ hI (fun b1 v1 hI1 => hK b1 v1 hi hI1)
      by_cases h_1 : X.2.1 i.toNat % 64 = 1
      · refine n_ts (pc' := 363) (pc0 := 33) (len := 267) (x := X.2.1 i.toNat % 64) (y := 1) fl_33 h_1 rfl ?_
        exact law_1 hS hx hL ⟨h0, hi⟩ hI (fun b1 v1 hI1 => hK b1 v1 hi hI1)
      by_cases h_2 : X.2.1 i.toNat % 64 = 2
      · refine n_ts (pc' := 386) (pc0 := 33) (len := 267) (x := X.2.1 i.toNat % 64) (y := 2) fl_33 h_2 rfl ?_
        exact law_2 hS hx hL ⟨h0, hi⟩ hI (fun b1 v1 hI1 => hK b1 v1 hi hI1)
      by_cases h_3 : X.2.1 i.toNat % 64 = 3
      · refine n_ts (pc' := 399) (pc0 := 33) (len := 267) (x := X.2.1 i.toNat % 64) (y := 3) fl_33 h_3 rfl ?_
        exact law_3 hS hx hL ⟨h0, hi⟩ hI (fun b1 v1 hI1 => hK b1 v1 hi hI1)
      by_cases h_4 : X.2.1 i.toNat % 64 = 4
      · refine n_ts (pc' := 422) (pc0 := 33) (len := 267) (x := X.2.1 i.toNat % 64) (y := 4) fl_33 h_4 rfl ?_
        exact law_4 hS hx hL ⟨h0, hi⟩ hI (fun b1 v1 hI1 => hK b1 v1 hi hI1)
      by_cases h_5 : X.2.1 i.toNat % 64 = 5
      · refine n_ts (pc' := 455) (pc0 := 33) (len := 267) (x := X.2.1 i.toNat % 64) (y := 5) fl_33 h_5 rfl ?_
        exact law_5 hS hx hL ⟨h0, hi⟩ hI (fun b1 v1 hI1 => hK b1 v1 hi hI1)
      by_cases h_6 : X.2.1 i.toNat % 64 = 6
      · refine n_ts (pc' := 488) (pc0 := 33) (len := 267) (x := X.2.1 i.toNat % 64) (y := 6) fl_33 h_6 rfl ?_
        exact law_6 hS hx hL ⟨h0, hi⟩ hI (fun b1 v1 hI1 => hK b1 v1 hi hI1)
      by_cases h_7 : X.2.1 i.toNat % 64 = 7
      · refine n_ts (pc' := 521) (pc0 := 33) (len := 267) (x := X.2.1 i.toNat % 64) (y := 7) fl_33 h_7 rfl ?_
        exact law_7 hS hx hL ⟨h0, hi⟩ hI (fun b1 v1 hI1 => hK b1 v1 hi hI1)
      by_cases h_8 : X.2.1 i.toNat % 64 = 8
      · refine n_ts (pc' := 534) (pc0 := 33) (len := 267) (x := X.2.1 i.toNat % 64) (y := 8) fl_33 h_8 rfl ?_
        exact law_8 hS hx hL ⟨h0, hi⟩ hI (fun b1 v1 hI1 => hK b1 v1 hi hI1)
      by_cases h_9 : X.2.1 i.toNat % 64 = 9
      · refine n_ts (pc' := 567) (pc0 := 33) (len := 267) (x := X.2.1 i.toNat % 64) (y := 9) fl_33 h_9 rfl ?_
        exact law_9 hS hx hL ⟨h0, hi⟩ hI (fun b1 v1 hI1 => hK b1 v1 hi hI1)
      by_cases h_10 : X.2.1 i.toNat % 64 = 10
      · refine n_ts (pc' := 590) (pc0 := 33) (len := 267) (x := X.2.1 i.toNat % 64) (y := 10) fl_33 h_10 rfl ?_
        exact law_10 hS hx hL ⟨h0, hi⟩ hI (fun b1 v1 hI1 => hK b1 v1 hi hI1)
      by_cases h_11 : X.2.1 i.toNat % 64 = 11
      · refine n_ts (pc' := 623) (pc0 := 33) (len := 267) (x := X.2.1 i.toNat % 64) (y := 11) fl_33 h_11 rfl ?_
        exact law_11 hS hx hL ⟨h0, hi⟩ hI (fun b1 v1 hI1 => hK b1 v1 hi hI1)
      by_cases h_12 : X.2.1 i.toNat % 64 = 12
      · refine n_ts (pc' := 646) (pc0 := 33) (len := 267) (x := X.2.1 i.toNat % 64) (y := 12) fl_33 h_12 rfl ?_
        exact law_12 hS hx hL ⟨h0, hi⟩ hI (fun b1 v1 hI1 => hK b1 v1 hi hI1)
      by_cases h_13 : X.2.1 i.toNat % 64 = 13
      · refine n_ts (pc' := 679) (pc0 := 33) (len := 267) (x := X.2.1 i.toNat % 64) (y := 13) fl_33 h_13 rfl ?_
        exact law_13 hS hx hL ⟨h0, hi⟩ hI (fun b1 v1 hI1 => hK b1 v1 hi hI1)
      by_cases h_14 : X.2.1 i.toNat % 64 = 14
      · refine n_ts (pc' := 712) (pc0 := 33) (len := 267) (x := X.2.1 i.toNat % 64) (y := 14) fl_33 h_14 rfl ?_
        exact law_14 hS hx hL ⟨h0, hi⟩ hI (fun b1 v1 hI1 => hK b1 v1 hi hI1)
      by_cases h_15 : X.2.1 i.toNat % 64 = 15
      · refine n_ts (pc' := 735) (pc0 := 33) (len := 267) (x := X.2.1 i.toNat % 64) (y := 15) fl_33 h_15 rfl ?_
        exact law_15 hS hx hL ⟨h0, hi⟩ hI (fun b1 v1 hI1 => hK b1 v1 hi hI1)
      by_cases h_16 : X.2.1 i.toNat % 64 = 16
      · refine n_ts (pc' := 768) (pc0 := 33) (len := 267) (x := X.2.1 i.toNat % 64) (y := 16) fl_33 h_16 rfl ?_
        exact law_16 hS hx hL ⟨h0, hi⟩ hI (fun b1 v1 hI1 => hK b1 v1 hi hI1)
      by_cases h_17 : X.2.1 i.toNat % 64 = 17
      · refine n_ts (pc' := 811) (pc0 := 33) (len := 267) (x := X.2.1 i.toNat % 64) (y := 17) fl_33 h_17 rfl ?_
        exact law_17 hS hx hL ⟨h0, hi⟩ hI (fun b1 v1 hI1 => hK b1 v1 hi hI1)
      by_cases h_18 : X.2.1 i.toNat % 64 = 18
      · refine n_ts (pc' := 824) (pc0 := 33) (len := 267) (x := X.2.1 i.toNat % 64) (y := 18) fl_33 h_18 rfl ?_
        exact law_18 hS hx hL ⟨h0, hi⟩ hI (fun b1 v1 hI1 => hK b1 v1 hi hI1)
      by_cases h_19 : X.2.1 i.toNat % 64 = 19
      · refine n_ts (pc' := 857) (pc0 := 33) (len := 267) (x := X.2.1 i.toNat % 64) (y := 19) fl_33 h_19 rfl ?_
        exact law_19 hS hx hL ⟨h0, hi⟩ hI (fun b1 v1 hI1 => hK b1 v1 hi hI1)
      by_cases h_20 : X.2.1 i.toNat % 64 = 20
      · refine n_ts (pc' := 890) (pc0 := 33) (len := 267) (x := X.2.1 i.toNat % 64) (y := 20) fl_33 h_20 rfl ?_
        exact law_20 hS hx hL ⟨h0, hi⟩ hI (fun b1 v1 hI1 => hK b1 v1 hi hI1)
      by_cases h_21 : X.2.1 i.toNat % 64 = 21
      · refine n_ts (pc' := 923) (pc0 := 33) (len := 267) (x := X.2.1 i.toNat % 64) (y := 21) fl_33 h_21 rfl ?_
        exact law_21 hS hx hL ⟨h0, hi⟩ hI (fun b1 v1 hI1 => hK b1 v1 hi hI1)
      by_cases h_22 : X.2.1 i.toNat % 64 = 22
      · refine n_ts (pc' := 956) (pc0 := 33) (len := 267) (x := X.2.1 i.toNat % 64) (y := 22) fl_33 h_22 rfl ?_
        exact law_22 hS hx hL ⟨h0, hi⟩ hI (fun b1 v1 hI1 => hK b1 v1 hi hI1)
      by_cases h_23 : X.2.1 i.toNat % 64 = 23
      · refine n_ts (pc' := 979) (pc0 := 33) (len := 267) (x := X.2.1 i.toNat % 64) (y := 23) fl_33 h_23 rfl ?_
        exact law_23 hS hx hL ⟨h0, hi⟩ hI (fun b1 v1 hI1 => hK b1 v1 hi hI1)
      by_cases h_24 : X.2.1 i.toNat % 64 = 24
      · refine n_ts (pc' := 1002) (pc0 := 33) (len := 267) (x := X.2.1 i.toNat % 64) (y := 24) fl_33 h_24 rfl ?_
        exact law_24 hS hx hL ⟨h0, hi⟩ hI (fun b1 v1 hI1 => hK b1 v1 hi hI1)
      by_cases h_25 : X.2.1 i.toNat % 64 = 25
      · refine n_ts (pc' := 1045) (pc0 := 33) (len := 267) (x := X.2.1 i.toNat % 64) (y := 25) fl_33 h_25 rfl ?_
        exact law_25 hS hx hL ⟨h0, hi⟩ hI (fun b1 v1 hI1 => hK b1 v1 hi hI1)
      by_cases h_26 : X.2.1 i.toNat % 64 = 26
      · refine n_ts (pc' := 1078) (pc0 := 33) (len := 267) (x := X.2.1 i.toNat % 64) (y := 26) fl_33 h_26 rfl ?_
        exact law_26 hS hx hL ⟨h0, hi⟩ hI (fun b1 v1 hI1 => hK b1 v1 hi hI1)
      by_cases h_27 : X.2.1 i.toNat % 64 = 27
      · refine n_ts (pc' := 1101) (pc0 := 33) (len := 267) (x := X.2.1 i.toNat % 64) (y := 27) fl_33 h_27 rfl ?_
        exact law_27 hS hx hL ⟨h0, hi⟩ hI (fun b1 v1 hI1 => hK b1 v1 hi hI1)
      by_cases h_28 : X.2.1 i.toNat % 64 = 28
      · refine n_ts (pc' := 1134) (pc0 := 33) (len := 267) (x := X.2.1 i.toNat % 64) (y := 28) fl_33 h_28 rfl ?_
        exact law_28 hS hx hL ⟨h0, hi⟩ hI (fun b1 v1 hI1 => hK b1 v1 hi hI1)
      by_cases h_29 : X.2.1 i.toNat % 64 = 29
      · refine n_ts (pc' := 1157) (pc0 := 33) (len := 267) (x := X.2.1 i.toNat % 64) (y := 29) fl_33 h_29 rfl ?_
        exact law_29 hS hx hL ⟨h0, hi⟩ hI (fun b1 v1 hI1 => hK b1 v1 hi hI1)
      by_cases h_30 : X.2.1 i.toNat % 64 = 30
      · refine n_ts (pc' := 1180) (pc0 := 33) (len := 267) (x := X.2.1 i.toNat % 64) (y := 30) fl_33 h_30 rfl ?_
        exact law_30 hS hx hL ⟨h0, hi⟩ hI (fun b1 v1 hI1 => hK b1 v1 hi hI1)
      by_cases h_31 : X.2.1 i.toNat % 64 = 31
      · refine n_ts (pc' := 1203) (pc0 := 33) (len := 267) (x := X.2.1 i.toNat % 64) (y := 31) fl_33 h_31 rfl ?_
        exact law_31 hS hx hL ⟨h0, hi⟩ hI (fun b1 v1 hI1 => hK b1 v1 hi hI1)
      by_cases h_32 : X.2.1 i.toNat % 64 = 32
      · refine n_ts (pc' := 1226) (pc0 := 33) (len := 267) (x := X.2.1 i.toNat % 64) (y := 32) fl_33 h_32 rfl ?_
        exact law_32 hS hx hL ⟨h0, hi⟩ hI (fun b1 v1 hI1 => hK b1 v1 hi hI1)
      by_cases h_33 : X.2.1 i.toNat % 64 = 33
      · refine n_ts (pc' := 1249) (pc0 := 33) (len := 267) (x := X.2.1 i.toNat % 64) (y := 33) fl_33 h_33 rfl ?_
        exact law_33 hS hx hL ⟨h0, hi⟩ hI (fun b1 v1 hI1 => hK b1 v1 hi hI1)
      by_cases h_34 : X.2.1 i.toNat % 64 = 34
      · refine n_ts (pc' := 1282) (pc0 := 33) (len := 267) (x := X.2.1 i.toNat % 64) (y := 34) fl_33 h_34 rfl ?_
        exact law_34 hS hx hL ⟨h0, hi⟩ hI (fun b1 v1 hI1 => hK b1 v1 hi hI1)
      by_cases h_35 : X.2.1 i.toNat % 64 = 35
      · refine n_ts (pc' := 1305) (pc0 := 33) (len := 267) (x := X.2.1 i.toNat % 64) (y := 35) fl_33 h_35 rfl ?_
        exact law_35 hS hx hL ⟨h0, hi⟩ hI (fun b1 v1 hI1 => hK b1 v1 hi hI1)
      by_cases h_36 : X.2.1 i.toNat % 64 = 36
      · refine n_ts (pc' := 1328) (pc0 := 33) (len := 267) (x := X.2.1 i.toNat % 64) (y := 36) fl_33 h_36 rfl ?_
        exact law_36 hS hx hL ⟨h0, hi⟩ hI (fun b1 v1 hI1 => hK b1 v1 hi hI1)
      by_cases h_37 : X.2.1 i.toNat % 64 = 37
      · refine n_ts (pc' := 1351) (pc0 := 33) (len := 267) (x := X.2.1 i.toNat % 64) (y := 37) fl_33 h_37 rfl ?_
        exact law_37 hS hx hL ⟨h0, hi⟩ hI (fun b1 v1 hI1 => hK b1 v1 hi hI1)
      by_cases h_38 : X.2.1 i.toNat % 64 = 38
      · refine n_ts (pc' := 1364) (pc0 := 33) (len := 267) (x := X.2.1 i.toNat % 64) (y := 38) fl_33 h_38 rfl ?_
        exact law_38 hS hx hL ⟨h0, hi⟩ hI (fun b1 v1 hI1 => hK b1 v1 hi hI1)
      by_cases h_39 : X.2.1 i.toNat % 64 = 39
      · refine n_ts (pc' := 1387) (pc0 := 33) (len := 267) (x := X.2.1 i.toNat % 64) (y := 39) fl_33 h_39 rfl ?_
        exact law_39 hS hx hL ⟨h0, hi⟩ hI (fun b1 v1 hI1 => hK b1 v1 hi hI1)
      by_cases h_40 : X.2.1 i.toNat % 64 = 40
      · refine n_ts (pc' := 1410) (pc0 := 33) (len := 267) (x := X.2.1 i.toNat % 64) (y := 40) fl_33 h_40 rfl ?_
        exact law_40 hS hx hL ⟨h0, hi⟩ hI (fun b1 v1 hI1 => hK b1 v1 hi hI1)
      by_cases h_41 : X.2.1 i.toNat % 64 = 41
      · refine n_ts (pc' := 1433) (pc0 := 33) (len := 267) (x := X.2.1 i.toNat % 64) (y := 41) fl_33 h_41 rfl ?_
        exact law_41 hS hx hL ⟨h0, hi⟩ hI (fun b1 v1 hI1 => hK b1 v1 hi hI1)
      by_cases h_42 : X.2.1 i.toNat % 64 = 42
      · refine n_ts (pc' := 1456) (pc0 := 33) (len := 267) (x := X.2.1 i.toNat % 64) (y := 42) fl_33 h_42 rfl ?_
        exact law_42 hS hx hL ⟨h0, hi⟩ hI (fun b1 v1 hI1 => hK b1 v1 hi hI1)
      by_cases h_43 : X.2.1 i.toNat % 64 = 43
      · refine n_ts (pc' := 1469) (pc0 := 33) (len := 267) (x := X.2.1 i.toNat % 64) (y := 43) fl_33 h_43 rfl ?_
        exact law_43 hS hx hL ⟨h0, hi⟩ hI (fun b1 v1 hI1 => hK b1 v1 hi hI1)
      by_cases h_44 : X.2.1 i.toNat % 64 = 44
      · refine n_ts (pc' := 1482) (pc0 := 33) (len := 267) (x := X.2.1 i.toNat % 64) (y := 44) fl_33 h_44 rfl ?_
        exact law_44 hS hx hL ⟨h0, hi⟩ hI (fun b1 v1 hI1 => hK b1 v1 hi hI1)
      by_cases h_45 : X.2.1 i.toNat % 64 = 45
      · refine n_ts (pc' := 1525) (pc0 := 33) (len := 267) (x := X.2.1 i.toNat % 64) (y := 45) fl_33 h_45 rfl ?_
        exact law_45 hS hx hL ⟨h0, hi⟩ hI (fun b1 v1 hI1 => hK b1 v1 hi hI1)
      by_cases h_46 : X.2.1 i.toNat % 64 = 46
      · refine n_ts (pc' := 1548) (pc0 := 33) (len := 267) (x := X.2.1 i.toNat % 64) (y := 46) fl_33 h_46 rfl ?_
        exact law_46 hS hx hL ⟨h0, hi⟩ hI (fun b1 v1 hI1 => hK b1 v1 hi hI1)
      by_cases h_47 : X.2.1 i.toNat % 64 = 47
      · refine n_ts (pc' := 1581) (pc0 := 33) (len := 267) (x := X.2.1 i.toNat % 64) (y := 47) fl_33 h_47 rfl ?_
        exact law_47 hS hx hL ⟨h0, hi⟩ hI (fun b1 v1 hI1 => hK b1 v1 hi hI1)
      by_cases h_48 : X.2.1 i.toNat % 64 = 48
      · refine n_ts (pc' := 1614) (pc0 := 33) (len := 267) (x := X.2.1 i.toNat % 64) (y := 48) fl_33 h_48 rfl ?_
        exact law_48 hS hx hL ⟨h0, hi⟩ hI (fun b1 v1 hI1 => hK b1 v1 hi hI1)
      by_cases h_49 : X.2.1 i.toNat % 64 = 49
      · refine n_ts (pc' := 1637) (pc0 := 33) (len := 267) (x := X.2.1 i.toNat % 64) (y := 49) fl_33 h_49 rfl ?_
        exact law_49 hS hx hL ⟨h0, hi⟩ hI (fun b1 v1 hI1 => hK b1 v1 hi hI1)
      by_cases h_50 : X.2.1 i.toNat % 64 = 50
      · refine n_ts (pc' := 1660) (pc0 := 33) (len := 267) (x := X.2.1 i.toNat % 64) (y := 50) fl_33 h_50 rfl ?_
        exact law_50 hS hx hL ⟨h0, hi⟩ hI (fun b1 v1 hI1 => hK b1 v1 hi hI1)
      by_cases h_51 : X.2.1 i.toNat % 64 = 51
      · refine n_ts (pc' := 1703) (pc0 := 33) (len := 267) (x := X.2.1 i.toNat % 64) (y := 51) fl_33 h_51 rfl ?_
        exact law_51 hS hx hL ⟨h0, hi⟩ hI (fun b1 v1 hI1 => hK b1 v1 hi hI1)
      by_cases h_52 : X.2.1 i.toNat % 64 = 52
      · refine n_ts (pc' := 1756) (pc0 := 33) (len := 267) (x := X.2.1 i.toNat % 64) (y := 52) fl_33 h_52 rfl ?_
        exact law_52 hS hx hL ⟨h0, hi⟩ hI (fun b1 v1 hI1 => hK b1 v1 hi hI1)
      by_cases h_53 : X.2.1 i.toNat % 64 = 53
      · refine n_ts (pc' := 1799) (pc0 := 33) (len := 267) (x := X.2.1 i.toNat % 64) (y := 53) fl_33 h_53 rfl ?_
        exact law_53 hS hx hL ⟨h0, hi⟩ hI (fun b1 v1 hI1 => hK b1 v1 hi hI1)
      by_cases h_54 : X.2.1 i.toNat % 64 = 54
      · refine n_ts (pc' := 1822) (pc0 := 33) (len := 267) (x := X.2.1 i.toNat % 64) (y := 54) fl_33 h_54 rfl ?_
        exact law_54 hS hx hL ⟨h0, hi⟩ hI (fun b1 v1 hI1 => hK b1 v1 hi hI1)
      by_cases h_55 : X.2.1 i.toNat % 64 = 55
      · refine n_ts (pc' := 1865) (pc0 := 33) (len := 267) (x := X.2.1 i.toNat % 64) (y := 55) fl_33 h_55 rfl ?_
        exact law_55 hS hx hL ⟨h0, hi⟩ hI (fun b1 v1 hI1 => hK b1 v1 hi hI1)
      by_cases h_56 : X.2.1 i.toNat % 64 = 56
      · refine n_ts (pc' := 1928) (pc0 := 33) (len := 267) (x := X.2.1 i.toNat % 64) (y := 56) fl_33 h_56 rfl ?_
        exact law_56 hS hx hL ⟨h0, hi⟩ hI (fun b1 v1 hI1 => hK b1 v1 hi hI1)
      by_cases h_57 : X.2.1 i.toNat % 64 = 57
      · refine n_ts (pc' := 1951) (pc0 := 33) (len := 267) (x := X.2.1 i.toNat % 64) (y := 57) fl_33 h_57 rfl ?_
        exact law_57 hS hx hL ⟨h0, hi⟩ hI (fun b1 v1 hI1 => hK b1 v1 hi hI1)
      by_cases h_58 : X.2.1 i.toNat % 64 = 58
      · refine n_ts (pc' := 1974) (pc0 := 33) (len := 267) (x := X.2.1 i.toNat % 64) (y := 58) fl_33 h_58 rfl ?_
        exact law_58 hS hx hL ⟨h0, hi⟩ hI (fun b1 v1 hI1 => hK b1 v1 hi hI1)
      by_cases h_59 : X.2.1 i.toNat % 64 = 59
      · refine n_ts (pc' := 1997) (pc0 := 33) (len := 267) (x := X.2.1 i.toNat % 64) (y := 59) fl_33 h_59 rfl ?_
        exact law_59 hS hx hL ⟨h0, hi⟩ hI (fun b1 v1 hI1 => hK b1 v1 hi hI1)
      by_cases h_60 : X.2.1 i.toNat % 64 = 60
      · refine n_ts (pc' := 2020) (pc0 := 33) (len := 267) (x := X.2.1 i.toNat % 64) (y := 60) fl_33 h_60 rfl ?_
        exact law_60 hS hx hL ⟨h0, hi⟩ hI (fun b1 v1 hI1 => hK b1 v1 hi hI1)
      by_cases h_61 : X.2.1 i.toNat % 64 = 61
      · refine n_ts (pc' := 2063) (pc0 := 33) (len := 267) (x := X.2.1 i.toNat % 64) (y := 61) fl_33 h_61 rfl ?_
        exact law_61 hS hx hL ⟨h0, hi⟩ hI (fun b1 v1 hI1 => hK b1 v1 hi hI1)
      by_cases h_62 : X.2.1 i.toNat % 64 = 62
      · refine n_ts (pc' := 2136) (pc0 := 33) (len := 267) (x := X.2.1 i.toNat % 64) (y := 62) fl_33 h_62 rfl ?_
        exact law_62 hS hx hL ⟨h0, hi⟩ hI (fun b1 v1 hI1 => hK b1 v1 hi hI1)
      refine n_ts_d (pc' := 2199) (pc0 := 33) (len := 267) (x := X.2.1 i.toNat % 64) fl_33 ⟨by omega, by omega⟩ ⟨by omega, rfl⟩ ?_
      exact hK b v hi hI
