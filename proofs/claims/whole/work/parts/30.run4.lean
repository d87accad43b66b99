/-! ringing, hearing, carrying, going out -/
def xring (R : Nat) (v : VS) (s c : Int) : VS :=
  v2 (v2 (v2 (v2 (v2 (v2 (v2 (v2 (v2 (v2 (v2 v (R + 1) (v R 4).toNat s) (R + 2) (v R 4).toNat c) (R + 3) (v R 4).toNat (v 75 (s * 9 + c).toNat)) (R + 4) (v R 4).toNat (v 76 (s * 9 + c).toNat)) (R + 5) (v R 4).toNat (v 77 (s * 9 + c).toNat)) (R + 10) c.toNat s) (R + 11) c.toNat (v 75 (s * 9 + c).toNat)) R 16 (setb (v R 16) c)) R 4 (v R 4 + 1))
    R 18 (if c = v 67 7 ∨ v 67 8 ≤ s ∨ v 67 9 < v R 4 + 1 then 1 else 0)) R 17 (if (c = v 67 7 ∨ v 67 8 ≤ s ∨ v 67 9 < v R 4 + 1) ∨ 300 ≤ v R 4 + 1 then 1 else 0)
def xmore (v : VS) (t l : Int) : Int := if v 67 4 = 2 then 0 else bt (v 66 t.toNat) l
def xdue (v : VS) (t l : Int) : Int := t + (if v 67 4 = 6 then 0 else v 35 l.toNat)
def xhear (R : Nat) (v : VS) (i e t l : Int) : VS :=
  if 99 < v (R + 3) i.toNat + xmore v t l then v2 v (R + 6) 6 (v (R + 6) 6 + 1)
  else if v 33 1 ≤ xdue v t l then v2 v (R + 6) 5 (v (R + 6) 5 + 1)
  else xput (v2 v (R + 8) e.toNat (v (R + 8) e.toNat + 1)) (xdue v t l) l (v (R + 3) i.toNat + xmore v t l) i e
theorem XI_put {v : VS} {s c h y e : Int} (hX : XI v) (hs : 0 ≤ s ∧ s < 300) (hc : 0 ≤ c ∧ c < 9) (hh : 0 ≤ h ∧ h ≤ 99) (hy : -1 ≤ y ∧ y ≤ 299) (he : -1 ≤ e ∧ e ≤ 11) : XI (xput v s c h y e) := by
  have h1 : 0 ≤ v 73 5 ∧ v 73 5 ≤ 300 := hX 73 5
  have h2 : -1 ≤ v 73 6 ∧ v 73 6 ≤ 299 := hX 73 6
  have h3 : 0 ≤ v 74 s.toNat ∧ v 74 s.toNat ≤ 511 := hX 74 s.toNat
  have hX1 : XI (v2 v 73 5 (min (v 73 5) s)) := XI.put hX (show 0 ≤ min (v 73 5) s ∧ min (v 73 5) s ≤ 300 by omega)
  have hX2 : XI (v2 (v2 v 73 5 (min (v 73 5) s)) 73 6 (max (v 73 6) s)) := XI.put hX1 (show -1 ≤ max (v 73 6) s ∧ max (v 73 6) s ≤ 299 by omega)
  unfold xput
  split
  · have hb := setb_in (x := v 74 s.toNat) (c := c) (k := 9) (by omega) (by omega)
    refine XI.put (XI.put (XI.put (XI.put (XI.put hX2 ?_) ?_) ?_) ?_) ?_
    · exact (show 0 ≤ setb (v 74 s.toNat) c ∧ setb (v 74 s.toNat) c ≤ 511 by omega)
    · exact trivial
    · exact hh
    · exact hy
    · exact he
  · split
    · refine XI.put (XI.put (XI.put (XI.put hX2 ?_) ?_) ?_) ?_
      · exact trivial
      · exact hh
      · exact hy
      · exact he
    · refine XI.put hX2 ?_
      exact trivial
theorem x_ring79 {X : PX} {d b : Nat} {v : VS} {s c : Int} (hX : XI v) (hs : 0 ≤ s ∧ s < 300) (hc : 0 ≤ c ∧ c < 9) (ht : v 79 4 < 300) : EvV X d 80 [.inr (.inr (some 79)), .inl s, .inl c] b v (none) b (xring 79 v s c) := by
  refine EvV.of ?_
  show WV _ _ _ 0 [some (.inr (.inr (some 79))), some (.inl s), some (.inl c), none] [] _ _ _
  refine r_ex 11 (pc' := 16) (lo' := [some (.inr (.inr (some 79))), some (.inl s), some (.inl c), some (.inl ((s * 9) + c))]) (st' := [.inl s, .inl (v 79 4), .inr (.inr (some 80))]) rfl ?_
  have hb_1 : 0 ≤ (v 79 4) ∧ (v 79 4) ≤ 300 := hX 79 4
  refine r_iast2 (pc' := 17) (pc0 := 16) (len := 1) rfl (s_80 _) (by first | assumption | (unfold R32 at *; omega) | omega) (by decide) rfl ?_
  have hX_2 : XI (v2 v 80 (((v 79 4)).toNat) s) := XI.put hX (show 0 ≤ s ∧ s ≤ 299 from (by first | assumption | (unfold R32 at *; omega) | omega))
  refine r_ex 5 (pc' := 26) (lo' := [some (.inr (.inr (some 79))), some (.inl s), some (.inl c), some (.inl ((s * 9) + c))]) (st' := [.inl c, .inl (v 79 4), .inr (.inr (some 81))]) rfl ?_
  have hb_3 : 0 ≤ (v 79 4) ∧ (v 79 4) ≤ 300 := hX_2 79 4
  refine r_iast2 (pc' := 27) (pc0 := 26) (len := 1) rfl (s_81 _) (by first | assumption | (unfold R32 at *; omega) | omega) (by decide) rfl ?_
  have hX_4 : XI (v2 (v2 v 80 (((v 79 4)).toNat) s) 81 (((v 79 4)).toNat) c) := XI.put hX_2 (show 0 ≤ c ∧ c ≤ 8 from (by first | assumption | (unfold R32 at *; omega) | omega))
  refine r_ex 8 (pc' := 43) (lo' := [some (.inr (.inr (some 79))), some (.inl s), some (.inl c), some (.inl ((s * 9) + c))]) (st' := [.inl ((s * 9) + c), .inr (.inr (some 75)), .inl (v 79 4), .inr (.inr (some 82))]) rfl ?_
  have hb_5 : 0 ≤ (v 79 4) ∧ (v 79 4) ≤ 300 := hX_4 79 4
  refine r_iald2 (j := 0) (x := (v 75 ((((s * 9) + c)).toNat))) (pc' := 44) (pc0 := 43) (len := 1) rfl (s_75 _) (by first | assumption | (unfold R32 at *; omega) | omega) (by decide) rfl rfl ?_
  have hb_6 : 0 ≤ (v 75 ((((s * 9) + c)).toNat)) ∧ (v 75 ((((s * 9) + c)).toNat)) ≤ 99 := hX_4 75 ((((s * 9) + c)).toNat)
  refine r_iast2 (pc' := 45) (pc0 := 44) (len := 1) rfl (s_82 _) (by first | assumption | (unfold R32 at *; omega) | omega) (by decide) rfl ?_
  have hX_7 : XI (v2 (v2 (v2 v 80 (((v 79 4)).toNat) s) 81 (((v 79 4)).toNat) c) 82 (((v 79 4)).toNat) (v 75 ((((s * 9) + c)).toNat))) := XI.put hX_4 (show 0 ≤ (v 75 ((((s * 9) + c)).toNat)) ∧ (v 75 ((((s * 9) + c)).toNat)) ≤ 99 from (by first | assumption | (unfold R32 at *; omega) | omega))
  refine r_ex 8 (pc' := 61) (lo' := [some (.inr (.inr (some 79))), some (.inl s), some (.inl c), some (.inl ((s * 9) + c))]) (st' := [.inl ((s * 9) + c), .inr (.inr (some 76)), .inl (v 79 4), .inr (.inr (some 83))]) rfl ?_
  have hb_8 : 0 ≤ (v 79 4) ∧ (v 79 4) ≤ 300 := hX_7 79 4
  refine r_iald2 (j := 0) (x := (v 76 ((((s * 9) + c)).toNat))) (pc' := 62) (pc0 := 61) (len := 1) rfl (s_76 _) (by first | assumption | (unfold R32 at *; omega) | omega) (by decide) rfl rfl ?_
  have hb_9 : -1 ≤ (v 76 ((((s * 9) + c)).toNat)) ∧ (v 76 ((((s * 9) + c)).toNat)) ≤ 299 := hX_7 76 ((((s * 9) + c)).toNat)
  refine r_iast2 (pc' := 63) (pc0 := 62) (len := 1) rfl (s_83 _) (by first | assumption | (unfold R32 at *; omega) | omega) (by decide) rfl ?_
  have hX_10 : XI (v2 (v2 (v2 (v2 v 80 (((v 79 4)).toNat) s) 81 (((v 79 4)).toNat) c) 82 (((v 79 4)).toNat) (v 75 ((((s * 9) + c)).toNat))) 83 (((v 79 4)).toNat) (v 76 ((((s * 9) + c)).toNat))) := XI.put hX_7 (show -1 ≤ (v 76 ((((s * 9) + c)).toNat)) ∧ (v 76 ((((s * 9) + c)).toNat)) ≤ 299 from (by first | assumption | (unfold R32 at *; omega) | omega))
  refine r_ex 8 (pc' := 79) (lo' := [some (.inr (.inr (some 79))), some (.inl s), some (.inl c), some (.inl ((s * 9) + c))]) (st' := [.inl ((s * 9) + c), .inr (.inr (some 77)), .inl (v 79 4), .inr (.inr (some 84))]) rfl ?_
  have hb_11 : 0 ≤ (v 79 4) ∧ (v 79 4) ≤ 300 := hX_10 79 4
  refine r_iald2 (j := 0) (x := (v 77 ((((s * 9) + c)).toNat))) (pc' := 80) (pc0 := 79) (len := 1) rfl (s_77 _) (by first | assumption | (unfold R32 at *; omega) | omega) (by decide) rfl rfl ?_
  have hb_12 : -1 ≤ (v 77 ((((s * 9) + c)).toNat)) ∧ (v 77 ((((s * 9) + c)).toNat)) ≤ 11 := hX_10 77 ((((s * 9) + c)).toNat)
  refine r_iast2 (pc' := 81) (pc0 := 80) (len := 1) rfl (s_84 _) (by first | assumption | (unfold R32 at *; omega) | omega) (by decide) rfl ?_
  have hX_13 : XI (v2 (v2 (v2 (v2 (v2 v 80 (((v 79 4)).toNat) s) 81 (((v 79 4)).toNat) c) 82 (((v 79 4)).toNat) (v 75 ((((s * 9) + c)).toNat))) 83 (((v 79 4)).toNat) (v 76 ((((s * 9) + c)).toNat))) 84 (((v 79 4)).toNat) (v 77 ((((s * 9) + c)).toNat))) := XI.put hX_10 (show -1 ≤ (v 77 ((((s * 9) + c)).toNat)) ∧ (v 77 ((((s * 9) + c)).toNat)) ≤ 11 from (by first | assumption | (unfold R32 at *; omega) | omega))
  refine r_ex 4 (pc' := 87) (lo' := [some (.inr (.inr (some 79))), some (.inl s), some (.inl c), some (.inl ((s * 9) + c))]) (st' := [.inl s, .inl c, .inr (.inr (some 89))]) rfl ?_
  refine r_iast2 (pc' := 88) (pc0 := 87) (len := 1) rfl (s_89 _) (by first | assumption | (unfold R32 at *; omega) | omega) (by decide) rfl ?_
  have hX_14 : XI (v2 (v2 (v2 (v2 (v2 (v2 v 80 (((v 79 4)).toNat) s) 81 (((v 79 4)).toNat) c) 82 (((v 79 4)).toNat) (v 75 ((((s * 9) + c)).toNat))) 83 (((v 79 4)).toNat) (v 76 ((((s * 9) + c)).toNat))) 84 (((v 79 4)).toNat) (v 77 ((((s * 9) + c)).toNat))) 89 ((c).toNat) s) := XI.put hX_13 (show 0 ≤ s ∧ s ≤ 299 from (by first | assumption | (unfold R32 at *; omega) | omega))
  refine r_ex 7 (pc' := 101) (lo' := [some (.inr (.inr (some 79))), some (.inl s), some (.inl c), some (.inl ((s * 9) + c))]) (st' := [.inl (v 79 4), .inr (.inr (some 82)), .inl c, .inr (.inr (some 90))]) rfl ?_
  have hb_15 : 0 ≤ (v 79 4) ∧ (v 79 4) ≤ 300 := hX_14 79 4
  refine r_iald2 (j := 0) (x := (v 75 ((((s * 9) + c)).toNat))) (pc' := 102) (pc0 := 101) (len := 1) rfl (s_82 _) (by first | assumption | (unfold R32 at *; omega) | omega) (by decide) (by simp [v2_eq]) rfl ?_
  refine r_iast2 (pc' := 103) (pc0 := 102) (len := 1) rfl (s_90 _) (by first | assumption | (unfold R32 at *; omega) | omega) (by decide) rfl ?_
  have hX_16 : XI (v2 (v2 (v2 (v2 (v2 (v2 (v2 v 80 (((v 79 4)).toNat) s) 81 (((v 79 4)).toNat) c) 82 (((v 79 4)).toNat) (v 75 ((((s * 9) + c)).toNat))) 83 (((v 79 4)).toNat) (v 76 ((((s * 9) + c)).toNat))) 84 (((v 79 4)).toNat) (v 77 ((((s * 9) + c)).toNat))) 89 ((c).toNat) s) 90 ((c).toNat) (v 75 ((((s * 9) + c)).toNat))) := XI.put hX_14 (show 0 ≤ (v 75 ((((s * 9) + c)).toNat)) ∧ (v 75 ((((s * 9) + c)).toNat)) ≤ 99 from (by first | assumption | (unfold R32 at *; omega) | omega))
  refine r_ex 7 (pc' := 112) (lo' := [some (.inr (.inr (some 79))), some (.inl s), some (.inl c), some (.inl ((s * 9) + c))]) (st' := [.inl (pm_or (v 79 16) (pm_shl 1 c)), .inr (.inr (some 79))]) rfl ?_
  have hb_17 : 0 ≤ (v 79 16) ∧ (v 79 16) ≤ 511 := hX_16 79 16
  rw [or_eq (x := (v 79 16)) (c := c) (by omega) (by omega)]
  refine r_puti2 (j := 16) (pc' := 115) (pc0 := 112) (len := 3) rfl (s_79 _) rfl rfl rfl (Or.inl rfl) rfl rfl ?_
  have hX_18 : XI (v2 (v2 (v2 (v2 (v2 (v2 (v2 (v2 v 80 (((v 79 4)).toNat) s) 81 (((v 79 4)).toNat) c) 82 (((v 79 4)).toNat) (v 75 ((((s * 9) + c)).toNat))) 83 (((v 79 4)).toNat) (v 76 ((((s * 9) + c)).toNat))) 84 (((v 79 4)).toNat) (v 77 ((((s * 9) + c)).toNat))) 89 ((c).toNat) s) 90 ((c).toNat) (v 75 ((((s * 9) + c)).toNat))) 79 16 (setb (v 79 16) c)) := XI.put hX_16 (show 0 ≤ (setb (v 79 16) c) ∧ (setb (v 79 16) c) ≤ 511 from (by have := setb_in (x := v 79 16) (c := c) (k := 9) (by omega) (by omega); omega))
  refine r_ex 5 (pc' := 122) (lo' := [some (.inr (.inr (some 79))), some (.inl s), some (.inl c), some (.inl ((s * 9) + c))]) (st' := [.inl ((v 79 4) + 1), .inr (.inr (some 79))]) rfl ?_
  have hb_19 : 0 ≤ (v 79 4) ∧ (v 79 4) ≤ 300 := hX_18 79 4
  refine r_puti2 (j := 4) (pc' := 125) (pc0 := 122) (len := 3) rfl (s_79 _) rfl rfl rfl (Or.inl rfl) rfl rfl ?_
  have hX_20 : XI (v2 (v2 (v2 (v2 (v2 (v2 (v2 (v2 (v2 v 80 (((v 79 4)).toNat) s) 81 (((v 79 4)).toNat) c) 82 (((v 79 4)).toNat) (v 75 ((((s * 9) + c)).toNat))) 83 (((v 79 4)).toNat) (v 76 ((((s * 9) + c)).toNat))) 84 (((v 79 4)).toNat) (v 77 ((((s * 9) + c)).toNat))) 89 ((c).toNat) s) 90 ((c).toNat) (v 75 ((((s * 9) + c)).toNat))) 79 16 (setb (v 79 16) c)) 79 4 ((v 79 4) + 1)) := XI.put hX_18 (show 0 ≤ ((v 79 4) + 1) ∧ ((v 79 4) + 1) ≤ 300 from (by first | assumption | (unfold R32 at *; omega) | omega))
  refine r_ex 5 (pc' := 134) (lo' := [some (.inr (.inr (some 79))), some (.inl s), some (.inl c), some (.inl ((s * 9) + c))]) (st' := [.inl (v 67 7), .inl c, .inr (.inr (some 79))]) rfl ?_
  have hb_21 : -1 ≤ (v 67 7) ∧ (v 67 7) ≤ 8 := hX_20 67 7
  refine r_ic_eq (pc0 := 134) (len := 3) (t := 162) rfl (by first | assumption | (unfold R32 at *; omega) | omega) (by first | assumption | (unfold R32 at *; omega) | omega) (fun h_134 => ?_) (fun h_134 => ?_)
  · show WV _ _ _ 162 _ _ _ _ _
    refine r_ex 2 (pc' := 167) (lo' := [some (.inr (.inr (some 79))), some (.inl s), some (.inl c), some (.inl ((s * 9) + c))]) (st' := [.inl 1, .inr (.inr (some 79))]) rfl ?_
    refine r_puti2 (j := 18) (pc' := 170) (pc0 := 167) (len := 3) rfl (s_79 _) rfl rfl rfl (Or.inr rfl) rfl rfl ?_
    have hX_22 : XI (v2 (v2 (v2 (v2 (v2 (v2 (v2 (v2 (v2 (v2 v 80 (((v 79 4)).toNat) s) 81 (((v 79 4)).toNat) c) 82 (((v 79 4)).toNat) (v 75 ((((s * 9) + c)).toNat))) 83 (((v 79 4)).toNat) (v 76 ((((s * 9) + c)).toNat))) 84 (((v 79 4)).toNat) (v 77 ((((s * 9) + c)).toNat))) 89 ((c).toNat) s) 90 ((c).toNat) (v 75 ((((s * 9) + c)).toNat))) 79 16 (setb (v 79 16) c)) 79 4 ((v 79 4) + 1)) 79 18 1) := XI.put hX_20 (show 0 ≤ 1 ∧ 1 ≤ 1 from (by first | assumption | (unfold R32 at *; omega) | omega))
    refine r_ex 6 (pc' := 193) (lo' := [some (.inr (.inr (some 79))), some (.inl s), some (.inl c), some (.inl ((s * 9) + c))]) (st' := [.inl 1, .inr (.inr (some 79))]) rfl ?_
    refine r_puti2 (j := 17) (pc' := 196) (pc0 := 193) (len := 3) rfl (s_79 _) rfl rfl rfl (Or.inr rfl) rfl rfl ?_
    have hX_23 : XI (v2 (v2 (v2 (v2 (v2 (v2 (v2 (v2 (v2 (v2 (v2 v 80 (((v 79 4)).toNat) s) 81 (((v 79 4)).toNat) c) 82 (((v 79 4)).toNat) (v 75 ((((s * 9) + c)).toNat))) 83 (((v 79 4)).toNat) (v 76 ((((s * 9) + c)).toNat))) 84 (((v 79 4)).toNat) (v 77 ((((s * 9) + c)).toNat))) 89 ((c).toNat) s) 90 ((c).toNat) (v 75 ((((s * 9) + c)).toNat))) 79 16 (setb (v 79 16) c)) 79 4 ((v 79 4) + 1)) 79 18 1) 79 17 1) := XI.put hX_22 (show 0 ≤ 1 ∧ 1 ≤ 1 from (by first | assumption | (unfold R32 at *; omega) | omega))
    refine r_ret (rr := none) (I := .return_) (pc0 := 196) (len := 1) rfl rfl ?_
    refine ⟨rfl, rfl, ?_⟩
    simp only [xring, Nat.reduceAdd]
    (first | (rw [if_pos (by omega), if_pos (by omega)]; done) | (rw [if_neg (by omega), if_pos (by omega)]; done) | (rw [if_neg (by omega), if_neg (by omega)]; done))
  · show WV _ _ _ 137 _ _ _ _ _
    refine r_ex 4 (pc' := 145) (lo' := [some (.inr (.inr (some 79))), some (.inl s), some (.inl c), some (.inl ((s * 9) + c))]) (st' := [.inl (v 67 8), .inl s, .inr (.inr (some 79))]) rfl ?_
    have hb_24 : 0 ≤ (v 67 8) ∧ (v 67 8) ≤ 300 := hX_20 67 8
    refine r_ic_ge (pc0 := 145) (len := 3) (t := 162) rfl (by first | assumption | (unfold R32 at *; omega) | omega) (by first | assumption | (unfold R32 at *; omega) | omega) (fun h_145 => ?_) (fun h_145 => ?_)
    · show WV _ _ _ 162 _ _ _ _ _
      refine r_ex 2 (pc' := 167) (lo' := [some (.inr (.inr (some 79))), some (.inl s), some (.inl c), some (.inl ((s * 9) + c))]) (st' := [.inl 1, .inr (.inr (some 79))]) rfl ?_
      refine r_puti2 (j := 18) (pc' := 170) (pc0 := 167) (len := 3) rfl (s_79 _) rfl rfl rfl (Or.inr rfl) rfl rfl ?_
      have hX_25 : XI (v2 (v2 (v2 (v2 (v2 (v2 (v2 (v2 (v2 (v2 v 80 (((v 79 4)).toNat) s) 81 (((v 79 4)).toNat) c) 82 (((v 79 4)).toNat) (v 75 ((((s * 9) + c)).toNat))) 83 (((v 79 4)).toNat) (v 76 ((((s * 9) + c)).toNat))) 84 (((v 79 4)).toNat) (v 77 ((((s * 9) + c)).toNat))) 89 ((c).toNat) s) 90 ((c).toNat) (v 75 ((((s * 9) + c)).toNat))) 79 16 (setb (v 79 16) c)) 79 4 ((v 79 4) + 1)) 79 18 1) := XI.put hX_20 (show 0 ≤ 1 ∧ 1 ≤ 1 from (by first | assumption | (unfold R32 at *; omega) | omega))
      refine r_ex 6 (pc' := 193) (lo' := [some (.inr (.inr (some 79))), some (.inl s), some (.inl c), some (.inl ((s * 9) + c))]) (st' := [.inl 1, .inr (.inr (some 79))]) rfl ?_
      refine r_puti2 (j := 17) (pc' := 196) (pc0 := 193) (len := 3) rfl (s_79 _) rfl rfl rfl (Or.inr rfl) rfl rfl ?_
      have hX_26 : XI (v2 (v2 (v2 (v2 (v2 (v2 (v2 (v2 (v2 (v2 (v2 v 80 (((v 79 4)).toNat) s) 81 (((v 79 4)).toNat) c) 82 (((v 79 4)).toNat) (v 75 ((((s * 9) + c)).toNat))) 83 (((v 79 4)).toNat) (v 76 ((((s * 9) + c)).toNat))) 84 (((v 79 4)).toNat) (v 77 ((((s * 9) + c)).toNat))) 89 ((c).toNat) s) 90 ((c).toNat) (v 75 ((((s * 9) + c)).toNat))) 79 16 (setb (v 79 16) c)) 79 4 ((v 79 4) + 1)) 79 18 1) 79 17 1) := XI.put hX_25 (show 0 ≤ 1 ∧ 1 ≤ 1 from (by first | assumption | (unfold R32 at *; omega) | omega))
      refine r_ret (rr := none) (I := .return_) (pc0 := 196) (len := 1) rfl rfl ?_
      refine ⟨rfl, rfl, ?_⟩
      simp only [xring, Nat.reduceAdd]
      (first | (rw [if_pos (by omega), if_pos (by omega)]; done) | (rw [if_neg (by omega), if_pos (by omega)]; done) | (rw [if_neg (by omega), if_neg (by omega)]; done))
    · show WV _ _ _ 148 _ _ _ _ _
      refine r_ex 5 (pc' := 159) (lo' := [some (.inr (.inr (some 79))), some (.inl s), some (.inl c), some (.inl ((s * 9) + c))]) (st' := [.inl (v 67 9), .inl ((v 79 4) + 1), .inr (.inr (some 79))]) rfl ?_
      have hb_27 : 0 ≤ ((v 79 4) + 1) ∧ ((v 79 4) + 1) ≤ 300 := hX_20 79 4
      have hb_28 : 0 ≤ (v 67 9) ∧ (v 67 9) ≤ 300 := hX_20 67 9
      refine r_ic_le (pc0 := 159) (len := 3) (t := 166) rfl (by first | assumption | (unfold R32 at *; omega) | omega) (by first | assumption | (unfold R32 at *; omega) | omega) (fun h_159 => ?_) (fun h_159 => ?_)
      · show WV _ _ _ 166 _ _ _ _ _
        refine r_ex 1 (pc' := 167) (lo' := [some (.inr (.inr (some 79))), some (.inl s), some (.inl c), some (.inl ((s * 9) + c))]) (st' := [.inl 0, .inr (.inr (some 79))]) rfl ?_
        refine r_puti2 (j := 18) (pc' := 170) (pc0 := 167) (len := 3) rfl (s_79 _) rfl rfl rfl (Or.inr rfl) rfl rfl ?_
        have hX_29 : XI (v2 (v2 (v2 (v2 (v2 (v2 (v2 (v2 (v2 (v2 v 80 (((v 79 4)).toNat) s) 81 (((v 79 4)).toNat) c) 82 (((v 79 4)).toNat) (v 75 ((((s * 9) + c)).toNat))) 83 (((v 79 4)).toNat) (v 76 ((((s * 9) + c)).toNat))) 84 (((v 79 4)).toNat) (v 77 ((((s * 9) + c)).toNat))) 89 ((c).toNat) s) 90 ((c).toNat) (v 75 ((((s * 9) + c)).toNat))) 79 16 (setb (v 79 16) c)) 79 4 ((v 79 4) + 1)) 79 18 0) := XI.put hX_20 (show 0 ≤ 0 ∧ 0 ≤ 1 from (by first | assumption | (unfold R32 at *; omega) | omega))
        refine r_ex 7 (pc' := 185) (lo' := [some (.inr (.inr (some 79))), some (.inl s), some (.inl c), some (.inl ((s * 9) + c))]) (st' := [.inl 300, .inl ((v 79 4) + 1), .inr (.inr (some 79))]) rfl ?_
        have hb_30 : 0 ≤ ((v 79 4) + 1) ∧ ((v 79 4) + 1) ≤ 300 := hX_29 79 4
        refine r_ic_lt (pc0 := 185) (len := 3) (t := 192) rfl (by first | assumption | (unfold R32 at *; omega) | omega) (by first | assumption | (unfold R32 at *; omega) | omega) (fun h_185 => ?_) (fun h_185 => ?_)
        · show WV _ _ _ 192 _ _ _ _ _
          refine r_ex 1 (pc' := 193) (lo' := [some (.inr (.inr (some 79))), some (.inl s), some (.inl c), some (.inl ((s * 9) + c))]) (st' := [.inl 0, .inr (.inr (some 79))]) rfl ?_
          refine r_puti2 (j := 17) (pc' := 196) (pc0 := 193) (len := 3) rfl (s_79 _) rfl rfl rfl (Or.inr rfl) rfl rfl ?_
          have hX_31 : XI (v2 (v2 (v2 (v2 (v2 (v2 (v2 (v2 (v2 (v2 (v2 v 80 (((v 79 4)).toNat) s) 81 (((v 79 4)).toNat) c) 82 (((v 79 4)).toNat) (v 75 ((((s * 9) + c)).toNat))) 83 (((v 79 4)).toNat) (v 76 ((((s * 9) + c)).toNat))) 84 (((v 79 4)).toNat) (v 77 ((((s * 9) + c)).toNat))) 89 ((c).toNat) s) 90 ((c).toNat) (v 75 ((((s * 9) + c)).toNat))) 79 16 (setb (v 79 16) c)) 79 4 ((v 79 4) + 1)) 79 18 0) 79 17 0) := XI.put hX_29 (show 0 ≤ 0 ∧ 0 ≤ 1 from (by first | assumption | (unfold R32 at *; omega) | omega))
          refine r_ret (rr := none) (I := .return_) (pc0 := 196) (len := 1) rfl rfl ?_
          refine ⟨rfl, rfl, ?_⟩
          simp only [xring, Nat.reduceAdd]
          (first | (rw [if_pos (by omega), if_pos (by omega)]; done) | (rw [if_neg (by omega), if_pos (by omega)]; done) | (rw [if_neg (by omega), if_neg (by omega)]; done))
        · show WV _ _ _ 188 _ _ _ _ _
          refine r_ex 2 (pc' := 193) (lo' := [some (.inr (.inr (some 79))), some (.inl s), some (.inl c), some (.inl ((s * 9) + c))]) (st' := [.inl 1, .inr (.inr (some 79))]) rfl ?_
          refine r_puti2 (j := 17) (pc' := 196) (pc0 := 193) (len := 3) rfl (s_79 _) rfl rfl rfl (Or.inr rfl) rfl rfl ?_
          have hX_32 : XI (v2 (v2 (v2 (v2 (v2 (v2 (v2 (v2 (v2 (v2 (v2 v 80 (((v 79 4)).toNat) s) 81 (((v 79 4)).toNat) c) 82 (((v 79 4)).toNat) (v 75 ((((s * 9) + c)).toNat))) 83 (((v 79 4)).toNat) (v 76 ((((s * 9) + c)).toNat))) 84 (((v 79 4)).toNat) (v 77 ((((s * 9) + c)).toNat))) 89 ((c).toNat) s) 90 ((c).toNat) (v 75 ((((s * 9) + c)).toNat))) 79 16 (setb (v 79 16) c)) 79 4 ((v 79 4) + 1)) 79 18 0) 79 17 1) := XI.put hX_29 (show 0 ≤ 1 ∧ 1 ≤ 1 from (by first | assumption | (unfold R32 at *; omega) | omega))
          refine r_ret (rr := none) (I := .return_) (pc0 := 196) (len := 1) rfl rfl ?_
          refine ⟨rfl, rfl, ?_⟩
          simp only [xring, Nat.reduceAdd]
          (first | (rw [if_pos (by omega), if_pos (by omega)]; done) | (rw [if_neg (by omega), if_pos (by omega)]; done) | (rw [if_neg (by omega), if_neg (by omega)]; done))
      · show WV _ _ _ 162 _ _ _ _ _
        refine r_ex 2 (pc' := 167) (lo' := [some (.inr (.inr (some 79))), some (.inl s), some (.inl c), some (.inl ((s * 9) + c))]) (st' := [.inl 1, .inr (.inr (some 79))]) rfl ?_
        refine r_puti2 (j := 18) (pc' := 170) (pc0 := 167) (len := 3) rfl (s_79 _) rfl rfl rfl (Or.inr rfl) rfl rfl ?_
        have hX_33 : XI (v2 (v2 (v2 (v2 (v2 (v2 (v2 (v2 (v2 (v2 v 80 (((v 79 4)).toNat) s) 81 (((v 79 4)).toNat) c) 82 (((v 79 4)).toNat) (v 75 ((((s * 9) + c)).toNat))) 83 (((v 79 4)).toNat) (v 76 ((((s * 9) + c)).toNat))) 84 (((v 79 4)).toNat) (v 77 ((((s * 9) + c)).toNat))) 89 ((c).toNat) s) 90 ((c).toNat) (v 75 ((((s * 9) + c)).toNat))) 79 16 (setb (v 79 16) c)) 79 4 ((v 79 4) + 1)) 79 18 1) := XI.put hX_20 (show 0 ≤ 1 ∧ 1 ≤ 1 from (by first | assumption | (unfold R32 at *; omega) | omega))
        refine r_ex 6 (pc' := 193) (lo' := [some (.inr (.inr (some 79))), some (.inl s), some (.inl c), some (.inl ((s * 9) + c))]) (st' := [.inl 1, .inr (.inr (some 79))]) rfl ?_
        refine r_puti2 (j := 17) (pc' := 196) (pc0 := 193) (len := 3) rfl (s_79 _) rfl rfl rfl (Or.inr rfl) rfl rfl ?_
        have hX_34 : XI (v2 (v2 (v2 (v2 (v2 (v2 (v2 (v2 (v2 (v2 (v2 v 80 (((v 79 4)).toNat) s) 81 (((v 79 4)).toNat) c) 82 (((v 79 4)).toNat) (v 75 ((((s * 9) + c)).toNat))) 83 (((v 79 4)).toNat) (v 76 ((((s * 9) + c)).toNat))) 84 (((v 79 4)).toNat) (v 77 ((((s * 9) + c)).toNat))) 89 ((c).toNat) s) 90 ((c).toNat) (v 75 ((((s * 9) + c)).toNat))) 79 16 (setb (v 79 16) c)) 79 4 ((v 79 4) + 1)) 79 18 1) 79 17 1) := XI.put hX_33 (show 0 ≤ 1 ∧ 1 ≤ 1 from (by first | assumption | (unfold R32 at *; omega) | omega))
        refine r_ret (rr := none) (I := .return_) (pc0 := 196) (len := 1) rfl rfl ?_
        refine ⟨rfl, rfl, ?_⟩
        simp only [xring, Nat.reduceAdd]
        (first | (rw [if_pos (by omega), if_pos (by omega)]; done) | (rw [if_neg (by omega), if_pos (by omega)]; done) | (rw [if_neg (by omega), if_neg (by omega)]; done))

theorem x_hear79 {X : PX} {d b : Nat} {v : VS} {i e t l : Int} (hX : XI v) (hi : 0 ≤ i ∧ i < 300) (he : 0 ≤ e ∧ e < 12) (ht : 0 ≤ t ∧ t < 300) (hl : 0 ≤ l ∧ l < 9) : EvV X (d + 1 + 1) 84 [.inr (.inr (some 79)), .inl i, .inl e, .inl t, .inl l] b v (none) b (xhear 79 v i e t l) := by
  refine EvV.of ?_
  show WV _ _ _ 0 [some (.inr (.inr (some 79))), some (.inl i), some (.inl e), some (.inl t), some (.inl l), none, none] [] _ _ _
  refine r_ex 4 (pc' := 8) (lo' := [some (.inr (.inr (some 79))), some (.inl i), some (.inl e), some (.inl t), some (.inl l), none, none]) (st' := [.inl 2, .inl (v 67 4)]) rfl ?_
  have hb_1 : -1 ≤ (v 67 4) ∧ (v 67 4) ≤ 6 := hX 67 4
  refine r_ic_ne (pc0 := 8) (len := 3) (t := 15) rfl (by first | assumption | (unfold R32 at *; omega) | omega) (by first | assumption | (unfold R32 at *; omega) | omega) (fun h_8 => ?_) (fun h_8 => ?_)
  · show WV _ _ _ 15 _ _ _ _ _
    refine r_ex 4 (pc' := 23) (lo' := [some (.inr (.inr (some 79))), some (.inl i), some (.inl e), some (.inl t), some (.inl l), none, none]) (st' := [.inl t, .inr (.inr (some 66))]) rfl ?_
    refine r_iald2 (j := 0) (x := (v 66 ((t).toNat))) (pc' := 24) (pc0 := 23) (len := 1) rfl (s_66 _) (by first | assumption | (unfold R32 at *; omega) | omega) (by decide) rfl rfl ?_
    have hb_2 : 0 ≤ (v 66 ((t).toNat)) ∧ (v 66 ((t).toNat)) ≤ 511 := hX 66 ((t).toNat)
    refine r_ex 1 (pc' := 26) (lo' := [some (.inr (.inr (some 79))), some (.inl i), some (.inl e), some (.inl t), some (.inl l), none, none]) (st' := [.inl l, .inl (v 66 ((t).toNat))]) rfl ?_
    refine r_call (m := 63) (args := [.inl (v 66 ((t).toNat)), .inl l]) (n' := 84) (pc' := 29) (lo' := [some (.inr (.inr (some 79))), some (.inl i), some (.inl e), some (.inl t), some (.inl l), none, none]) (st' := []) (I := .invokestatic 63) (pc0 := 26) (len := 3) rfl rfl rfl (x_bitb (by omega) (by omega)) ?_
    show WV _ _ _ 29 _ [.inl (bt (v 66 ((t).toNat)) l)] _ v _
    have hb_3 := bt01 (v 66 ((t).toNat)) l
    refine r_ex 6 (pc' := 41) (lo' := [some (.inr (.inr (some 79))), some (.inl i), some (.inl e), some (.inl t), some (.inl l), some (.inl (bt (v 66 ((t).toNat)) l)), none]) (st' := [.inl 6, .inl (v 67 4), .inl t]) rfl ?_
    have hb_4 : -1 ≤ (v 67 4) ∧ (v 67 4) ≤ 6 := hX 67 4
    refine r_ic_ne (pc0 := 41) (len := 3) (t := 48) rfl (by first | assumption | (unfold R32 at *; omega) | omega) (by first | assumption | (unfold R32 at *; omega) | omega) (fun h_41 => ?_) (fun h_41 => ?_)
    · show WV _ _ _ 48 _ _ _ _ _
      refine r_ex 4 (pc' := 57) (lo' := [some (.inr (.inr (some 79))), some (.inl i), some (.inl e), some (.inl t), some (.inl l), some (.inl (bt (v 66 ((t).toNat)) l)), none]) (st' := [.inl l, .inr (.inr (some 35)), .inl t]) rfl ?_
      refine r_iald2 (j := 0) (x := (v 35 ((l).toNat))) (pc' := 58) (pc0 := 57) (len := 1) rfl (s_35 _) (by first | assumption | (unfold R32 at *; omega) | omega) (by decide) rfl rfl ?_
      have hb_5 : 0 ≤ (v 35 ((l).toNat)) ∧ (v 35 ((l).toNat)) ≤ 60 := hX 35 ((l).toNat)
      refine r_ex 5 (pc' := 66) (lo' := [some (.inr (.inr (some 79))), some (.inl i), some (.inl e), some (.inl t), some (.inl l), some (.inl (bt (v 66 ((t).toNat)) l)), some (.inl (t + (v 35 ((l).toNat))))]) (st' := [.inl i, .inr (.inr (some 82))]) rfl ?_
      refine r_iald2 (j := 0) (x := (v 82 ((i).toNat))) (pc' := 67) (pc0 := 66) (len := 1) rfl (s_82 _) (by first | assumption | (unfold R32 at *; omega) | omega) (by decide) rfl rfl ?_
      have hb_6 : 0 ≤ (v 82 ((i).toNat)) ∧ (v 82 ((i).toNat)) ≤ 99 := hX 82 ((i).toNat)
      refine r_ex 3 (pc' := 72) (lo' := [some (.inr (.inr (some 79))), some (.inl i), some (.inl e), some (.inl t), some (.inl l), some (.inl (bt (v 66 ((t).toNat)) l)), some (.inl (t + (v 35 ((l).toNat))))]) (st' := [.inl 99, .inl ((v 82 ((i).toNat)) + (bt (v 66 ((t).toNat)) l))]) rfl ?_
      refine r_ic_le (pc0 := 72) (len := 3) (t := 89) rfl (by first | assumption | (unfold R32 at *; omega) | omega) (by first | assumption | (unfold R32 at *; omega) | omega) (fun h_72 => ?_) (fun h_72 => ?_)
      · show WV _ _ _ 89 _ _ _ _ _
        refine r_ex 4 (pc' := 98) (lo' := [some (.inr (.inr (some 79))), some (.inl i), some (.inl e), some (.inl t), some (.inl l), some (.inl (bt (v 66 ((t).toNat)) l)), some (.inl (t + (v 35 ((l).toNat))))]) (st' := [.inl (v 33 1), .inl (t + (v 35 ((l).toNat)))]) rfl ?_
        have hb_7 : 0 ≤ (v 33 1) ∧ (v 33 1) ≤ 300 := hX 33 1
        refine r_ic_lt (pc0 := 98) (len := 3) (t := 114) rfl (by first | assumption | (unfold R32 at *; omega) | omega) (by first | assumption | (unfold R32 at *; omega) | omega) (fun h_98 => ?_) (fun h_98 => ?_)
        · show WV _ _ _ 114 _ _ _ _ _
          refine r_ex 4 (pc' := 120) (lo' := [some (.inr (.inr (some 79))), some (.inl i), some (.inl e), some (.inl t), some (.inl l), some (.inl (bt (v 66 ((t).toNat)) l)), some (.inl (t + (v 35 ((l).toNat))))]) (st' := [.inl e, .inr (.inr (some 87)), .inl e, .inr (.inr (some 87))]) rfl ?_
          refine r_iald2 (j := 0) (x := (v 87 ((e).toNat))) (pc' := 121) (pc0 := 120) (len := 1) rfl (s_87 _) (by first | assumption | (unfold R32 at *; omega) | omega) (by decide) rfl rfl ?_
          refine r_ex 2 (pc' := 123) (lo' := [some (.inr (.inr (some 79))), some (.inl i), some (.inl e), some (.inl t), some (.inl l), some (.inl (bt (v 66 ((t).toNat)) l)), some (.inl (t + (v 35 ((l).toNat))))]) (st' := [.inl ((v 87 ((e).toNat)) + 1), .inl e, .inr (.inr (some 87))]) rfl ?_
          refine r_iast2 (pc' := 124) (pc0 := 123) (len := 1) rfl (s_87 _) (by first | assumption | (unfold R32 at *; omega) | omega) (by decide) rfl ?_
          have hX_8 : XI (v2 v 87 ((e).toNat) ((v 87 ((e).toNat)) + 1)) := XI.put hX trivial
          refine r_ex 7 (pc' := 137) (lo' := [some (.inr (.inr (some 79))), some (.inl i), some (.inl e), some (.inl t), some (.inl l), some (.inl (bt (v 66 ((t).toNat)) l)), some (.inl (t + (v 35 ((l).toNat))))]) (st' := [.inl i, .inr (.inr (some 82)), .inl l, .inl (t + (v 35 ((l).toNat))), .inr (.inr (some 73))]) rfl ?_
          refine r_iald2 (j := 0) (x := (v 82 ((i).toNat))) (pc' := 138) (pc0 := 137) (len := 1) rfl (s_82 _) (by first | assumption | (unfold R32 at *; omega) | omega) (by decide) rfl rfl ?_
          have hb_9 : 0 ≤ (v 82 ((i).toNat)) ∧ (v 82 ((i).toNat)) ≤ 99 := hX_8 82 ((i).toNat)
          refine r_ex 4 (pc' := 143) (lo' := [some (.inr (.inr (some 79))), some (.inl i), some (.inl e), some (.inl t), some (.inl l), some (.inl (bt (v 66 ((t).toNat)) l)), some (.inl (t + (v 35 ((l).toNat))))]) (st' := [.inl e, .inl i, .inl ((v 82 ((i).toNat)) + (bt (v 66 ((t).toNat)) l)), .inl l, .inl (t + (v 35 ((l).toNat))), .inr (.inr (some 73))]) rfl ?_
          refine r_call (m := 77) (args := [.inr (.inr (some 73)), .inl (t + (v 35 ((l).toNat))), .inl l, .inl ((v 82 ((i).toNat)) + (bt (v 66 ((t).toNat)) l)), .inl i, .inl e]) (n' := 84) (pc' := 146) (lo' := [some (.inr (.inr (some 79))), some (.inl i), some (.inl e), some (.inl t), some (.inl l), some (.inl (bt (v 66 ((t).toNat)) l)), some (.inl (t + (v 35 ((l).toNat))))]) (st' := []) (I := .invokevirtual 77) (pc0 := 143) (len := 3) rfl rfl rfl (x_put hX_8 (by omega) (by omega) (by omega) (by omega) (by omega)) ?_
          show WV _ _ _ 146 _ [] _ (xput (v2 v 87 ((e).toNat) ((v 87 ((e).toNat)) + 1)) (t + (v 35 ((l).toNat))) l ((v 82 ((i).toNat)) + (bt (v 66 ((t).toNat)) l)) i e) _
          have hXput := XI_put (s := (t + (v 35 ((l).toNat)))) (c := l) (h := ((v 82 ((i).toNat)) + (bt (v 66 ((t).toNat)) l))) (y := i) (e := e) hX_8 (by omega) (by omega) (by omega) (by omega) (by omega)
          refine r_ret (rr := none) (I := .return_) (pc0 := 146) (len := 1) rfl rfl ?_
          refine ⟨rfl, rfl, ?_⟩
          simp only [xhear, Nat.reduceAdd]
          (first | rw [show xmore v t l = 0 from by unfold xmore; rw [if_pos (by omega)]] | rw [show xmore v t l = bt (v 66 t.toNat) l from by unfold xmore; rw [if_neg (by omega)]])
          (first | rw [show xdue v t l = t + 0 from by unfold xdue; rw [if_pos (by omega)]] | rw [show xdue v t l = t + v 35 l.toNat from by unfold xdue; rw [if_neg (by omega)]])
          (first | (rw [if_pos (by omega)]; done) | (rw [if_neg (by omega), if_pos (by omega)]; done) | (rw [if_neg (by omega), if_neg (by omega)]; done))
        · show WV _ _ _ 101 _ _ _ _ _
          refine r_ex 4 (pc' := 107) (lo' := [some (.inr (.inr (some 79))), some (.inl i), some (.inl e), some (.inl t), some (.inl l), some (.inl (bt (v 66 ((t).toNat)) l)), some (.inl (t + (v 35 ((l).toNat))))]) (st' := [.inl 5, .inr (.inr (some 85)), .inl 5, .inr (.inr (some 85))]) rfl ?_
          refine r_iald2 (j := 0) (x := (v 85 5)) (pc' := 108) (pc0 := 107) (len := 1) rfl (s_85 _) (by first | assumption | (unfold R32 at *; omega) | omega) (by decide) rfl rfl ?_
          refine r_ex 2 (pc' := 110) (lo' := [some (.inr (.inr (some 79))), some (.inl i), some (.inl e), some (.inl t), some (.inl l), some (.inl (bt (v 66 ((t).toNat)) l)), some (.inl (t + (v 35 ((l).toNat))))]) (st' := [.inl ((v 85 5) + 1), .inl 5, .inr (.inr (some 85))]) rfl ?_
          refine r_iast2 (pc' := 111) (pc0 := 110) (len := 1) rfl (s_85 _) (by first | assumption | (unfold R32 at *; omega) | omega) (by decide) rfl ?_
          have hX_10 : XI (v2 v 85 5 ((v 85 5) + 1)) := XI.put hX trivial
          show WV _ _ _ 111 _ _ _ (v2 v 85 5 ((v 85 5) + 1)) _
          refine r_ex 1 (pc' := 146) (lo' := [some (.inr (.inr (some 79))), some (.inl i), some (.inl e), some (.inl t), some (.inl l), some (.inl (bt (v 66 ((t).toNat)) l)), some (.inl (t + (v 35 ((l).toNat))))]) (st' := []) rfl ?_
          refine r_ret (rr := none) (I := .return_) (pc0 := 146) (len := 1) rfl rfl ?_
          refine ⟨rfl, rfl, ?_⟩
          simp only [xhear, Nat.reduceAdd]
          (first | rw [show xmore v t l = 0 from by unfold xmore; rw [if_pos (by omega)]] | rw [show xmore v t l = bt (v 66 t.toNat) l from by unfold xmore; rw [if_neg (by omega)]])
          (first | rw [show xdue v t l = t + 0 from by unfold xdue; rw [if_pos (by omega)]] | rw [show xdue v t l = t + v 35 l.toNat from by unfold xdue; rw [if_neg (by omega)]])
          (first | (rw [if_pos (by omega)]; done) | (rw [if_neg (by omega), if_pos (by omega)]; done) | (rw [if_neg (by omega), if_neg (by omega)]; done))
      · show WV _ _ _ 75 _ _ _ _ _
        refine r_ex 4 (pc' := 82) (lo' := [some (.inr (.inr (some 79))), some (.inl i), some (.inl e), some (.inl t), some (.inl l), some (.inl (bt (v 66 ((t).toNat)) l)), some (.inl (t + (v 35 ((l).toNat))))]) (st' := [.inl 6, .inr (.inr (some 85)), .inl 6, .inr (.inr (some 85))]) rfl ?_
        refine r_iald2 (j := 0) (x := (v 85 6)) (pc' := 83) (pc0 := 82) (len := 1) rfl (s_85 _) (by first | assumption | (unfold R32 at *; omega) | omega) (by decide) rfl rfl ?_
        refine r_ex 2 (pc' := 85) (lo' := [some (.inr (.inr (some 79))), some (.inl i), some (.inl e), some (.inl t), some (.inl l), some (.inl (bt (v 66 ((t).toNat)) l)), some (.inl (t + (v 35 ((l).toNat))))]) (st' := [.inl ((v 85 6) + 1), .inl 6, .inr (.inr (some 85))]) rfl ?_
        refine r_iast2 (pc' := 86) (pc0 := 85) (len := 1) rfl (s_85 _) (by first | assumption | (unfold R32 at *; omega) | omega) (by decide) rfl ?_
        have hX_11 : XI (v2 v 85 6 ((v 85 6) + 1)) := XI.put hX trivial
        show WV _ _ _ 86 _ _ _ (v2 v 85 6 ((v 85 6) + 1)) _
        refine r_ex 1 (pc' := 146) (lo' := [some (.inr (.inr (some 79))), some (.inl i), some (.inl e), some (.inl t), some (.inl l), some (.inl (bt (v 66 ((t).toNat)) l)), some (.inl (t + (v 35 ((l).toNat))))]) (st' := []) rfl ?_
        refine r_ret (rr := none) (I := .return_) (pc0 := 146) (len := 1) rfl rfl ?_
        refine ⟨rfl, rfl, ?_⟩
        simp only [xhear, Nat.reduceAdd]
        (first | rw [show xmore v t l = 0 from by unfold xmore; rw [if_pos (by omega)]] | rw [show xmore v t l = bt (v 66 t.toNat) l from by unfold xmore; rw [if_neg (by omega)]])
        (first | rw [show xdue v t l = t + 0 from by unfold xdue; rw [if_pos (by omega)]] | rw [show xdue v t l = t + v 35 l.toNat from by unfold xdue; rw [if_neg (by omega)]])
        (first | (rw [if_pos (by omega)]; done) | (rw [if_neg (by omega), if_pos (by omega)]; done) | (rw [if_neg (by omega), if_neg (by omega)]; done))
    · show WV _ _ _ 44 _ _ _ _ _
      refine r_ex 7 (pc' := 66) (lo' := [some (.inr (.inr (some 79))), some (.inl i), some (.inl e), some (.inl t), some (.inl l), some (.inl (bt (v 66 ((t).toNat)) l)), some (.inl (t + 0))]) (st' := [.inl i, .inr (.inr (some 82))]) rfl ?_
      refine r_iald2 (j := 0) (x := (v 82 ((i).toNat))) (pc' := 67) (pc0 := 66) (len := 1) rfl (s_82 _) (by first | assumption | (unfold R32 at *; omega) | omega) (by decide) rfl rfl ?_
      have hb_12 : 0 ≤ (v 82 ((i).toNat)) ∧ (v 82 ((i).toNat)) ≤ 99 := hX 82 ((i).toNat)
      refine r_ex 3 (pc' := 72) (lo' := [some (.inr (.inr (some 79))), some (.inl i), some (.inl e), some (.inl t), some (.inl l), some (.inl (bt (v 66 ((t).toNat)) l)), some (.inl (t + 0))]) (st' := [.inl 99, .inl ((v 82 ((i).toNat)) + (bt (v 66 ((t).toNat)) l))]) rfl ?_
      refine r_ic_le (pc0 := 72) (len := 3) (t := 89) rfl (by first | assumption | (unfold R32 at *; omega) | omega) (by first | assumption | (unfold R32 at *; omega) | omega) (fun h_72 => ?_) (fun h_72 => ?_)
      · show WV _ _ _ 89 _ _ _ _ _
        refine r_ex 4 (pc' := 98) (lo' := [some (.inr (.inr (some 79))), some (.inl i), some (.inl e), some (.inl t), some (.inl l), some (.inl (bt (v 66 ((t).toNat)) l)), some (.inl (t + 0))]) (st' := [.inl (v 33 1), .inl (t + 0)]) rfl ?_
        have hb_13 : 0 ≤ (v 33 1) ∧ (v 33 1) ≤ 300 := hX 33 1
        refine r_ic_lt (pc0 := 98) (len := 3) (t := 114) rfl (by first | assumption | (unfold R32 at *; omega) | omega) (by first | assumption | (unfold R32 at *; omega) | omega) (fun h_98 => ?_) (fun h_98 => ?_)
        · show WV _ _ _ 114 _ _ _ _ _
          refine r_ex 4 (pc' := 120) (lo' := [some (.inr (.inr (some 79))), some (.inl i), some (.inl e), some (.inl t), some (.inl l), some (.inl (bt (v 66 ((t).toNat)) l)), some (.inl (t + 0))]) (st' := [.inl e, .inr (.inr (some 87)), .inl e, .inr (.inr (some 87))]) rfl ?_
          refine r_iald2 (j := 0) (x := (v 87 ((e).toNat))) (pc' := 121) (pc0 := 120) (len := 1) rfl (s_87 _) (by first | assumption | (unfold R32 at *; omega) | omega) (by decide) rfl rfl ?_
          refine r_ex 2 (pc' := 123) (lo' := [some (.inr (.inr (some 79))), some (.inl i), some (.inl e), some (.inl t), some (.inl l), some (.inl (bt (v 66 ((t).toNat)) l)), some (.inl (t + 0))]) (st' := [.inl ((v 87 ((e).toNat)) + 1), .inl e, .inr (.inr (some 87))]) rfl ?_
          refine r_iast2 (pc' := 124) (pc0 := 123) (len := 1) rfl (s_87 _) (by first | assumption | (unfold R32 at *; omega) | omega) (by decide) rfl ?_
          have hX_14 : XI (v2 v 87 ((e).toNat) ((v 87 ((e).toNat)) + 1)) := XI.put hX trivial
          refine r_ex 7 (pc' := 137) (lo' := [some (.inr (.inr (some 79))), some (.inl i), some (.inl e), some (.inl t), some (.inl l), some (.inl (bt (v 66 ((t).toNat)) l)), some (.inl (t + 0))]) (st' := [.inl i, .inr (.inr (some 82)), .inl l, .inl (t + 0), .inr (.inr (some 73))]) rfl ?_
          refine r_iald2 (j := 0) (x := (v 82 ((i).toNat))) (pc' := 138) (pc0 := 137) (len := 1) rfl (s_82 _) (by first | assumption | (unfold R32 at *; omega) | omega) (by decide) rfl rfl ?_
          have hb_15 : 0 ≤ (v 82 ((i).toNat)) ∧ (v 82 ((i).toNat)) ≤ 99 := hX_14 82 ((i).toNat)
          refine r_ex 4 (pc' := 143) (lo' := [some (.inr (.inr (some 79))), some (.inl i), some (.inl e), some (.inl t), some (.inl l), some (.inl (bt (v 66 ((t).toNat)) l)), some (.inl (t + 0))]) (st' := [.inl e, .inl i, .inl ((v 82 ((i).toNat)) + (bt (v 66 ((t).toNat)) l)), .inl l, .inl (t + 0), .inr (.inr (some 73))]) rfl ?_
          refine r_call (m := 77) (args := [.inr (.inr (some 73)), .inl (t + 0), .inl l, .inl ((v 82 ((i).toNat)) + (bt (v 66 ((t).toNat)) l)), .inl i, .inl e]) (n' := 84) (pc' := 146) (lo' := [some (.inr (.inr (some 79))), some (.inl i), some (.inl e), some (.inl t), some (.inl l), some (.inl (bt (v 66 ((t).toNat)) l)), some (.inl (t + 0))]) (st' := []) (I := .invokevirtual 77) (pc0 := 143) (len := 3) rfl rfl rfl (x_put hX_14 (by omega) (by omega) (by omega) (by omega) (by omega)) ?_
          show WV _ _ _ 146 _ [] _ (xput (v2 v 87 ((e).toNat) ((v 87 ((e).toNat)) + 1)) (t + 0) l ((v 82 ((i).toNat)) + (bt (v 66 ((t).toNat)) l)) i e) _
          have hXput := XI_put (s := (t + 0)) (c := l) (h := ((v 82 ((i).toNat)) + (bt (v 66 ((t).toNat)) l))) (y := i) (e := e) hX_14 (by omega) (by omega) (by omega) (by omega) (by omega)
          refine r_ret (rr := none) (I := .return_) (pc0 := 146) (len := 1) rfl rfl ?_
          refine ⟨rfl, rfl, ?_⟩
          simp only [xhear, Nat.reduceAdd]
          (first | rw [show xmore v t l = 0 from by unfold xmore; rw [if_pos (by omega)]] | rw [show xmore v t l = bt (v 66 t.toNat) l from by unfold xmore; rw [if_neg (by omega)]])
          (first | rw [show xdue v t l = t + 0 from by unfold xdue; rw [if_pos (by omega)]] | rw [show xdue v t l = t + v 35 l.toNat from by unfold xdue; rw [if_neg (by omega)]])
          (first | (rw [if_pos (by omega)]; done) | (rw [if_neg (by omega), if_pos (by omega)]; done) | (rw [if_neg (by omega), if_neg (by omega)]; done))
        · show WV _ _ _ 101 _ _ _ _ _
          refine r_ex 4 (pc' := 107) (lo' := [some (.inr (.inr (some 79))), some (.inl i), some (.inl e), some (.inl t), some (.inl l), some (.inl (bt (v 66 ((t).toNat)) l)), some (.inl (t + 0))]) (st' := [.inl 5, .inr (.inr (some 85)), .inl 5, .inr (.inr (some 85))]) rfl ?_
          refine r_iald2 (j := 0) (x := (v 85 5)) (pc' := 108) (pc0 := 107) (len := 1) rfl (s_85 _) (by first | assumption | (unfold R32 at *; omega) | omega) (by decide) rfl rfl ?_
          refine r_ex 2 (pc' := 110) (lo' := [some (.inr (.inr (some 79))), some (.inl i), some (.inl e), some (.inl t), some (.inl l), some (.inl (bt (v 66 ((t).toNat)) l)), some (.inl (t + 0))]) (st' := [.inl ((v 85 5) + 1), .inl 5, .inr (.inr (some 85))]) rfl ?_
          refine r_iast2 (pc' := 111) (pc0 := 110) (len := 1) rfl (s_85 _) (by first | assumption | (unfold R32 at *; omega) | omega) (by decide) rfl ?_
          have hX_16 : XI (v2 v 85 5 ((v 85 5) + 1)) := XI.put hX trivial
          show WV _ _ _ 111 _ _ _ (v2 v 85 5 ((v 85 5) + 1)) _
          refine r_ex 1 (pc' := 146) (lo' := [some (.inr (.inr (some 79))), some (.inl i), some (.inl e), some (.inl t), some (.inl l), some (.inl (bt (v 66 ((t).toNat)) l)), some (.inl (t + 0))]) (st' := []) rfl ?_
          refine r_ret (rr := none) (I := .return_) (pc0 := 146) (len := 1) rfl rfl ?_
          refine ⟨rfl, rfl, ?_⟩
          simp only [xhear, Nat.reduceAdd]
          (first | rw [show xmore v t l = 0 from by unfold xmore; rw [if_pos (by omega)]] | rw [show xmore v t l = bt (v 66 t.toNat) l from by unfold xmore; rw [if_neg (by omega)]])
          (first | rw [show xdue v t l = t + 0 from by unfold xdue; rw [if_pos (by omega)]] | rw [show xdue v t l = t + v 35 l.toNat from by unfold xdue; rw [if_neg (by omega)]])
          (first | (rw [if_pos (by omega)]; done) | (rw [if_neg (by omega), if_pos (by omega)]; done) | (rw [if_neg (by omega), if_neg (by omega)]; done))
      · show WV _ _ _ 75 _ _ _ _ _
        refine r_ex 4 (pc' := 82) (lo' := [some (.inr (.inr (some 79))), some (.inl i), some (.inl e), some (.inl t), some (.inl l), some (.inl (bt (v 66 ((t).toNat)) l)), some (.inl (t + 0))]) (st' := [.inl 6, .inr (.inr (some 85)), .inl 6, .inr (.inr (some 85))]) rfl ?_
        refine r_iald2 (j := 0) (x := (v 85 6)) (pc' := 83) (pc0 := 82) (len := 1) rfl (s_85 _) (by first | assumption | (unfold R32 at *; omega) | omega) (by decide) rfl rfl ?_
        refine r_ex 2 (pc' := 85) (lo' := [some (.inr (.inr (some 79))), some (.inl i), some (.inl e), some (.inl t), some (.inl l), some (.inl (bt (v 66 ((t).toNat)) l)), some (.inl (t + 0))]) (st' := [.inl ((v 85 6) + 1), .inl 6, .inr (.inr (some 85))]) rfl ?_
        refine r_iast2 (pc' := 86) (pc0 := 85) (len := 1) rfl (s_85 _) (by first | assumption | (unfold R32 at *; omega) | omega) (by decide) rfl ?_
        have hX_17 : XI (v2 v 85 6 ((v 85 6) + 1)) := XI.put hX trivial
        show WV _ _ _ 86 _ _ _ (v2 v 85 6 ((v 85 6) + 1)) _
        refine r_ex 1 (pc' := 146) (lo' := [some (.inr (.inr (some 79))), some (.inl i), some (.inl e), some (.inl t), some (.inl l), some (.inl (bt (v 66 ((t).toNat)) l)), some (.inl (t + 0))]) (st' := []) rfl ?_
        refine r_ret (rr := none) (I := .return_) (pc0 := 146) (len := 1) rfl rfl ?_
        refine ⟨rfl, rfl, ?_⟩
        simp only [xhear, Nat.reduceAdd]
        (first | rw [show xmore v t l = 0 from by unfold xmore; rw [if_pos (by omega)]] | rw [show xmore v t l = bt (v 66 t.toNat) l from by unfold xmore; rw [if_neg (by omega)]])
        (first | rw [show xdue v t l = t + 0 from by unfold xdue; rw [if_pos (by omega)]] | rw [show xdue v t l = t + v 35 l.toNat from by unfold xdue; rw [if_neg (by omega)]])
        (first | (rw [if_pos (by omega)]; done) | (rw [if_neg (by omega), if_pos (by omega)]; done) | (rw [if_neg (by omega), if_neg (by omega)]; done))
  · show WV _ _ _ 11 _ _ _ _ _
    refine r_ex 8 (pc' := 41) (lo' := [some (.inr (.inr (some 79))), some (.inl i), some (.inl e), some (.inl t), some (.inl l), some (.inl 0), none]) (st' := [.inl 6, .inl (v 67 4), .inl t]) rfl ?_
    have hb_18 : -1 ≤ (v 67 4) ∧ (v 67 4) ≤ 6 := hX 67 4
    refine r_ic_ne (pc0 := 41) (len := 3) (t := 48) rfl (by first | assumption | (unfold R32 at *; omega) | omega) (by first | assumption | (unfold R32 at *; omega) | omega) (fun h_41 => ?_) (fun h_41 => ?_)
    · show WV _ _ _ 48 _ _ _ _ _
      refine r_ex 4 (pc' := 57) (lo' := [some (.inr (.inr (some 79))), some (.inl i), some (.inl e), some (.inl t), some (.inl l), some (.inl 0), none]) (st' := [.inl l, .inr (.inr (some 35)), .inl t]) rfl ?_
      refine r_iald2 (j := 0) (x := (v 35 ((l).toNat))) (pc' := 58) (pc0 := 57) (len := 1) rfl (s_35 _) (by first | assumption | (unfold R32 at *; omega) | omega) (by decide) rfl rfl ?_
      have hb_19 : 0 ≤ (v 35 ((l).toNat)) ∧ (v 35 ((l).toNat)) ≤ 60 := hX 35 ((l).toNat)
      refine r_ex 5 (pc' := 66) (lo' := [some (.inr (.inr (some 79))), some (.inl i), some (.inl e), some (.inl t), some (.inl l), some (.inl 0), some (.inl (t + (v 35 ((l).toNat))))]) (st' := [.inl i, .inr (.inr (some 82))]) rfl ?_
      refine r_iald2 (j := 0) (x := (v 82 ((i).toNat))) (pc' := 67) (pc0 := 66) (len := 1) rfl (s_82 _) (by first | assumption | (unfold R32 at *; omega) | omega) (by decide) rfl rfl ?_
      have hb_20 : 0 ≤ (v 82 ((i).toNat)) ∧ (v 82 ((i).toNat)) ≤ 99 := hX 82 ((i).toNat)
      refine r_ex 3 (pc' := 72) (lo' := [some (.inr (.inr (some 79))), some (.inl i), some (.inl e), some (.inl t), some (.inl l), some (.inl 0), some (.inl (t + (v 35 ((l).toNat))))]) (st' := [.inl 99, .inl ((v 82 ((i).toNat)) + 0)]) rfl ?_
      refine r_ic_le (pc0 := 72) (len := 3) (t := 89) rfl (by first | assumption | (unfold R32 at *; omega) | omega) (by first | assumption | (unfold R32 at *; omega) | omega) (fun h_72 => ?_) (fun h_72 => ?_)
      · show WV _ _ _ 89 _ _ _ _ _
        refine r_ex 4 (pc' := 98) (lo' := [some (.inr (.inr (some 79))), some (.inl i), some (.inl e), some (.inl t), some (.inl l), some (.inl 0), some (.inl (t + (v 35 ((l).toNat))))]) (st' := [.inl (v 33 1), .inl (t + (v 35 ((l).toNat)))]) rfl ?_
        have hb_21 : 0 ≤ (v 33 1) ∧ (v 33 1) ≤ 300 := hX 33 1
        refine r_ic_lt (pc0 := 98) (len := 3) (t := 114) rfl (by first | assumption | (unfold R32 at *; omega) | omega) (by first | assumption | (unfold R32 at *; omega) | omega) (fun h_98 => ?_) (fun h_98 => ?_)
        · show WV _ _ _ 114 _ _ _ _ _
          refine r_ex 4 (pc' := 120) (lo' := [some (.inr (.inr (some 79))), some (.inl i), some (.inl e), some (.inl t), some (.inl l), some (.inl 0), some (.inl (t + (v 35 ((l).toNat))))]) (st' := [.inl e, .inr (.inr (some 87)), .inl e, .inr (.inr (some 87))]) rfl ?_
          refine r_iald2 (j := 0) (x := (v 87 ((e).toNat))) (pc' := 121) (pc0 := 120) (len := 1) rfl (s_87 _) (by first | assumption | (unfold R32 at *; omega) | omega) (by decide) rfl rfl ?_
          refine r_ex 2 (pc' := 123) (lo' := [some (.inr (.inr (some 79))), some (.inl i), some (.inl e), some (.inl t), some (.inl l), some (.inl 0), some (.inl (t + (v 35 ((l).toNat))))]) (st' := [.inl ((v 87 ((e).toNat)) + 1), .inl e, .inr (.inr (some 87))]) rfl ?_
          refine r_iast2 (pc' := 124) (pc0 := 123) (len := 1) rfl (s_87 _) (by first | assumption | (unfold R32 at *; omega) | omega) (by decide) rfl ?_
          have hX_22 : XI (v2 v 87 ((e).toNat) ((v 87 ((e).toNat)) + 1)) := XI.put hX trivial
          refine r_ex 7 (pc' := 137) (lo' := [some (.inr (.inr (some 79))), some (.inl i), some (.inl e), some (.inl t), some (.inl l), some (.inl 0), some (.inl (t + (v 35 ((l).toNat))))]) (st' := [.inl i, .inr (.inr (some 82)), .inl l, .inl (t + (v 35 ((l).toNat))), .inr (.inr (some 73))]) rfl ?_
          refine r_iald2 (j := 0) (x := (v 82 ((i).toNat))) (pc' := 138) (pc0 := 137) (len := 1) rfl (s_82 _) (by first | assumption | (unfold R32 at *; omega) | omega) (by decide) rfl rfl ?_
          have hb_23 : 0 ≤ (v 82 ((i).toNat)) ∧ (v 82 ((i).toNat)) ≤ 99 := hX_22 82 ((i).toNat)
          refine r_ex 4 (pc' := 143) (lo' := [some (.inr (.inr (some 79))), some (.inl i), some (.inl e), some (.inl t), some (.inl l), some (.inl 0), some (.inl (t + (v 35 ((l).toNat))))]) (st' := [.inl e, .inl i, .inl ((v 82 ((i).toNat)) + 0), .inl l, .inl (t + (v 35 ((l).toNat))), .inr (.inr (some 73))]) rfl ?_
          refine r_call (m := 77) (args := [.inr (.inr (some 73)), .inl (t + (v 35 ((l).toNat))), .inl l, .inl ((v 82 ((i).toNat)) + 0), .inl i, .inl e]) (n' := 84) (pc' := 146) (lo' := [some (.inr (.inr (some 79))), some (.inl i), some (.inl e), some (.inl t), some (.inl l), some (.inl 0), some (.inl (t + (v 35 ((l).toNat))))]) (st' := []) (I := .invokevirtual 77) (pc0 := 143) (len := 3) rfl rfl rfl (x_put hX_22 (by omega) (by omega) (by omega) (by omega) (by omega)) ?_
          show WV _ _ _ 146 _ [] _ (xput (v2 v 87 ((e).toNat) ((v 87 ((e).toNat)) + 1)) (t + (v 35 ((l).toNat))) l ((v 82 ((i).toNat)) + 0) i e) _
          have hXput := XI_put (s := (t + (v 35 ((l).toNat)))) (c := l) (h := ((v 82 ((i).toNat)) + 0)) (y := i) (e := e) hX_22 (by omega) (by omega) (by omega) (by omega) (by omega)
          refine r_ret (rr := none) (I := .return_) (pc0 := 146) (len := 1) rfl rfl ?_
          refine ⟨rfl, rfl, ?_⟩
          simp only [xhear, Nat.reduceAdd]
          (first | rw [show xmore v t l = 0 from by unfold xmore; rw [if_pos (by omega)]] | rw [show xmore v t l = bt (v 66 t.toNat) l from by unfold xmore; rw [if_neg (by omega)]])
          (first | rw [show xdue v t l = t + 0 from by unfold xdue; rw [if_pos (by omega)]] | rw [show xdue v t l = t + v 35 l.toNat from by unfold xdue; rw [if_neg (by omega)]])
          (first | (rw [if_pos (by omega)]; done) | (rw [if_neg (by omega), if_pos (by omega)]; done) | (rw [if_neg (by omega), if_neg (by omega)]; done))
        · show WV _ _ _ 101 _ _ _ _ _
          refine r_ex 4 (pc' := 107) (lo' := [some (.inr (.inr (some 79))), some (.inl i), some (.inl e), some (.inl t), some (.inl l), some (.inl 0), some (.inl (t + (v 35 ((l).toNat))))]) (st' := [.inl 5, .inr (.inr (some 85)), .inl 5, .inr (.inr (some 85))]) rfl ?_
          refine r_iald2 (j := 0) (x := (v 85 5)) (pc' := 108) (pc0 := 107) (len := 1) rfl (s_85 _) (by first | assumption | (unfold R32 at *; omega) | omega) (by decide) rfl rfl ?_
          refine r_ex 2 (pc' := 110) (lo' := [some (.inr (.inr (some 79))), some (.inl i), some (.inl e), some (.inl t), some (.inl l), some (.inl 0), some (.inl (t + (v 35 ((l).toNat))))]) (st' := [.inl ((v 85 5) + 1), .inl 5, .inr (.inr (some 85))]) rfl ?_
          refine r_iast2 (pc' := 111) (pc0 := 110) (len := 1) rfl (s_85 _) (by first | assumption | (unfold R32 at *; omega) | omega) (by decide) rfl ?_
          have hX_24 : XI (v2 v 85 5 ((v 85 5) + 1)) := XI.put hX trivial
          show WV _ _ _ 111 _ _ _ (v2 v 85 5 ((v 85 5) + 1)) _
          refine r_ex 1 (pc' := 146) (lo' := [some (.inr (.inr (some 79))), some (.inl i), some (.inl e), some (.inl t), some (.inl l), some (.inl 0), some (.inl (t + (v 35 ((l).toNat))))]) (st' := []) rfl ?_
          refine r_ret (rr := none) (I := .return_) (pc0 := 146) (len := 1) rfl rfl ?_
          refine ⟨rfl, rfl, ?_⟩
          simp only [xhear, Nat.reduceAdd]
          (first | rw [show xmore v t l = 0 from by unfold xmore; rw [if_pos (by omega)]] | rw [show xmore v t l = bt (v 66 t.toNat) l from by unfold xmore; rw [if_neg (by omega)]])
          (first | rw [show xdue v t l = t + 0 from by unfold xdue; rw [if_pos (by omega)]] | rw [show xdue v t l = t + v 35 l.toNat from by unfold xdue; rw [if_neg (by omega)]])
          (first | (rw [if_pos (by omega)]; done) | (rw [if_neg (by omega), if_pos (by omega)]; done) | (rw [if_neg (by omega), if_neg (by omega)]; done))
      · show WV _ _ _ 75 _ _ _ _ _
        refine r_ex 4 (pc' := 82) (lo' := [some (.inr (.inr (some 79))), some (.inl i), some (.inl e), some (.inl t), some (.inl l), some (.inl 0), some (.inl (t + (v 35 ((l).toNat))))]) (st' := [.inl 6, .inr (.inr (some 85)), .inl 6, .inr (.inr (some 85))]) rfl ?_
        refine r_iald2 (j := 0) (x := (v 85 6)) (pc' := 83) (pc0 := 82) (len := 1) rfl (s_85 _) (by first | assumption | (unfold R32 at *; omega) | omega) (by decide) rfl rfl ?_
        refine r_ex 2 (pc' := 85) (lo' := [some (.inr (.inr (some 79))), some (.inl i), some (.inl e), some (.inl t), some (.inl l), some (.inl 0), some (.inl (t + (v 35 ((l).toNat))))]) (st' := [.inl ((v 85 6) + 1), .inl 6, .inr (.inr (some 85))]) rfl ?_
        refine r_iast2 (pc' := 86) (pc0 := 85) (len := 1) rfl (s_85 _) (by first | assumption | (unfold R32 at *; omega) | omega) (by decide) rfl ?_
        have hX_25 : XI (v2 v 85 6 ((v 85 6) + 1)) := XI.put hX trivial
        show WV _ _ _ 86 _ _ _ (v2 v 85 6 ((v 85 6) + 1)) _
        refine r_ex 1 (pc' := 146) (lo' := [some (.inr (.inr (some 79))), some (.inl i), some (.inl e), some (.inl t), some (.inl l), some (.inl 0), some (.inl (t + (v 35 ((l).toNat))))]) (st' := []) rfl ?_
        refine r_ret (rr := none) (I := .return_) (pc0 := 146) (len := 1) rfl rfl ?_
        refine ⟨rfl, rfl, ?_⟩
        simp only [xhear, Nat.reduceAdd]
        (first | rw [show xmore v t l = 0 from by unfold xmore; rw [if_pos (by omega)]] | rw [show xmore v t l = bt (v 66 t.toNat) l from by unfold xmore; rw [if_neg (by omega)]])
        (first | rw [show xdue v t l = t + 0 from by unfold xdue; rw [if_pos (by omega)]] | rw [show xdue v t l = t + v 35 l.toNat from by unfold xdue; rw [if_neg (by omega)]])
        (first | (rw [if_pos (by omega)]; done) | (rw [if_neg (by omega), if_pos (by omega)]; done) | (rw [if_neg (by omega), if_neg (by omega)]; done))
    · show WV _ _ _ 44 _ _ _ _ _
      refine r_ex 7 (pc' := 66) (lo' := [some (.inr (.inr (some 79))), some (.inl i), some (.inl e), some (.inl t), some (.inl l), some (.inl 0), some (.inl (t + 0))]) (st' := [.inl i, .inr (.inr (some 82))]) rfl ?_
      refine r_iald2 (j := 0) (x := (v 82 ((i).toNat))) (pc' := 67) (pc0 := 66) (len := 1) rfl (s_82 _) (by first | assumption | (unfold R32 at *; omega) | omega) (by decide) rfl rfl ?_
      have hb_26 : 0 ≤ (v 82 ((i).toNat)) ∧ (v 82 ((i).toNat)) ≤ 99 := hX 82 ((i).toNat)
      refine r_ex 3 (pc' := 72) (lo' := [some (.inr (.inr (some 79))), some (.inl i), some (.inl e), some (.inl t), some (.inl l), some (.inl 0), some (.inl (t + 0))]) (st' := [.inl 99, .inl ((v 82 ((i).toNat)) + 0)]) rfl ?_
      refine r_ic_le (pc0 := 72) (len := 3) (t := 89) rfl (by first | assumption | (unfold R32 at *; omega) | omega) (by first | assumption | (unfold R32 at *; omega) | omega) (fun h_72 => ?_) (fun h_72 => ?_)
      · show WV _ _ _ 89 _ _ _ _ _
        refine r_ex 4 (pc' := 98) (lo' := [some (.inr (.inr (some 79))), some (.inl i), some (.inl e), some (.inl t), some (.inl l), some (.inl 0), some (.inl (t + 0))]) (st' := [.inl (v 33 1), .inl (t + 0)]) rfl ?_
        have hb_27 : 0 ≤ (v 33 1) ∧ (v 33 1) ≤ 300 := hX 33 1
        refine r_ic_lt (pc0 := 98) (len := 3) (t := 114) rfl (by first | assumption | (unfold R32 at *; omega) | omega) (by first | assumption | (unfold R32 at *; omega) | omega) (fun h_98 => ?_) (fun h_98 => ?_)
        · show WV _ _ _ 114 _ _ _ _ _
          refine r_ex 4 (pc' := 120) (lo' := [some (.inr (.inr (some 79))), some (.inl i), some (.inl e), some (.inl t), some (.inl l), some (.inl 0), some (.inl (t + 0))]) (st' := [.inl e, .inr (.inr (some 87)), .inl e, .inr (.inr (some 87))]) rfl ?_
          refine r_iald2 (j := 0) (x := (v 87 ((e).toNat))) (pc' := 121) (pc0 := 120) (len := 1) rfl (s_87 _) (by first | assumption | (unfold R32 at *; omega) | omega) (by decide) rfl rfl ?_
          refine r_ex 2 (pc' := 123) (lo' := [some (.inr (.inr (some 79))), some (.inl i), some (.inl e), some (.inl t), some (.inl l), some (.inl 0), some (.inl (t + 0))]) (st' := [.inl ((v 87 ((e).toNat)) + 1), .inl e, .inr (.inr (some 87))]) rfl ?_
          refine r_iast2 (pc' := 124) (pc0 := 123) (len := 1) rfl (s_87 _) (by first | assumption | (unfold R32 at *; omega) | omega) (by decide) rfl ?_
          have hX_28 : XI (v2 v 87 ((e).toNat) ((v 87 ((e).toNat)) + 1)) := XI.put hX trivial
          refine r_ex 7 (pc' := 137) (lo' := [some (.inr (.inr (some 79))), some (.inl i), some (.inl e), some (.inl t), some (.inl l), some (.inl 0), some (.inl (t + 0))]) (st' := [.inl i, .inr (.inr (some 82)), .inl l, .inl (t + 0), .inr (.inr (some 73))]) rfl ?_
          refine r_iald2 (j := 0) (x := (v 82 ((i).toNat))) (pc' := 138) (pc0 := 137) (len := 1) rfl (s_82 _) (by first | assumption | (unfold R32 at *; omega) | omega) (by decide) rfl rfl ?_
          have hb_29 : 0 ≤ (v 82 ((i).toNat)) ∧ (v 82 ((i).toNat)) ≤ 99 := hX_28 82 ((i).toNat)
          refine r_ex 4 (pc' := 143) (lo' := [some (.inr (.inr (some 79))), some (.inl i), some (.inl e), some (.inl t), some (.inl l), some (.inl 0), some (.inl (t + 0))]) (st' := [.inl e, .inl i, .inl ((v 82 ((i).toNat)) + 0), .inl l, .inl (t + 0), .inr (.inr (some 73))]) rfl ?_
          refine r_call (m := 77) (args := [.inr (.inr (some 73)), .inl (t + 0), .inl l, .inl ((v 82 ((i).toNat)) + 0), .inl i, .inl e]) (n' := 84) (pc' := 146) (lo' := [some (.inr (.inr (some 79))), some (.inl i), some (.inl e), some (.inl t), some (.inl l), some (.inl 0), some (.inl (t + 0))]) (st' := []) (I := .invokevirtual 77) (pc0 := 143) (len := 3) rfl rfl rfl (x_put hX_28 (by omega) (by omega) (by omega) (by omega) (by omega)) ?_
          show WV _ _ _ 146 _ [] _ (xput (v2 v 87 ((e).toNat) ((v 87 ((e).toNat)) + 1)) (t + 0) l ((v 82 ((i).toNat)) + 0) i e) _
          have hXput := XI_put (s := (t + 0)) (c := l) (h := ((v 82 ((i).toNat)) + 0)) (y := i) (e := e) hX_28 (by omega) (by omega) (by omega) (by omega) (by omega)
          refine r_ret (rr := none) (I := .return_) (pc0 := 146) (len := 1) rfl rfl ?_
          refine ⟨rfl, rfl, ?_⟩
          simp only [xhear, Nat.reduceAdd]
          (first | rw [show xmore v t l = 0 from by unfold xmore; rw [if_pos (by omega)]] | rw [show xmore v t l = bt (v 66 t.toNat) l from by unfold xmore; rw [if_neg (by omega)]])
          (first | rw [show xdue v t l = t + 0 from by unfold xdue; rw [if_pos (by omega)]] | rw [show xdue v t l = t + v 35 l.toNat from by unfold xdue; rw [if_neg (by omega)]])
          (first | (rw [if_pos (by omega)]; done) | (rw [if_neg (by omega), if_pos (by omega)]; done) | (rw [if_neg (by omega), if_neg (by omega)]; done))
        · show WV _ _ _ 101 _ _ _ _ _
          refine r_ex 4 (pc' := 107) (lo' := [some (.inr (.inr (some 79))), some (.inl i), some (.inl e), some (.inl t), some (.inl l), some (.inl 0), some (.inl (t + 0))]) (st' := [.inl 5, .inr (.inr (some 85)), .inl 5, .inr (.inr (some 85))]) rfl ?_
          refine r_iald2 (j := 0) (x := (v 85 5)) (pc' := 108) (pc0 := 107) (len := 1) rfl (s_85 _) (by first | assumption | (unfold R32 at *; omega) | omega) (by decide) rfl rfl ?_
          refine r_ex 2 (pc' := 110) (lo' := [some (.inr (.inr (some 79))), some (.inl i), some (.inl e), some (.inl t), some (.inl l), some (.inl 0), some (.inl (t + 0))]) (st' := [.inl ((v 85 5) + 1), .inl 5, .inr (.inr (some 85))]) rfl ?_
          refine r_iast2 (pc' := 111) (pc0 := 110) (len := 1) rfl (s_85 _) (by first | assumption | (unfold R32 at *; omega) | omega) (by decide) rfl ?_
          have hX_30 : XI (v2 v 85 5 ((v 85 5) + 1)) := XI.put hX trivial
          show WV _ _ _ 111 _ _ _ (v2 v 85 5 ((v 85 5) + 1)) _
          refine r_ex 1 (pc' := 146) (lo' := [some (.inr (.inr (some 79))), some (.inl i), some (.inl e), some (.inl t), some (.inl l), some (.inl 0), some (.inl (t + 0))]) (st' := []) rfl ?_
          refine r_ret (rr := none) (I := .return_) (pc0 := 146) (len := 1) rfl rfl ?_
          refine ⟨rfl, rfl, ?_⟩
          simp only [xhear, Nat.reduceAdd]
          (first | rw [show xmore v t l = 0 from by unfold xmore; rw [if_pos (by omega)]] | rw [show xmore v t l = bt (v 66 t.toNat) l from by unfold xmore; rw [if_neg (by omega)]])
          (first | rw [show xdue v t l = t + 0 from by unfold xdue; rw [if_pos (by omega)]] | rw [show xdue v t l = t + v 35 l.toNat from by unfold xdue; rw [if_neg (by omega)]])
          (first | (rw [if_pos (by omega)]; done) | (rw [if_neg (by omega), if_pos (by omega)]; done) | (rw [if_neg (by omega), if_neg (by omega)]; done))
      · show WV _ _ _ 75 _ _ _ _ _
        refine r_ex 4 (pc' := 82) (lo' := [some (.inr (.inr (some 79))), some (.inl i), some (.inl e), some (.inl t), some (.inl l), some (.inl 0), some (.inl (t + 0))]) (st' := [.inl 6, .inr (.inr (some 85)), .inl 6, .inr (.inr (some 85))]) rfl ?_
        refine r_iald2 (j := 0) (x := (v 85 6)) (pc' := 83) (pc0 := 82) (len := 1) rfl (s_85 _) (by first | assumption | (unfold R32 at *; omega) | omega) (by decide) rfl rfl ?_
        refine r_ex 2 (pc' := 85) (lo' := [some (.inr (.inr (some 79))), some (.inl i), some (.inl e), some (.inl t), some (.inl l), some (.inl 0), some (.inl (t + 0))]) (st' := [.inl ((v 85 6) + 1), .inl 6, .inr (.inr (some 85))]) rfl ?_
        refine r_iast2 (pc' := 86) (pc0 := 85) (len := 1) rfl (s_85 _) (by first | assumption | (unfold R32 at *; omega) | omega) (by decide) rfl ?_
        have hX_31 : XI (v2 v 85 6 ((v 85 6) + 1)) := XI.put hX trivial
        show WV _ _ _ 86 _ _ _ (v2 v 85 6 ((v 85 6) + 1)) _
        refine r_ex 1 (pc' := 146) (lo' := [some (.inr (.inr (some 79))), some (.inl i), some (.inl e), some (.inl t), some (.inl l), some (.inl 0), some (.inl (t + 0))]) (st' := []) rfl ?_
        refine r_ret (rr := none) (I := .return_) (pc0 := 146) (len := 1) rfl rfl ?_
        refine ⟨rfl, rfl, ?_⟩
        simp only [xhear, Nat.reduceAdd]
        (first | rw [show xmore v t l = 0 from by unfold xmore; rw [if_pos (by omega)]] | rw [show xmore v t l = bt (v 66 t.toNat) l from by unfold xmore; rw [if_neg (by omega)]])
        (first | rw [show xdue v t l = t + 0 from by unfold xdue; rw [if_pos (by omega)]] | rw [show xdue v t l = t + v 35 l.toNat from by unfold xdue; rw [if_neg (by omega)]])
        (first | (rw [if_pos (by omega)]; done) | (rw [if_neg (by omega), if_pos (by omega)]; done) | (rw [if_neg (by omega), if_neg (by omega)]; done))

theorem x_ring91 {X : PX} {d b : Nat} {v : VS} {s c : Int} (hX : XI v) (hs : 0 ≤ s ∧ s < 300) (hc : 0 ≤ c ∧ c < 9) (ht : v 91 4 < 300) : EvV X d 80 [.inr (.inr (some 91)), .inl s, .inl c] b v (none) b (xring 91 v s c) := by
  refine EvV.of ?_
  show WV _ _ _ 0 [some (.inr (.inr (some 91))), some (.inl s), some (.inl c), none] [] _ _ _
  refine r_ex 11 (pc' := 16) (lo' := [some (.inr (.inr (some 91))), some (.inl s), some (.inl c), some (.inl ((s * 9) + c))]) (st' := [.inl s, .inl (v 91 4), .inr (.inr (some 92))]) rfl ?_
  have hb_1 : 0 ≤ (v 91 4) ∧ (v 91 4) ≤ 300 := hX 91 4
  refine r_iast2 (pc' := 17) (pc0 := 16) (len := 1) rfl (s_92 _) (by first | assumption | (unfold R32 at *; omega) | omega) (by decide) rfl ?_
  have hX_2 : XI (v2 v 92 (((v 91 4)).toNat) s) := XI.put hX (show 0 ≤ s ∧ s ≤ 299 from (by first | assumption | (unfold R32 at *; omega) | omega))
  refine r_ex 5 (pc' := 26) (lo' := [some (.inr (.inr (some 91))), some (.inl s), some (.inl c), some (.inl ((s * 9) + c))]) (st' := [.inl c, .inl (v 91 4), .inr (.inr (some 93))]) rfl ?_
  have hb_3 : 0 ≤ (v 91 4) ∧ (v 91 4) ≤ 300 := hX_2 91 4
  refine r_iast2 (pc' := 27) (pc0 := 26) (len := 1) rfl (s_93 _) (by first | assumption | (unfold R32 at *; omega) | omega) (by decide) rfl ?_
  have hX_4 : XI (v2 (v2 v 92 (((v 91 4)).toNat) s) 93 (((v 91 4)).toNat) c) := XI.put hX_2 (show 0 ≤ c ∧ c ≤ 8 from (by first | assumption | (unfold R32 at *; omega) | omega))
  refine r_ex 8 (pc' := 43) (lo' := [some (.inr (.inr (some 91))), some (.inl s), some (.inl c), some (.inl ((s * 9) + c))]) (st' := [.inl ((s * 9) + c), .inr (.inr (some 75)), .inl (v 91 4), .inr (.inr (some 94))]) rfl ?_
  have hb_5 : 0 ≤ (v 91 4) ∧ (v 91 4) ≤ 300 := hX_4 91 4
  refine r_iald2 (j := 0) (x := (v 75 ((((s * 9) + c)).toNat))) (pc' := 44) (pc0 := 43) (len := 1) rfl (s_75 _) (by first | assumption | (unfold R32 at *; omega) | omega) (by decide) rfl rfl ?_
  have hb_6 : 0 ≤ (v 75 ((((s * 9) + c)).toNat)) ∧ (v 75 ((((s * 9) + c)).toNat)) ≤ 99 := hX_4 75 ((((s * 9) + c)).toNat)
  refine r_iast2 (pc' := 45) (pc0 := 44) (len := 1) rfl (s_94 _) (by first | assumption | (unfold R32 at *; omega) | omega) (by decide) rfl ?_
  have hX_7 : XI (v2 (v2 (v2 v 92 (((v 91 4)).toNat) s) 93 (((v 91 4)).toNat) c) 94 (((v 91 4)).toNat) (v 75 ((((s * 9) + c)).toNat))) := XI.put hX_4 (show 0 ≤ (v 75 ((((s * 9) + c)).toNat)) ∧ (v 75 ((((s * 9) + c)).toNat)) ≤ 99 from (by first | assumption | (unfold R32 at *; omega) | omega))
  refine r_ex 8 (pc' := 61) (lo' := [some (.inr (.inr (some 91))), some (.inl s), some (.inl c), some (.inl ((s * 9) + c))]) (st' := [.inl ((s * 9) + c), .inr (.inr (some 76)), .inl (v 91 4), .inr (.inr (some 95))]) rfl ?_
  have hb_8 : 0 ≤ (v 91 4) ∧ (v 91 4) ≤ 300 := hX_7 91 4
  refine r_iald2 (j := 0) (x := (v 76 ((((s * 9) + c)).toNat))) (pc' := 62) (pc0 := 61) (len := 1) rfl (s_76 _) (by first | assumption | (unfold R32 at *; omega) | omega) (by decide) rfl rfl ?_
  have hb_9 : -1 ≤ (v 76 ((((s * 9) + c)).toNat)) ∧ (v 76 ((((s * 9) + c)).toNat)) ≤ 299 := hX_7 76 ((((s * 9) + c)).toNat)
  refine r_iast2 (pc' := 63) (pc0 := 62) (len := 1) rfl (s_95 _) (by first | assumption | (unfold R32 at *; omega) | omega) (by decide) rfl ?_
  have hX_10 : XI (v2 (v2 (v2 (v2 v 92 (((v 91 4)).toNat) s) 93 (((v 91 4)).toNat) c) 94 (((v 91 4)).toNat) (v 75 ((((s * 9) + c)).toNat))) 95 (((v 91 4)).toNat) (v 76 ((((s * 9) + c)).toNat))) := XI.put hX_7 (show -1 ≤ (v 76 ((((s * 9) + c)).toNat)) ∧ (v 76 ((((s * 9) + c)).toNat)) ≤ 299 from (by first | assumption | (unfold R32 at *; omega) | omega))
  refine r_ex 8 (pc' := 79) (lo' := [some (.inr (.inr (some 91))), some (.inl s), some (.inl c), some (.inl ((s * 9) + c))]) (st' := [.inl ((s * 9) + c), .inr (.inr (some 77)), .inl (v 91 4), .inr (.inr (some 96))]) rfl ?_
  have hb_11 : 0 ≤ (v 91 4) ∧ (v 91 4) ≤ 300 := hX_10 91 4
  refine r_iald2 (j := 0) (x := (v 77 ((((s * 9) + c)).toNat))) (pc' := 80) (pc0 := 79) (len := 1) rfl (s_77 _) (by first | assumption | (unfold R32 at *; omega) | omega) (by decide) rfl rfl ?_
  have hb_12 : -1 ≤ (v 77 ((((s * 9) + c)).toNat)) ∧ (v 77 ((((s * 9) + c)).toNat)) ≤ 11 := hX_10 77 ((((s * 9) + c)).toNat)
  refine r_iast2 (pc' := 81) (pc0 := 80) (len := 1) rfl (s_96 _) (by first | assumption | (unfold R32 at *; omega) | omega) (by decide) rfl ?_
  have hX_13 : XI (v2 (v2 (v2 (v2 (v2 v 92 (((v 91 4)).toNat) s) 93 (((v 91 4)).toNat) c) 94 (((v 91 4)).toNat) (v 75 ((((s * 9) + c)).toNat))) 95 (((v 91 4)).toNat) (v 76 ((((s * 9) + c)).toNat))) 96 (((v 91 4)).toNat) (v 77 ((((s * 9) + c)).toNat))) := XI.put hX_10 (show -1 ≤ (v 77 ((((s * 9) + c)).toNat)) ∧ (v 77 ((((s * 9) + c)).toNat)) ≤ 11 from (by first | assumption | (unfold R32 at *; omega) | omega))
  refine r_ex 4 (pc' := 87) (lo' := [some (.inr (.inr (some 91))), some (.inl s), some (.inl c), some (.inl ((s * 9) + c))]) (st' := [.inl s, .inl c, .inr (.inr (some 101))]) rfl ?_
  refine r_iast2 (pc' := 88) (pc0 := 87) (len := 1) rfl (s_101 _) (by first | assumption | (unfold R32 at *; omega) | omega) (by decide) rfl ?_
  have hX_14 : XI (v2 (v2 (v2 (v2 (v2 (v2 v 92 (((v 91 4)).toNat) s) 93 (((v 91 4)).toNat) c) 94 (((v 91 4)).toNat) (v 75 ((((s * 9) + c)).toNat))) 95 (((v 91 4)).toNat) (v 76 ((((s * 9) + c)).toNat))) 96 (((v 91 4)).toNat) (v 77 ((((s * 9) + c)).toNat))) 101 ((c).toNat) s) := XI.put hX_13 (show 0 ≤ s ∧ s ≤ 299 from (by first | assumption | (unfold R32 at *; omega) | omega))
  refine r_ex 7 (pc' := 101) (lo' := [some (.inr (.inr (some 91))), some (.inl s), some (.inl c), some (.inl ((s * 9) + c))]) (st' := [.inl (v 91 4), .inr (.inr (some 94)), .inl c, .inr (.inr (some 102))]) rfl ?_
  have hb_15 : 0 ≤ (v 91 4) ∧ (v 91 4) ≤ 300 := hX_14 91 4
  refine r_iald2 (j := 0) (x := (v 75 ((((s * 9) + c)).toNat))) (pc' := 102) (pc0 := 101) (len := 1) rfl (s_94 _) (by first | assumption | (unfold R32 at *; omega) | omega) (by decide) (by simp [v2_eq]) rfl ?_
  refine r_iast2 (pc' := 103) (pc0 := 102) (len := 1) rfl (s_102 _) (by first | assumption | (unfold R32 at *; omega) | omega) (by decide) rfl ?_
  have hX_16 : XI (v2 (v2 (v2 (v2 (v2 (v2 (v2 v 92 (((v 91 4)).toNat) s) 93 (((v 91 4)).toNat) c) 94 (((v 91 4)).toNat) (v 75 ((((s * 9) + c)).toNat))) 95 (((v 91 4)).toNat) (v 76 ((((s * 9) + c)).toNat))) 96 (((v 91 4)).toNat) (v 77 ((((s * 9) + c)).toNat))) 101 ((c).toNat) s) 102 ((c).toNat) (v 75 ((((s * 9) + c)).toNat))) := XI.put hX_14 (show 0 ≤ (v 75 ((((s * 9) + c)).toNat)) ∧ (v 75 ((((s * 9) + c)).toNat)) ≤ 99 from (by first | assumption | (unfold R32 at *; omega) | omega))
  refine r_ex 7 (pc' := 112) (lo' := [some (.inr (.inr (some 91))), some (.inl s), some (.inl c), some (.inl ((s * 9) + c))]) (st' := [.inl (pm_or (v 91 16) (pm_shl 1 c)), .inr (.inr (some 91))]) rfl ?_
  have hb_17 : 0 ≤ (v 91 16) ∧ (v 91 16) ≤ 511 := hX_16 91 16
  rw [or_eq (x := (v 91 16)) (c := c) (by omega) (by omega)]
  refine r_puti2 (j := 16) (pc' := 115) (pc0 := 112) (len := 3) rfl (s_91 _) rfl rfl rfl (Or.inl rfl) rfl rfl ?_
  have hX_18 : XI (v2 (v2 (v2 (v2 (v2 (v2 (v2 (v2 v 92 (((v 91 4)).toNat) s) 93 (((v 91 4)).toNat) c) 94 (((v 91 4)).toNat) (v 75 ((((s * 9) + c)).toNat))) 95 (((v 91 4)).toNat) (v 76 ((((s * 9) + c)).toNat))) 96 (((v 91 4)).toNat) (v 77 ((((s * 9) + c)).toNat))) 101 ((c).toNat) s) 102 ((c).toNat) (v 75 ((((s * 9) + c)).toNat))) 91 16 (setb (v 91 16) c)) := XI.put hX_16 (show 0 ≤ (setb (v 91 16) c) ∧ (setb (v 91 16) c) ≤ 511 from (by have := setb_in (x := v 91 16) (c := c) (k := 9) (by omega) (by omega); omega))
  refine r_ex 5 (pc' := 122) (lo' := [some (.inr (.inr (some 91))), some (.inl s), some (.inl c), some (.inl ((s * 9) + c))]) (st' := [.inl ((v 91 4) + 1), .inr (.inr (some 91))]) rfl ?_
  have hb_19 : 0 ≤ (v 91 4) ∧ (v 91 4) ≤ 300 := hX_18 91 4
  refine r_puti2 (j := 4) (pc' := 125) (pc0 := 122) (len := 3) rfl (s_91 _) rfl rfl rfl (Or.inl rfl) rfl rfl ?_
  have hX_20 : XI (v2 (v2 (v2 (v2 (v2 (v2 (v2 (v2 (v2 v 92 (((v 91 4)).toNat) s) 93 (((v 91 4)).toNat) c) 94 (((v 91 4)).toNat) (v 75 ((((s * 9) + c)).toNat))) 95 (((v 91 4)).toNat) (v 76 ((((s * 9) + c)).toNat))) 96 (((v 91 4)).toNat) (v 77 ((((s * 9) + c)).toNat))) 101 ((c).toNat) s) 102 ((c).toNat) (v 75 ((((s * 9) + c)).toNat))) 91 16 (setb (v 91 16) c)) 91 4 ((v 91 4) + 1)) := XI.put hX_18 (show 0 ≤ ((v 91 4) + 1) ∧ ((v 91 4) + 1) ≤ 300 from (by first | assumption | (unfold R32 at *; omega) | omega))
  refine r_ex 5 (pc' := 134) (lo' := [some (.inr (.inr (some 91))), some (.inl s), some (.inl c), some (.inl ((s * 9) + c))]) (st' := [.inl (v 67 7), .inl c, .inr (.inr (some 91))]) rfl ?_
  have hb_21 : -1 ≤ (v 67 7) ∧ (v 67 7) ≤ 8 := hX_20 67 7
  refine r_ic_eq (pc0 := 134) (len := 3) (t := 162) rfl (by first | assumption | (unfold R32 at *; omega) | omega) (by first | assumption | (unfold R32 at *; omega) | omega) (fun h_134 => ?_) (fun h_134 => ?_)
  · show WV _ _ _ 162 _ _ _ _ _
    refine r_ex 2 (pc' := 167) (lo' := [some (.inr (.inr (some 91))), some (.inl s), some (.inl c), some (.inl ((s * 9) + c))]) (st' := [.inl 1, .inr (.inr (some 91))]) rfl ?_
    refine r_puti2 (j := 18) (pc' := 170) (pc0 := 167) (len := 3) rfl (s_91 _) rfl rfl rfl (Or.inr rfl) rfl rfl ?_
    have hX_22 : XI (v2 (v2 (v2 (v2 (v2 (v2 (v2 (v2 (v2 (v2 v 92 (((v 91 4)).toNat) s) 93 (((v 91 4)).toNat) c) 94 (((v 91 4)).toNat) (v 75 ((((s * 9) + c)).toNat))) 95 (((v 91 4)).toNat) (v 76 ((((s * 9) + c)).toNat))) 96 (((v 91 4)).toNat) (v 77 ((((s * 9) + c)).toNat))) 101 ((c).toNat) s) 102 ((c).toNat) (v 75 ((((s * 9) + c)).toNat))) 91 16 (setb (v 91 16) c)) 91 4 ((v 91 4) + 1)) 91 18 1) := XI.put hX_20 (show 0 ≤ 1 ∧ 1 ≤ 1 from (by first | assumption | (unfold R32 at *; omega) | omega))
    refine r_ex 6 (pc' := 193) (lo' := [some (.inr (.inr (some 91))), some (.inl s), some (.inl c), some (.inl ((s * 9) + c))]) (st' := [.inl 1, .inr (.inr (some 91))]) rfl ?_
    refine r_puti2 (j := 17) (pc' := 196) (pc0 := 193) (len := 3) rfl (s_91 _) rfl rfl rfl (Or.inr rfl) rfl rfl ?_
    have hX_23 : XI (v2 (v2 (v2 (v2 (v2 (v2 (v2 (v2 (v2 (v2 (v2 v 92 (((v 91 4)).toNat) s) 93 (((v 91 4)).toNat) c) 94 (((v 91 4)).toNat) (v 75 ((((s * 9) + c)).toNat))) 95 (((v 91 4)).toNat) (v 76 ((((s * 9) + c)).toNat))) 96 (((v 91 4)).toNat) (v 77 ((((s * 9) + c)).toNat))) 101 ((c).toNat) s) 102 ((c).toNat) (v 75 ((((s * 9) + c)).toNat))) 91 16 (setb (v 91 16) c)) 91 4 ((v 91 4) + 1)) 91 18 1) 91 17 1) := XI.put hX_22 (show 0 ≤ 1 ∧ 1 ≤ 1 from (by first | assumption | (unfold R32 at *; omega) | omega))
    refine r_ret (rr := none) (I := .return_) (pc0 := 196) (len := 1) rfl rfl ?_
    refine ⟨rfl, rfl, ?_⟩
    simp only [xring, Nat.reduceAdd]
    (first | (rw [if_pos (by omega), if_pos (by omega)]; done) | (rw [if_neg (by omega), if_pos (by omega)]; done) | (rw [if_neg (by omega), if_neg (by omega)]; done))
  · show WV _ _ _ 137 _ _ _ _ _
    refine r_ex 4 (pc' := 145) (lo' := [some (.inr (.inr (some 91))), some (.inl s), some (.inl c), some (.inl ((s * 9) + c))]) (st' := [.inl (v 67 8), .inl s, .inr (.inr (some 91))]) rfl ?_
    have hb_24 : 0 ≤ (v 67 8) ∧ (v 67 8) ≤ 300 := hX_20 67 8
    refine r_ic_ge (pc0 := 145) (len := 3) (t := 162) rfl (by first | assumption | (unfold R32 at *; omega) | omega) (by first | assumption | (unfold R32 at *; omega) | omega) (fun h_145 => ?_) (fun h_145 => ?_)
    · show WV _ _ _ 162 _ _ _ _ _
      refine r_ex 2 (pc' := 167) (lo' := [some (.inr (.inr (some 91))), some (.inl s), some (.inl c), some (.inl ((s * 9) + c))]) (st' := [.inl 1, .inr (.inr (some 91))]) rfl ?_
      refine r_puti2 (j := 18) (pc' := 170) (pc0 := 167) (len := 3) rfl (s_91 _) rfl rfl rfl (Or.inr rfl) rfl rfl ?_
      have hX_25 : XI (v2 (v2 (v2 (v2 (v2 (v2 (v2 (v2 (v2 (v2 v 92 (((v 91 4)).toNat) s) 93 (((v 91 4)).toNat) c) 94 (((v 91 4)).toNat) (v 75 ((((s * 9) + c)).toNat))) 95 (((v 91 4)).toNat) (v 76 ((((s * 9) + c)).toNat))) 96 (((v 91 4)).toNat) (v 77 ((((s * 9) + c)).toNat))) 101 ((c).toNat) s) 102 ((c).toNat) (v 75 ((((s * 9) + c)).toNat))) 91 16 (setb (v 91 16) c)) 91 4 ((v 91 4) + 1)) 91 18 1) := XI.put hX_20 (show 0 ≤ 1 ∧ 1 ≤ 1 from (by first | assumption | (unfold R32 at *; omega) | omega))
      refine r_ex 6 (pc' := 193) (lo' := [some (.inr (.inr (some 91))), some (.inl s), some (.inl c), some (.inl ((s * 9) + c))]) (st' := [.inl 1, .inr (.inr (some 91))]) rfl ?_
      refine r_puti2 (j := 17) (pc' := 196) (pc0 := 193) (len := 3) rfl (s_91 _) rfl rfl rfl (Or.inr rfl) rfl rfl ?_
      have hX_26 : XI (v2 (v2 (v2 (v2 (v2 (v2 (v2 (v2 (v2 (v2 (v2 v 92 (((v 91 4)).toNat) s) 93 (((v 91 4)).toNat) c) 94 (((v 91 4)).toNat) (v 75 ((((s * 9) + c)).toNat))) 95 (((v 91 4)).toNat) (v 76 ((((s * 9) + c)).toNat))) 96 (((v 91 4)).toNat) (v 77 ((((s * 9) + c)).toNat))) 101 ((c).toNat) s) 102 ((c).toNat) (v 75 ((((s * 9) + c)).toNat))) 91 16 (setb (v 91 16) c)) 91 4 ((v 91 4) + 1)) 91 18 1) 91 17 1) := XI.put hX_25 (show 0 ≤ 1 ∧ 1 ≤ 1 from (by first | assumption | (unfold R32 at *; omega) | omega))
      refine r_ret (rr := none) (I := .return_) (pc0 := 196) (len := 1) rfl rfl ?_
      refine ⟨rfl, rfl, ?_⟩
      simp only [xring, Nat.reduceAdd]
      (first | (rw [if_pos (by omega), if_pos (by omega)]; done) | (rw [if_neg (by omega), if_pos (by omega)]; done) | (rw [if_neg (by omega), if_neg (by omega)]; done))
    · show WV _ _ _ 148 _ _ _ _ _
      refine r_ex 5 (pc' := 159) (lo' := [some (.inr (.inr (some 91))), some (.inl s), some (.inl c), some (.inl ((s * 9) + c))]) (st' := [.inl (v 67 9), .inl ((v 91 4) + 1), .inr (.inr (some 91))]) rfl ?_
      have hb_27 : 0 ≤ ((v 91 4) + 1) ∧ ((v 91 4) + 1) ≤ 300 := hX_20 91 4
      have hb_28 : 0 ≤ (v 67 9) ∧ (v 67 9) ≤ 300 := hX_20 67 9
      refine r_ic_le (pc0 := 159) (len := 3) (t := 166) rfl (by first | assumption | (unfold R32 at *; omega) | omega) (by first | assumption | (unfold R32 at *; omega) | omega) (fun h_159 => ?_) (fun h_159 => ?_)
      · show WV _ _ _ 166 _ _ _ _ _
        refine r_ex 1 (pc' := 167) (lo' := [some (.inr (.inr (some 91))), some (.inl s), some (.inl c), some (.inl ((s * 9) + c))]) (st' := [.inl 0, .inr (.inr (some 91))]) rfl ?_
        refine r_puti2 (j := 18) (pc' := 170) (pc0 := 167) (len := 3) rfl (s_91 _) rfl rfl rfl (Or.inr rfl) rfl rfl ?_
        have hX_29 : XI (v2 (v2 (v2 (v2 (v2 (v2 (v2 (v2 (v2 (v2 v 92 (((v 91 4)).toNat) s) 93 (((v 91 4)).toNat) c) 94 (((v 91 4)).toNat) (v 75 ((((s * 9) + c)).toNat))) 95 (((v 91 4)).toNat) (v 76 ((((s * 9) + c)).toNat))) 96 (((v 91 4)).toNat) (v 77 ((((s * 9) + c)).toNat))) 101 ((c).toNat) s) 102 ((c).toNat) (v 75 ((((s * 9) + c)).toNat))) 91 16 (setb (v 91 16) c)) 91 4 ((v 91 4) + 1)) 91 18 0) := XI.put hX_20 (show 0 ≤ 0 ∧ 0 ≤ 1 from (by first | assumption | (unfold R32 at *; omega) | omega))
        refine r_ex 7 (pc' := 185) (lo' := [some (.inr (.inr (some 91))), some (.inl s), some (.inl c), some (.inl ((s * 9) + c))]) (st' := [.inl 300, .inl ((v 91 4) + 1), .inr (.inr (some 91))]) rfl ?_
        have hb_30 : 0 ≤ ((v 91 4) + 1) ∧ ((v 91 4) + 1) ≤ 300 := hX_29 91 4
        refine r_ic_lt (pc0 := 185) (len := 3) (t := 192) rfl (by first | assumption | (unfold R32 at *; omega) | omega) (by first | assumption | (unfold R32 at *; omega) | omega) (fun h_185 => ?_) (fun h_185 => ?_)
        · show WV _ _ _ 192 _ _ _ _ _
          refine r_ex 1 (pc' := 193) (lo' := [some (.inr (.inr (some 91))), some (.inl s), some (.inl c), some (.inl ((s * 9) + c))]) (st' := [.inl 0, .inr (.inr (some 91))]) rfl ?_
          refine r_puti2 (j := 17) (pc' := 196) (pc0 := 193) (len := 3) rfl (s_91 _) rfl rfl rfl (Or.inr rfl) rfl rfl ?_
          have hX_31 : XI (v2 (v2 (v2 (v2 (v2 (v2 (v2 (v2 (v2 (v2 (v2 v 92 (((v 91 4)).toNat) s) 93 (((v 91 4)).toNat) c) 94 (((v 91 4)).toNat) (v 75 ((((s * 9) + c)).toNat))) 95 (((v 91 4)).toNat) (v 76 ((((s * 9) + c)).toNat))) 96 (((v 91 4)).toNat) (v 77 ((((s * 9) + c)).toNat))) 101 ((c).toNat) s) 102 ((c).toNat) (v 75 ((((s * 9) + c)).toNat))) 91 16 (setb (v 91 16) c)) 91 4 ((v 91 4) + 1)) 91 18 0) 91 17 0) := XI.put hX_29 (show 0 ≤ 0 ∧ 0 ≤ 1 from (by first | assumption | (unfold R32 at *; omega) | omega))
          refine r_ret (rr := none) (I := .return_) (pc0 := 196) (len := 1) rfl rfl ?_
          refine ⟨rfl, rfl, ?_⟩
          simp only [xring, Nat.reduceAdd]
          (first | (rw [if_pos (by omega), if_pos (by omega)]; done) | (rw [if_neg (by omega), if_pos (by omega)]; done) | (rw [if_neg (by omega), if_neg (by omega)]; done))
        · show WV _ _ _ 188 _ _ _ _ _
          refine r_ex 2 (pc' := 193) (lo' := [some (.inr (.inr (some 91))), some (.inl s), some (.inl c), some (.inl ((s * 9) + c))]) (st' := [.inl 1, .inr (.inr (some 91))]) rfl ?_
          refine r_puti2 (j := 17) (pc' := 196) (pc0 := 193) (len := 3) rfl (s_91 _) rfl rfl rfl (Or.inr rfl) rfl rfl ?_
          have hX_32 : XI (v2 (v2 (v2 (v2 (v2 (v2 (v2 (v2 (v2 (v2 (v2 v 92 (((v 91 4)).toNat) s) 93 (((v 91 4)).toNat) c) 94 (((v 91 4)).toNat) (v 75 ((((s * 9) + c)).toNat))) 95 (((v 91 4)).toNat) (v 76 ((((s * 9) + c)).toNat))) 96 (((v 91 4)).toNat) (v 77 ((((s * 9) + c)).toNat))) 101 ((c).toNat) s) 102 ((c).toNat) (v 75 ((((s * 9) + c)).toNat))) 91 16 (setb (v 91 16) c)) 91 4 ((v 91 4) + 1)) 91 18 0) 91 17 1) := XI.put hX_29 (show 0 ≤ 1 ∧ 1 ≤ 1 from (by first | assumption | (unfold R32 at *; omega) | omega))
          refine r_ret (rr := none) (I := .return_) (pc0 := 196) (len := 1) rfl rfl ?_
          refine ⟨rfl, rfl, ?_⟩
          simp only [xring, Nat.reduceAdd]
          (first | (rw [if_pos (by omega), if_pos (by omega)]; done) | (rw [if_neg (by omega), if_pos (by omega)]; done) | (rw [if_neg (by omega), if_neg (by omega)]; done))
      · show WV _ _ _ 162 _ _ _ _ _
        refine r_ex 2 (pc' := 167) (lo' := [some (.inr (.inr (some 91))), some (.inl s), some (.inl c), some (.inl ((s * 9) + c))]) (st' := [.inl 1, .inr (.inr (some 91))]) rfl ?_
        refine r_puti2 (j := 18) (pc' := 170) (pc0 := 167) (len := 3) rfl (s_91 _) rfl rfl rfl (Or.inr rfl) rfl rfl ?_
        have hX_33 : XI (v2 (v2 (v2 (v2 (v2 (v2 (v2 (v2 (v2 (v2 v 92 (((v 91 4)).toNat) s) 93 (((v 91 4)).toNat) c) 94 (((v 91 4)).toNat) (v 75 ((((s * 9) + c)).toNat))) 95 (((v 91 4)).toNat) (v 76 ((((s * 9) + c)).toNat))) 96 (((v 91 4)).toNat) (v 77 ((((s * 9) + c)).toNat))) 101 ((c).toNat) s) 102 ((c).toNat) (v 75 ((((s * 9) + c)).toNat))) 91 16 (setb (v 91 16) c)) 91 4 ((v 91 4) + 1)) 91 18 1) := XI.put hX_20 (show 0 ≤ 1 ∧ 1 ≤ 1 from (by first | assumption | (unfold R32 at *; omega) | omega))
        refine r_ex 6 (pc' := 193) (lo' := [some (.inr (.inr (some 91))), some (.inl s), some (.inl c), some (.inl ((s * 9) + c))]) (st' := [.inl 1, .inr (.inr (some 91))]) rfl ?_
        refine r_puti2 (j := 17) (pc' := 196) (pc0 := 193) (len := 3) rfl (s_91 _) rfl rfl rfl (Or.inr rfl) rfl rfl ?_
        have hX_34 : XI (v2 (v2 (v2 (v2 (v2 (v2 (v2 (v2 (v2 (v2 (v2 v 92 (((v 91 4)).toNat) s) 93 (((v 91 4)).toNat) c) 94 (((v 91 4)).toNat) (v 75 ((((s * 9) + c)).toNat))) 95 (((v 91 4)).toNat) (v 76 ((((s * 9) + c)).toNat))) 96 (((v 91 4)).toNat) (v 77 ((((s * 9) + c)).toNat))) 101 ((c).toNat) s) 102 ((c).toNat) (v 75 ((((s * 9) + c)).toNat))) 91 16 (setb (v 91 16) c)) 91 4 ((v 91 4) + 1)) 91 18 1) 91 17 1) := XI.put hX_33 (show 0 ≤ 1 ∧ 1 ≤ 1 from (by first | assumption | (unfold R32 at *; omega) | omega))
        refine r_ret (rr := none) (I := .return_) (pc0 := 196) (len := 1) rfl rfl ?_
        refine ⟨rfl, rfl, ?_⟩
        simp only [xring, Nat.reduceAdd]
        (first | (rw [if_pos (by omega), if_pos (by omega)]; done) | (rw [if_neg (by omega), if_pos (by omega)]; done) | (rw [if_neg (by omega), if_neg (by omega)]; done))

theorem x_hear91 {X : PX} {d b : Nat} {v : VS} {i e t l : Int} (hX : XI v) (hi : 0 ≤ i ∧ i < 300) (he : 0 ≤ e ∧ e < 12) (ht : 0 ≤ t ∧ t < 300) (hl : 0 ≤ l ∧ l < 9) : EvV X (d + 1 + 1) 84 [.inr (.inr (some 91)), .inl i, .inl e, .inl t, .inl l] b v (none) b (xhear 91 v i e t l) := by
  refine EvV.of ?_
  show WV _ _ _ 0 [some (.inr (.inr (some 91))), some (.inl i), some (.inl e), some (.inl t), some (.inl l), none, none] [] _ _ _
  refine r_ex 4 (pc' := 8) (lo' := [some (.inr (.inr (some 91))), some (.inl i), some (.inl e), some (.inl t), some (.inl l), none, none]) (st' := [.inl 2, .inl (v 67 4)]) rfl ?_
  have hb_1 : -1 ≤ (v 67 4) ∧ (v 67 4) ≤ 6 := hX 67 4
  refine r_ic_ne (pc0 := 8) (len := 3) (t := 15) rfl (by first | assumption | (unfold R32 at *; omega) | omega) (by first | assumption | (unfold R32 at *; omega) | omega) (fun h_8 => ?_) (fun h_8 => ?_)
  · show WV _ _ _ 15 _ _ _ _ _
    refine r_ex 4 (pc' := 23) (lo' := [some (.inr (.inr (some 91))), some (.inl i), some (.inl e), some (.inl t), some (.inl l), none, none]) (st' := [.inl t, .inr (.inr (some 66))]) rfl ?_
    refine r_iald2 (j := 0) (x := (v 66 ((t).toNat))) (pc' := 24) (pc0 := 23) (len := 1) rfl (s_66 _) (by first | assumption | (unfold R32 at *; omega) | omega) (by decide) rfl rfl ?_
    have hb_2 : 0 ≤ (v 66 ((t).toNat)) ∧ (v 66 ((t).toNat)) ≤ 511 := hX 66 ((t).toNat)
    refine r_ex 1 (pc' := 26) (lo' := [some (.inr (.inr (some 91))), some (.inl i), some (.inl e), some (.inl t), some (.inl l), none, none]) (st' := [.inl l, .inl (v 66 ((t).toNat))]) rfl ?_
    refine r_call (m := 63) (args := [.inl (v 66 ((t).toNat)), .inl l]) (n' := 84) (pc' := 29) (lo' := [some (.inr (.inr (some 91))), some (.inl i), some (.inl e), some (.inl t), some (.inl l), none, none]) (st' := []) (I := .invokestatic 63) (pc0 := 26) (len := 3) rfl rfl rfl (x_bitb (by omega) (by omega)) ?_
    show WV _ _ _ 29 _ [.inl (bt (v 66 ((t).toNat)) l)] _ v _
    have hb_3 := bt01 (v 66 ((t).toNat)) l
    refine r_ex 6 (pc' := 41) (lo' := [some (.inr (.inr (some 91))), some (.inl i), some (.inl e), some (.inl t), some (.inl l), some (.inl (bt (v 66 ((t).toNat)) l)), none]) (st' := [.inl 6, .inl (v 67 4), .inl t]) rfl ?_
    have hb_4 : -1 ≤ (v 67 4) ∧ (v 67 4) ≤ 6 := hX 67 4
    refine r_ic_ne (pc0 := 41) (len := 3) (t := 48) rfl (by first | assumption | (unfold R32 at *; omega) | omega) (by first | assumption | (unfold R32 at *; omega) | omega) (fun h_41 => ?_) (fun h_41 => ?_)
    · show WV _ _ _ 48 _ _ _ _ _
      refine r_ex 4 (pc' := 57) (lo' := [some (.inr (.inr (some 91))), some (.inl i), some (.inl e), some (.inl t), some (.inl l), some (.inl (bt (v 66 ((t).toNat)) l)), none]) (st' := [.inl l, .inr (.inr (some 35)), .inl t]) rfl ?_
      refine r_iald2 (j := 0) (x := (v 35 ((l).toNat))) (pc' := 58) (pc0 := 57) (len := 1) rfl (s_35 _) (by first | assumption | (unfold R32 at *; omega) | omega) (by decide) rfl rfl ?_
      have hb_5 : 0 ≤ (v 35 ((l).toNat)) ∧ (v 35 ((l).toNat)) ≤ 60 := hX 35 ((l).toNat)
      refine r_ex 5 (pc' := 66) (lo' := [some (.inr (.inr (some 91))), some (.inl i), some (.inl e), some (.inl t), some (.inl l), some (.inl (bt (v 66 ((t).toNat)) l)), some (.inl (t + (v 35 ((l).toNat))))]) (st' := [.inl i, .inr (.inr (some 94))]) rfl ?_
      refine r_iald2 (j := 0) (x := (v 94 ((i).toNat))) (pc' := 67) (pc0 := 66) (len := 1) rfl (s_94 _) (by first | assumption | (unfold R32 at *; omega) | omega) (by decide) rfl rfl ?_
      have hb_6 : 0 ≤ (v 94 ((i).toNat)) ∧ (v 94 ((i).toNat)) ≤ 99 := hX 94 ((i).toNat)
      refine r_ex 3 (pc' := 72) (lo' := [some (.inr (.inr (some 91))), some (.inl i), some (.inl e), some (.inl t), some (.inl l), some (.inl (bt (v 66 ((t).toNat)) l)), some (.inl (t + (v 35 ((l).toNat))))]) (st' := [.inl 99, .inl ((v 94 ((i).toNat)) + (bt (v 66 ((t).toNat)) l))]) rfl ?_
      refine r_ic_le (pc0 := 72) (len := 3) (t := 89) rfl (by first | assumption | (unfold R32 at *; omega) | omega) (by first | assumption | (unfold R32 at *; omega) | omega) (fun h_72 => ?_) (fun h_72 => ?_)
      · show WV _ _ _ 89 _ _ _ _ _
        refine r_ex 4 (pc' := 98) (lo' := [some (.inr (.inr (some 91))), some (.inl i), some (.inl e), some (.inl t), some (.inl l), some (.inl (bt (v 66 ((t).toNat)) l)), some (.inl (t + (v 35 ((l).toNat))))]) (st' := [.inl (v 33 1), .inl (t + (v 35 ((l).toNat)))]) rfl ?_
        have hb_7 : 0 ≤ (v 33 1) ∧ (v 33 1) ≤ 300 := hX 33 1
        refine r_ic_lt (pc0 := 98) (len := 3) (t := 114) rfl (by first | assumption | (unfold R32 at *; omega) | omega) (by first | assumption | (unfold R32 at *; omega) | omega) (fun h_98 => ?_) (fun h_98 => ?_)
        · show WV _ _ _ 114 _ _ _ _ _
          refine r_ex 4 (pc' := 120) (lo' := [some (.inr (.inr (some 91))), some (.inl i), some (.inl e), some (.inl t), some (.inl l), some (.inl (bt (v 66 ((t).toNat)) l)), some (.inl (t + (v 35 ((l).toNat))))]) (st' := [.inl e, .inr (.inr (some 99)), .inl e, .inr (.inr (some 99))]) rfl ?_
          refine r_iald2 (j := 0) (x := (v 99 ((e).toNat))) (pc' := 121) (pc0 := 120) (len := 1) rfl (s_99 _) (by first | assumption | (unfold R32 at *; omega) | omega) (by decide) rfl rfl ?_
          refine r_ex 2 (pc' := 123) (lo' := [some (.inr (.inr (some 91))), some (.inl i), some (.inl e), some (.inl t), some (.inl l), some (.inl (bt (v 66 ((t).toNat)) l)), some (.inl (t + (v 35 ((l).toNat))))]) (st' := [.inl ((v 99 ((e).toNat)) + 1), .inl e, .inr (.inr (some 99))]) rfl ?_
          refine r_iast2 (pc' := 124) (pc0 := 123) (len := 1) rfl (s_99 _) (by first | assumption | (unfold R32 at *; omega) | omega) (by decide) rfl ?_
          have hX_8 : XI (v2 v 99 ((e).toNat) ((v 99 ((e).toNat)) + 1)) := XI.put hX trivial
          refine r_ex 7 (pc' := 137) (lo' := [some (.inr (.inr (some 91))), some (.inl i), some (.inl e), some (.inl t), some (.inl l), some (.inl (bt (v 66 ((t).toNat)) l)), some (.inl (t + (v 35 ((l).toNat))))]) (st' := [.inl i, .inr (.inr (some 94)), .inl l, .inl (t + (v 35 ((l).toNat))), .inr (.inr (some 73))]) rfl ?_
          refine r_iald2 (j := 0) (x := (v 94 ((i).toNat))) (pc' := 138) (pc0 := 137) (len := 1) rfl (s_94 _) (by first | assumption | (unfold R32 at *; omega) | omega) (by decide) rfl rfl ?_
          have hb_9 : 0 ≤ (v 94 ((i).toNat)) ∧ (v 94 ((i).toNat)) ≤ 99 := hX_8 94 ((i).toNat)
          refine r_ex 4 (pc' := 143) (lo' := [some (.inr (.inr (some 91))), some (.inl i), some (.inl e), some (.inl t), some (.inl l), some (.inl (bt (v 66 ((t).toNat)) l)), some (.inl (t + (v 35 ((l).toNat))))]) (st' := [.inl e, .inl i, .inl ((v 94 ((i).toNat)) + (bt (v 66 ((t).toNat)) l)), .inl l, .inl (t + (v 35 ((l).toNat))), .inr (.inr (some 73))]) rfl ?_
          refine r_call (m := 77) (args := [.inr (.inr (some 73)), .inl (t + (v 35 ((l).toNat))), .inl l, .inl ((v 94 ((i).toNat)) + (bt (v 66 ((t).toNat)) l)), .inl i, .inl e]) (n' := 84) (pc' := 146) (lo' := [some (.inr (.inr (some 91))), some (.inl i), some (.inl e), some (.inl t), some (.inl l), some (.inl (bt (v 66 ((t).toNat)) l)), some (.inl (t + (v 35 ((l).toNat))))]) (st' := []) (I := .invokevirtual 77) (pc0 := 143) (len := 3) rfl rfl rfl (x_put hX_8 (by omega) (by omega) (by omega) (by omega) (by omega)) ?_
          show WV _ _ _ 146 _ [] _ (xput (v2 v 99 ((e).toNat) ((v 99 ((e).toNat)) + 1)) (t + (v 35 ((l).toNat))) l ((v 94 ((i).toNat)) + (bt (v 66 ((t).toNat)) l)) i e) _
          have hXput := XI_put (s := (t + (v 35 ((l).toNat)))) (c := l) (h := ((v 94 ((i).toNat)) + (bt (v 66 ((t).toNat)) l))) (y := i) (e := e) hX_8 (by omega) (by omega) (by omega) (by omega) (by omega)
          refine r_ret (rr := none) (I := .return_) (pc0 := 146) (len := 1) rfl rfl ?_
          refine ⟨rfl, rfl, ?_⟩
          simp only [xhear, Nat.reduceAdd]
          (first | rw [show xmore v t l = 0 from by unfold xmore; rw [if_pos (by omega)]] | rw [show xmore v t l = bt (v 66 t.toNat) l from by unfold xmore; rw [if_neg (by omega)]])
          (first | rw [show xdue v t l = t + 0 from by unfold xdue; rw [if_pos (by omega)]] | rw [show xdue v t l = t + v 35 l.toNat from by unfold xdue; rw [if_neg (by omega)]])
          (first | (rw [if_pos (by omega)]; done) | (rw [if_neg (by omega), if_pos (by omega)]; done) | (rw [if_neg (by omega), if_neg (by omega)]; done))
        · show WV _ _ _ 101 _ _ _ _ _
          refine r_ex 4 (pc' := 107) (lo' := [some (.inr (.inr (some 91))), some (.inl i), some (.inl e), some (.inl t), some (.inl l), some (.inl (bt (v 66 ((t).toNat)) l)), some (.inl (t + (v 35 ((l).toNat))))]) (st' := [.inl 5, .inr (.inr (some 97)), .inl 5, .inr (.inr (some 97))]) rfl ?_
          refine r_iald2 (j := 0) (x := (v 97 5)) (pc' := 108) (pc0 := 107) (len := 1) rfl (s_97 _) (by first | assumption | (unfold R32 at *; omega) | omega) (by decide) rfl rfl ?_
          refine r_ex 2 (pc' := 110) (lo' := [some (.inr (.inr (some 91))), some (.inl i), some (.inl e), some (.inl t), some (.inl l), some (.inl (bt (v 66 ((t).toNat)) l)), some (.inl (t + (v 35 ((l).toNat))))]) (st' := [.inl ((v 97 5) + 1), .inl 5, .inr (.inr (some 97))]) rfl ?_
          refine r_iast2 (pc' := 111) (pc0 := 110) (len := 1) rfl (s_97 _) (by first | assumption | (unfold R32 at *; omega) | omega) (by decide) rfl ?_
          have hX_10 : XI (v2 v 97 5 ((v 97 5) + 1)) := XI.put hX trivial
          show WV _ _ _ 111 _ _ _ (v2 v 97 5 ((v 97 5) + 1)) _
          refine r_ex 1 (pc' := 146) (lo' := [some (.inr (.inr (some 91))), some (.inl i), some (.inl e), some (.inl t), some (.inl l), some (.inl (bt (v 66 ((t).toNat)) l)), some (.inl (t + (v 35 ((l).toNat))))]) (st' := []) rfl ?_
          refine r_ret (rr := none) (I := .return_) (pc0 := 146) (len := 1) rfl rfl ?_
          refine ⟨rfl, rfl, ?_⟩
          simp only [xhear, Nat.reduceAdd]
          (first | rw [show xmore v t l = 0 from by unfold xmore; rw [if_pos (by omega)]] | rw [show xmore v t l = bt (v 66 t.toNat) l from by unfold xmore; rw [if_neg (by omega)]])
          (first | rw [show xdue v t l = t + 0 from by unfold xdue; rw [if_pos (by omega)]] | rw [show xdue v t l = t + v 35 l.toNat from by unfold xdue; rw [if_neg (by omega)]])
          (first | (rw [if_pos (by omega)]; done) | (rw [if_neg (by omega), if_pos (by omega)]; done) | (rw [if_neg (by omega), if_neg (by omega)]; done))
      · show WV _ _ _ 75 _ _ _ _ _
        refine r_ex 4 (pc' := 82) (lo' := [some (.inr (.inr (some 91))), some (.inl i), some (.inl e), some (.inl t), some (.inl l), some (.inl (bt (v 66 ((t).toNat)) l)), some (.inl (t + (v 35 ((l).toNat))))]) (st' := [.inl 6, .inr (.inr (some 97)), .inl 6, .inr (.inr (some 97))]) rfl ?_
        refine r_iald2 (j := 0) (x := (v 97 6)) (pc' := 83) (pc0 := 82) (len := 1) rfl (s_97 _) (by first | assumption | (unfold R32 at *; omega) | omega) (by decide) rfl rfl ?_
        refine r_ex 2 (pc' := 85) (lo' := [some (.inr (.inr (some 91))), some (.inl i), some (.inl e), some (.inl t), some (.inl l), some (.inl (bt (v 66 ((t).toNat)) l)), some (.inl (t + (v 35 ((l).toNat))))]) (st' := [.inl ((v 97 6) + 1), .inl 6, .inr (.inr (some 97))]) rfl ?_
        refine r_iast2 (pc' := 86) (pc0 := 85) (len := 1) rfl (s_97 _) (by first | assumption | (unfold R32 at *; omega) | omega) (by decide) rfl ?_
        have hX_11 : XI (v2 v 97 6 ((v 97 6) + 1)) := XI.put hX trivial
        show WV _ _ _ 86 _ _ _ (v2 v 97 6 ((v 97 6) + 1)) _
        refine r_ex 1 (pc' := 146) (lo' := [some (.inr (.inr (some 91))), some (.inl i), some (.inl e), some (.inl t), some (.inl l), some (.inl (bt (v 66 ((t).toNat)) l)), some (.inl (t + (v 35 ((l).toNat))))]) (st' := []) rfl ?_
        refine r_ret (rr := none) (I := .return_) (pc0 := 146) (len := 1) rfl rfl ?_
        refine ⟨rfl, rfl, ?_⟩
        simp only [xhear, Nat.reduceAdd]
        (first | rw [show xmore v t l = 0 from by unfold xmore; rw [if_pos (by omega)]] | rw [show xmore v t l = bt (v 66 t.toNat) l from by unfold xmore; rw [if_neg (by omega)]])
        (first | rw [show xdue v t l = t + 0 from by unfold xdue; rw [if_pos (by omega)]] | rw [show xdue v t l = t + v 35 l.toNat from by unfold xdue; rw [if_neg (by omega)]])
        (first | (rw [if_pos (by omega)]; done) | (rw [if_neg (by omega), if_pos (by omega)]; done) | (rw [if_neg (by omega), if_neg (by omega)]; done))
    · show WV _ _ _ 44 _ _ _ _ _
      refine r_ex 7 (pc' := 66) (lo' := [some (.inr (.inr (some 91))), some (.inl i), some (.inl e), some (.inl t), some (.inl l), some (.inl (bt (v 66 ((t).toNat)) l)), some (.inl (t + 0))]) (st' := [.inl i, .inr (.inr (some 94))]) rfl ?_
      refine r_iald2 (j := 0) (x := (v 94 ((i).toNat))) (pc' := 67) (pc0 := 66) (len := 1) rfl (s_94 _) (by first | assumption | (unfold R32 at *; omega) | omega) (by decide) rfl rfl ?_
      have hb_12 : 0 ≤ (v 94 ((i).toNat)) ∧ (v 94 ((i).toNat)) ≤ 99 := hX 94 ((i).toNat)
      refine r_ex 3 (pc' := 72) (lo' := [some (.inr (.inr (some 91))), some (.inl i), some (.inl e), some (.inl t), some (.inl l), some (.inl (bt (v 66 ((t).toNat)) l)), some (.inl (t + 0))]) (st' := [.inl 99, .inl ((v 94 ((i).toNat)) + (bt (v 66 ((t).toNat)) l))]) rfl ?_
      refine r_ic_le (pc0 := 72) (len := 3) (t := 89) rfl (by first | assumption | (unfold R32 at *; omega) | omega) (by first | assumption | (unfold R32 at *; omega) | omega) (fun h_72 => ?_) (fun h_72 => ?_)
      · show WV _ _ _ 89 _ _ _ _ _
        refine r_ex 4 (pc' := 98) (lo' := [some (.inr (.inr (some 91))), some (.inl i), some (.inl e), some (.inl t), some (.inl l), some (.inl (bt (v 66 ((t).toNat)) l)), some (.inl (t + 0))]) (st' := [.inl (v 33 1), .inl (t + 0)]) rfl ?_
        have hb_13 : 0 ≤ (v 33 1) ∧ (v 33 1) ≤ 300 := hX 33 1
        refine r_ic_lt (pc0 := 98) (len := 3) (t := 114) rfl (by first | assumption | (unfold R32 at *; omega) | omega) (by first | assumption | (unfold R32 at *; omega) | omega) (fun h_98 => ?_) (fun h_98 => ?_)
        · show WV _ _ _ 114 _ _ _ _ _
          refine r_ex 4 (pc' := 120) (lo' := [some (.inr (.inr (some 91))), some (.inl i), some (.inl e), some (.inl t), some (.inl l), some (.inl (bt (v 66 ((t).toNat)) l)), some (.inl (t + 0))]) (st' := [.inl e, .inr (.inr (some 99)), .inl e, .inr (.inr (some 99))]) rfl ?_
          refine r_iald2 (j := 0) (x := (v 99 ((e).toNat))) (pc' := 121) (pc0 := 120) (len := 1) rfl (s_99 _) (by first | assumption | (unfold R32 at *; omega) | omega) (by decide) rfl rfl ?_
          refine r_ex 2 (pc' := 123) (lo' := [some (.inr (.inr (some 91))), some (.inl i), some (.inl e), some (.inl t), some (.inl l), some (.inl (bt (v 66 ((t).toNat)) l)), some (.inl (t + 0))]) (st' := [.inl ((v 99 ((e).toNat)) + 1), .inl e, .inr (.inr (some 99))]) rfl ?_
          refine r_iast2 (pc' := 124) (pc0 := 123) (len := 1) rfl (s_99 _) (by first | assumption | (unfold R32 at *; omega) | omega) (by decide) rfl ?_
          have hX_14 : XI (v2 v 99 ((e).toNat) ((v 99 ((e).toNat)) + 1)) := XI.put hX trivial
          refine r_ex 7 (pc' := 137) (lo' := [some (.inr (.inr (some 91))), some (.inl i), some (.inl e), some (.inl t), some (.inl l), some (.inl (bt (v 66 ((t).toNat)) l)), some (.inl (t + 0))]) (st' := [.inl i, .inr (.inr (some 94)), .inl l, .inl (t + 0), .inr (.inr (some 73))]) rfl ?_
          refine r_iald2 (j := 0) (x := (v 94 ((i).toNat))) (pc' := 138) (pc0 := 137) (len := 1) rfl (s_94 _) (by first | assumption | (unfold R32 at *; omega) | omega) (by decide) rfl rfl ?_
          have hb_15 : 0 ≤ (v 94 ((i).toNat)) ∧ (v 94 ((i).toNat)) ≤ 99 := hX_14 94 ((i).toNat)
          refine r_ex 4 (pc' := 143) (lo' := [some (.inr (.inr (some 91))), some (.inl i), some (.inl e), some (.inl t), some (.inl l), some (.inl (bt (v 66 ((t).toNat)) l)), some (.inl (t + 0))]) (st' := [.inl e, .inl i, .inl ((v 94 ((i).toNat)) + (bt (v 66 ((t).toNat)) l)), .inl l, .inl (t + 0), .inr (.inr (some 73))]) rfl ?_
          refine r_call (m := 77) (args := [.inr (.inr (some 73)), .inl (t + 0), .inl l, .inl ((v 94 ((i).toNat)) + (bt (v 66 ((t).toNat)) l)), .inl i, .inl e]) (n' := 84) (pc' := 146) (lo' := [some (.inr (.inr (some 91))), some (.inl i), some (.inl e), some (.inl t), some (.inl l), some (.inl (bt (v 66 ((t).toNat)) l)), some (.inl (t + 0))]) (st' := []) (I := .invokevirtual 77) (pc0 := 143) (len := 3) rfl rfl rfl (x_put hX_14 (by omega) (by omega) (by omega) (by omega) (by omega)) ?_
          show WV _ _ _ 146 _ [] _ (xput (v2 v 99 ((e).toNat) ((v 99 ((e).toNat)) + 1)) (t + 0) l ((v 94 ((i).toNat)) + (bt (v 66 ((t).toNat)) l)) i e) _
          have hXput := XI_put (s := (t + 0)) (c := l) (h := ((v 94 ((i).toNat)) + (bt (v 66 ((t).toNat)) l))) (y := i) (e := e) hX_14 (by omega) (by omega) (by omega) (by omega) (by omega)
          refine r_ret (rr := none) (I := .return_) (pc0 := 146) (len := 1) rfl rfl ?_
          refine ⟨rfl, rfl, ?_⟩
          simp only [xhear, Nat.reduceAdd]
          (first | rw [show xmore v t l = 0 from by unfold xmore; rw [if_pos (by omega)]] | rw [show xmore v t l = bt (v 66 t.toNat) l from by unfold xmore; rw [if_neg (by omega)]])
          (first | rw [show xdue v t l = t + 0 from by unfold xdue; rw [if_pos (by omega)]] | rw [show xdue v t l = t + v 35 l.toNat from by unfold xdue; rw [if_neg (by omega)]])
          (first | (rw [if_pos (by omega)]; done) | (rw [if_neg (by omega), if_pos (by omega)]; done) | (rw [if_neg (by omega), if_neg (by omega)]; done))
        · show WV _ _ _ 101 _ _ _ _ _
          refine r_ex 4 (pc' := 107) (lo' := [some (.inr (.inr (some 91))), some (.inl i), some (.inl e), some (.inl t), some (.inl l), some (.inl (bt (v 66 ((t).toNat)) l)), some (.inl (t + 0))]) (st' := [.inl 5, .inr (.inr (some 97)), .inl 5, .inr (.inr (some 97))]) rfl ?_
          refine r_iald2 (j := 0) (x := (v 97 5)) (pc' := 108) (pc0 := 107) (len := 1) rfl (s_97 _) (by first | assumption | (unfold R32 at *; omega) | omega) (by decide) rfl rfl ?_
          refine r_ex 2 (pc' := 110) (lo' := [some (.inr (.inr (some 91))), some (.inl i), some (.inl e), some (.inl t), some (.inl l), some (.inl (bt (v 66 ((t).toNat)) l)), some (.inl (t + 0))]) (st' := [.inl ((v 97 5) + 1), .inl 5, .inr (.inr (some 97))]) rfl ?_
          refine r_iast2 (pc' := 111) (pc0 := 110) (len := 1) rfl (s_97 _) (by first | assumption | (unfold R32 at *; omega) | omega) (by decide) rfl ?_
          have hX_16 : XI (v2 v 97 5 ((v 97 5) + 1)) := XI.put hX trivial
          show WV _ _ _ 111 _ _ _ (v2 v 97 5 ((v 97 5) + 1)) _
          refine r_ex 1 (pc' := 146) (lo' := [some (.inr (.inr (some 91))), some (.inl i), some (.inl e), some (.inl t), some (.inl l), some (.inl (bt (v 66 ((t).toNat)) l)), some (.inl (t + 0))]) (st' := []) rfl ?_
          refine r_ret (rr := none) (I := .return_) (pc0 := 146) (len := 1) rfl rfl ?_
          refine ⟨rfl, rfl, ?_⟩
          simp only [xhear, Nat.reduceAdd]
          (first | rw [show xmore v t l = 0 from by unfold xmore; rw [if_pos (by omega)]] | rw [show xmore v t l = bt (v 66 t.toNat) l from by unfold xmore; rw [if_neg (by omega)]])
          (first | rw [show xdue v t l = t + 0 from by unfold xdue; rw [if_pos (by omega)]] | rw [show xdue v t l = t + v 35 l.toNat from by unfold xdue; rw [if_neg (by omega)]])
          (first | (rw [if_pos (by omega)]; done) | (rw [if_neg (by omega), if_pos (by omega)]; done) | (rw [if_neg (by omega), if_neg (by omega)]; done))
      · show WV _ _ _ 75 _ _ _ _ _
        refine r_ex 4 (pc' := 82) (lo' := [some (.inr (.inr (some 91))), some (.inl i), some (.inl e), some (.inl t), some (.inl l), some (.inl (bt (v 66 ((t).toNat)) l)), some (.inl (t + 0))]) (st' := [.inl 6, .inr (.inr (some 97)), .inl 6, .inr (.inr (some 97))]) rfl ?_
        refine r_iald2 (j := 0) (x := (v 97 6)) (pc' := 83) (pc0 := 82) (len := 1) rfl (s_97 _) (by first | assumption | (unfold R32 at *; omega) | omega) (by decide) rfl rfl ?_
        refine r_ex 2 (pc' := 85) (lo' := [some (.inr (.inr (some 91))), some (.inl i), some (.inl e), some (.inl t), some (.inl l), some (.inl (bt (v 66 ((t).toNat)) l)), some (.inl (t + 0))]) (st' := [.inl ((v 97 6) + 1), .inl 6, .inr (.inr (some 97))]) rfl ?_
        refine r_iast2 (pc' := 86) (pc0 := 85) (len := 1) rfl (s_97 _) (by first | assumption | (unfold R32 at *; omega) | omega) (by decide) rfl ?_
        have hX_17 : XI (v2 v 97 6 ((v 97 6) + 1)) := XI.put hX trivial
        show WV _ _ _ 86 _ _ _ (v2 v 97 6 ((v 97 6) + 1)) _
        refine r_ex 1 (pc' := 146) (lo' := [some (.inr (.inr (some 91))), some (.inl i), some (.inl e), some (.inl t), some (.inl l), some (.inl (bt (v 66 ((t).toNat)) l)), some (.inl (t + 0))]) (st' := []) rfl ?_
        refine r_ret (rr := none) (I := .return_) (pc0 := 146) (len := 1) rfl rfl ?_
        refine ⟨rfl, rfl, ?_⟩
        simp only [xhear, Nat.reduceAdd]
        (first | rw [show xmore v t l = 0 from by unfold xmore; rw [if_pos (by omega)]] | rw [show xmore v t l = bt (v 66 t.toNat) l from by unfold xmore; rw [if_neg (by omega)]])
        (first | rw [show xdue v t l = t + 0 from by unfold xdue; rw [if_pos (by omega)]] | rw [show xdue v t l = t + v 35 l.toNat from by unfold xdue; rw [if_neg (by omega)]])
        (first | (rw [if_pos (by omega)]; done) | (rw [if_neg (by omega), if_pos (by omega)]; done) | (rw [if_neg (by omega), if_neg (by omega)]; done))
  · show WV _ _ _ 11 _ _ _ _ _
    refine r_ex 8 (pc' := 41) (lo' := [some (.inr (.inr (some 91))), some (.inl i), some (.inl e), some (.inl t), some (.inl l), some (.inl 0), none]) (st' := [.inl 6, .inl (v 67 4), .inl t]) rfl ?_
    have hb_18 : -1 ≤ (v 67 4) ∧ (v 67 4) ≤ 6 := hX 67 4
    refine r_ic_ne (pc0 := 41) (len := 3) (t := 48) rfl (by first | assumption | (unfold R32 at *; omega) | omega) (by first | assumption | (unfold R32 at *; omega) | omega) (fun h_41 => ?_) (fun h_41 => ?_)
    · show WV _ _ _ 48 _ _ _ _ _
      refine r_ex 4 (pc' := 57) (lo' := [some (.inr (.inr (some 91))), some (.inl i), some (.inl e), some (.inl t), some (.inl l), some (.inl 0), none]) (st' := [.inl l, .inr (.inr (some 35)), .inl t]) rfl ?_
      refine r_iald2 (j := 0) (x := (v 35 ((l).toNat))) (pc' := 58) (pc0 := 57) (len := 1) rfl (s_35 _) (by first | assumption | (unfold R32 at *; omega) | omega) (by decide) rfl rfl ?_
      have hb_19 : 0 ≤ (v 35 ((l).toNat)) ∧ (v 35 ((l).toNat)) ≤ 60 := hX 35 ((l).toNat)
      refine r_ex 5 (pc' := 66) (lo' := [some (.inr (.inr (some 91))), some (.inl i), some (.inl e), some (.inl t), some (.inl l), some (.inl 0), some (.inl (t + (v 35 ((l).toNat))))]) (st' := [.inl i, .inr (.inr (some 94))]) rfl ?_
      refine r_iald2 (j := 0) (x := (v 94 ((i).toNat))) (pc' := 67) (pc0 := 66) (len := 1) rfl (s_94 _) (by first | assumption | (unfold R32 at *; omega) | omega) (by decide) rfl rfl ?_
      have hb_20 : 0 ≤ (v 94 ((i).toNat)) ∧ (v 94 ((i).toNat)) ≤ 99 := hX 94 ((i).toNat)
      refine r_ex 3 (pc' := 72) (lo' := [some (.inr (.inr (some 91))), some (.inl i), some (.inl e), some (.inl t), some (.inl l), some (.inl 0), some (.inl (t + (v 35 ((l).toNat))))]) (st' := [.inl 99, .inl ((v 94 ((i).toNat)) + 0)]) rfl ?_
      refine r_ic_le (pc0 := 72) (len := 3) (t := 89) rfl (by first | assumption | (unfold R32 at *; omega) | omega) (by first | assumption | (unfold R32 at *; omega) | omega) (fun h_72 => ?_) (fun h_72 => ?_)
      · show WV _ _ _ 89 _ _ _ _ _
        refine r_ex 4 (pc' := 98) (lo' := [some (.inr (.inr (some 91))), some (.inl i), some (.inl e), some (.inl t), some (.inl l), some (.inl 0), some (.inl (t + (v 35 ((l).toNat))))]) (st' := [.inl (v 33 1), .inl (t + (v 35 ((l).toNat)))]) rfl ?_
        have hb_21 : 0 ≤ (v 33 1) ∧ (v 33 1) ≤ 300 := hX 33 1
        refine r_ic_lt (pc0 := 98) (len := 3) (t := 114) rfl (by first | assumption | (unfold R32 at *; omega) | omega) (by first | assumption | (unfold R32 at *; omega) | omega) (fun h_98 => ?_) (fun h_98 => ?_)
        · show WV _ _ _ 114 _ _ _ _ _
          refine r_ex 4 (pc' := 120) (lo' := [some (.inr (.inr (some 91))), some (.inl i), some (.inl e), some (.inl t), some (.inl l), some (.inl 0), some (.inl (t + (v 35 ((l).toNat))))]) (st' := [.inl e, .inr (.inr (some 99)), .inl e, .inr (.inr (some 99))]) rfl ?_
          refine r_iald2 (j := 0) (x := (v 99 ((e).toNat))) (pc' := 121) (pc0 := 120) (len := 1) rfl (s_99 _) (by first | assumption | (unfold R32 at *; omega) | omega) (by decide) rfl rfl ?_
          refine r_ex 2 (pc' := 123) (lo' := [some (.inr (.inr (some 91))), some (.inl i), some (.inl e), some (.inl t), some (.inl l), some (.inl 0), some (.inl (t + (v 35 ((l).toNat))))]) (st' := [.inl ((v 99 ((e).toNat)) + 1), .inl e, .inr (.inr (some 99))]) rfl ?_
          refine r_iast2 (pc' := 124) (pc0 := 123) (len := 1) rfl (s_99 _) (by first | assumption | (unfold R32 at *; omega) | omega) (by decide) rfl ?_
          have hX_22 : XI (v2 v 99 ((e).toNat) ((v 99 ((e).toNat)) + 1)) := XI.put hX trivial
          refine r_ex 7 (pc' := 137) (lo' := [some (.inr (.inr (some 91))), some (.inl i), some (.inl e), some (.inl t), some (.inl l), some (.inl 0), some (.inl (t + (v 35 ((l).toNat))))]) (st' := [.inl i, .inr (.inr (some 94)), .inl l, .inl (t + (v 35 ((l).toNat))), .inr (.inr (some 73))]) rfl ?_
          refine r_iald2 (j := 0) (x := (v 94 ((i).toNat))) (pc' := 138) (pc0 := 137) (len := 1) rfl (s_94 _) (by first | assumption | (unfold R32 at *; omega) | omega) (by decide) rfl rfl ?_
          have hb_23 : 0 ≤ (v 94 ((i).toNat)) ∧ (v 94 ((i).toNat)) ≤ 99 := hX_22 94 ((i).toNat)
          refine r_ex 4 (pc' := 143) (lo' := [some (.inr (.inr (some 91))), some (.inl i), some (.inl e), some (.inl t), some (.inl l), some (.inl 0), some (.inl (t + (v 35 ((l).toNat))))]) (st' := [.inl e, .inl i, .inl ((v 94 ((i).toNat)) + 0), .inl l, .inl (t + (v 35 ((l).toNat))), .inr (.inr (some 73))]) rfl ?_
          refine r_call (m := 77) (args := [.inr (.inr (some 73)), .inl (t + (v 35 ((l).toNat))), .inl l, .inl ((v 94 ((i).toNat)) + 0), .inl i, .inl e]) (n' := 84) (pc' := 146) (lo' := [some (.inr (.inr (some 91))), some (.inl i), some (.inl e), some (.inl t), some (.inl l), some (.inl 0), some (.inl (t + (v 35 ((l).toNat))))]) (st' := []) (I := .invokevirtual 77) (pc0 := 143) (len := 3) rfl rfl rfl (x_put hX_22 (by omega) (by omega) (by omega) (by omega) (by omega)) ?_
          show WV _ _ _ 146 _ [] _ (xput (v2 v 99 ((e).toNat) ((v 99 ((e).toNat)) + 1)) (t + (v 35 ((l).toNat))) l ((v 94 ((i).toNat)) + 0) i e) _
          have hXput := XI_put (s := (t + (v 35 ((l).toNat)))) (c := l) (h := ((v 94 ((i).toNat)) + 0)) (y := i) (e := e) hX_22 (by omega) (by omega) (by omega) (by omega) (by omega)
          refine r_ret (rr := none) (I := .return_) (pc0 := 146) (len := 1) rfl rfl ?_
          refine ⟨rfl, rfl, ?_⟩
          simp only [xhear, Nat.reduceAdd]
          (first | rw [show xmore v t l = 0 from by unfold xmore; rw [if_pos (by omega)]] | rw [show xmore v t l = bt (v 66 t.toNat) l from by unfold xmore; rw [if_neg (by omega)]])
          (first | rw [show xdue v t l = t + 0 from by unfold xdue; rw [if_pos (by omega)]] | rw [show xdue v t l = t + v 35 l.toNat from by unfold xdue; rw [if_neg (by omega)]])
          (first | (rw [if_pos (by omega)]; done) | (rw [if_neg (by omega), if_pos (by omega)]; done) | (rw [if_neg (by omega), if_neg (by omega)]; done))
        · show WV _ _ _ 101 _ _ _ _ _
          refine r_ex 4 (pc' := 107) (lo' := [some (.inr (.inr (some 91))), some (.inl i), some (.inl e), some (.inl t), some (.inl l), some (.inl 0), some (.inl (t + (v 35 ((l).toNat))))]) (st' := [.inl 5, .inr (.inr (some 97)), .inl 5, .inr (.inr (some 97))]) rfl ?_
          refine r_iald2 (j := 0) (x := (v 97 5)) (pc' := 108) (pc0 := 107) (len := 1) rfl (s_97 _) (by first | assumption | (unfold R32 at *; omega) | omega) (by decide) rfl rfl ?_
          refine r_ex 2 (pc' := 110) (lo' := [some (.inr (.inr (some 91))), some (.inl i), some (.inl e), some (.inl t), some (.inl l), some (.inl 0), some (.inl (t + (v 35 ((l).toNat))))]) (st' := [.inl ((v 97 5) + 1), .inl 5, .inr (.inr (some 97))]) rfl ?_
          refine r_iast2 (pc' := 111) (pc0 := 110) (len := 1) rfl (s_97 _) (by first | assumption | (unfold R32 at *; omega) | omega) (by decide) rfl ?_
          have hX_24 : XI (v2 v 97 5 ((v 97 5) + 1)) := XI.put hX trivial
          show WV _ _ _ 111 _ _ _ (v2 v 97 5 ((v 97 5) + 1)) _
          refine r_ex 1 (pc' := 146) (lo' := [some (.inr (.inr (some 91))), some (.inl i), some (.inl e), some (.inl t), some (.inl l), some (.inl 0), some (.inl (t + (v 35 ((l).toNat))))]) (st' := []) rfl ?_
          refine r_ret (rr := none) (I := .return_) (pc0 := 146) (len := 1) rfl rfl ?_
          refine ⟨rfl, rfl, ?_⟩
          simp only [xhear, Nat.reduceAdd]
          (first | rw [show xmore v t l = 0 from by unfold xmore; rw [if_pos (by omega)]] | rw [show xmore v t l = bt (v 66 t.toNat) l from by unfold xmore; rw [if_neg (by omega)]])
          (first | rw [show xdue v t l = t + 0 from by unfold xdue; rw [if_pos (by omega)]] | rw [show xdue v t l = t + v 35 l.toNat from by unfold xdue; rw [if_neg (by omega)]])
          (first | (rw [if_pos (by omega)]; done) | (rw [if_neg (by omega), if_pos (by omega)]; done) | (rw [if_neg (by omega), if_neg (by omega)]; done))
      · show WV _ _ _ 75 _ _ _ _ _
        refine r_ex 4 (pc' := 82) (lo' := [some (.inr (.inr (some 91))), some (.inl i), some (.inl e), some (.inl t), some (.inl l), some (.inl 0), some (.inl (t + (v 35 ((l).toNat))))]) (st' := [.inl 6, .inr (.inr (some 97)), .inl 6, .inr (.inr (some 97))]) rfl ?_
        refine r_iald2 (j := 0) (x := (v 97 6)) (pc' := 83) (pc0 := 82) (len := 1) rfl (s_97 _) (by first | assumption | (unfold R32 at *; omega) | omega) (by decide) rfl rfl ?_
        refine r_ex 2 (pc' := 85) (lo' := [some (.inr (.inr (some 91))), some (.inl i), some (.inl e), some (.inl t), some (.inl l), some (.inl 0), some (.inl (t + (v 35 ((l).toNat))))]) (st' := [.inl ((v 97 6) + 1), .inl 6, .inr (.inr (some 97))]) rfl ?_
        refine r_iast2 (pc' := 86) (pc0 := 85) (len := 1) rfl (s_97 _) (by first | assumption | (unfold R32 at *; omega) | omega) (by decide) rfl ?_
        have hX_25 : XI (v2 v 97 6 ((v 97 6) + 1)) := XI.put hX trivial
        show WV _ _ _ 86 _ _ _ (v2 v 97 6 ((v 97 6) + 1)) _
        refine r_ex 1 (pc' := 146) (lo' := [some (.inr (.inr (some 91))), some (.inl i), some (.inl e), some (.inl t), some (.inl l), some (.inl 0), some (.inl (t + (v 35 ((l).toNat))))]) (st' := []) rfl ?_
        refine r_ret (rr := none) (I := .return_) (pc0 := 146) (len := 1) rfl rfl ?_
        refine ⟨rfl, rfl, ?_⟩
        simp only [xhear, Nat.reduceAdd]
        (first | rw [show xmore v t l = 0 from by unfold xmore; rw [if_pos (by omega)]] | rw [show xmore v t l = bt (v 66 t.toNat) l from by unfold xmore; rw [if_neg (by omega)]])
        (first | rw [show xdue v t l = t + 0 from by unfold xdue; rw [if_pos (by omega)]] | rw [show xdue v t l = t + v 35 l.toNat from by unfold xdue; rw [if_neg (by omega)]])
        (first | (rw [if_pos (by omega)]; done) | (rw [if_neg (by omega), if_pos (by omega)]; done) | (rw [if_neg (by omega), if_neg (by omega)]; done))
    · show WV _ _ _ 44 _ _ _ _ _
      refine r_ex 7 (pc' := 66) (lo' := [some (.inr (.inr (some 91))), some (.inl i), some (.inl e), some (.inl t), some (.inl l), some (.inl 0), some (.inl (t + 0))]) (st' := [.inl i, .inr (.inr (some 94))]) rfl ?_
      refine r_iald2 (j := 0) (x := (v 94 ((i).toNat))) (pc' := 67) (pc0 := 66) (len := 1) rfl (s_94 _) (by first | assumption | (unfold R32 at *; omega) | omega) (by decide) rfl rfl ?_
      have hb_26 : 0 ≤ (v 94 ((i).toNat)) ∧ (v 94 ((i).toNat)) ≤ 99 := hX 94 ((i).toNat)
      refine r_ex 3 (pc' := 72) (lo' := [some (.inr (.inr (some 91))), some (.inl i), some (.inl e), some (.inl t), some (.inl l), some (.inl 0), some (.inl (t + 0))]) (st' := [.inl 99, .inl ((v 94 ((i).toNat)) + 0)]) rfl ?_
      refine r_ic_le (pc0 := 72) (len := 3) (t := 89) rfl (by first | assumption | (unfold R32 at *; omega) | omega) (by first | assumption | (unfold R32 at *; omega) | omega) (fun h_72 => ?_) (fun h_72 => ?_)
      · show WV _ _ _ 89 _ _ _ _ _
        refine r_ex 4 (pc' := 98) (lo' := [some (.inr (.inr (some 91))), some (.inl i), some (.inl e), some (.inl t), some (.inl l), some (.inl 0), some (.inl (t + 0))]) (st' := [.inl (v 33 1), .inl (t + 0)]) rfl ?_
        have hb_27 : 0 ≤ (v 33 1) ∧ (v 33 1) ≤ 300 := hX 33 1
        refine r_ic_lt (pc0 := 98) (len := 3) (t := 114) rfl (by first | assumption | (unfold R32 at *; omega) | omega) (by first | assumption | (unfold R32 at *; omega) | omega) (fun h_98 => ?_) (fun h_98 => ?_)
        · show WV _ _ _ 114 _ _ _ _ _
          refine r_ex 4 (pc' := 120) (lo' := [some (.inr (.inr (some 91))), some (.inl i), some (.inl e), some (.inl t), some (.inl l), some (.inl 0), some (.inl (t + 0))]) (st' := [.inl e, .inr (.inr (some 99)), .inl e, .inr (.inr (some 99))]) rfl ?_
          refine r_iald2 (j := 0) (x := (v 99 ((e).toNat))) (pc' := 121) (pc0 := 120) (len := 1) rfl (s_99 _) (by first | assumption | (unfold R32 at *; omega) | omega) (by decide) rfl rfl ?_
          refine r_ex 2 (pc' := 123) (lo' := [some (.inr (.inr (some 91))), some (.inl i), some (.inl e), some (.inl t), some (.inl l), some (.inl 0), some (.inl (t + 0))]) (st' := [.inl ((v 99 ((e).toNat)) + 1), .inl e, .inr (.inr (some 99))]) rfl ?_
          refine r_iast2 (pc' := 124) (pc0 := 123) (len := 1) rfl (s_99 _) (by first | assumption | (unfold R32 at *; omega) | omega) (by decide) rfl ?_
          have hX_28 : XI (v2 v 99 ((e).toNat) ((v 99 ((e).toNat)) + 1)) := XI.put hX trivial
          refine r_ex 7 (pc' := 137) (lo' := [some (.inr (.inr (some 91))), some (.inl i), some (.inl e), some (.inl t), some (.inl l), some (.inl 0), some (.inl (t + 0))]) (st' := [.inl i, .inr (.inr (some 94)), .inl l, .inl (t + 0), .inr (.inr (some 73))]) rfl ?_
          refine r_iald2 (j := 0) (x := (v 94 ((i).toNat))) (pc' := 138) (pc0 := 137) (len := 1) rfl (s_94 _) (by first | assumption | (unfold R32 at *; omega) | omega) (by decide) rfl rfl ?_
          have hb_29 : 0 ≤ (v 94 ((i).toNat)) ∧ (v 94 ((i).toNat)) ≤ 99 := hX_28 94 ((i).toNat)
          refine r_ex 4 (pc' := 143) (lo' := [some (.inr (.inr (some 91))), some (.inl i), some (.inl e), some (.inl t), some (.inl l), some (.inl 0), some (.inl (t + 0))]) (st' := [.inl e, .inl i, .inl ((v 94 ((i).toNat)) + 0), .inl l, .inl (t + 0), .inr (.inr (some 73))]) rfl ?_
          refine r_call (m := 77) (args := [.inr (.inr (some 73)), .inl (t + 0), .inl l, .inl ((v 94 ((i).toNat)) + 0), .inl i, .inl e]) (n' := 84) (pc' := 146) (lo' := [some (.inr (.inr (some 91))), some (.inl i), some (.inl e), some (.inl t), some (.inl l), some (.inl 0), some (.inl (t + 0))]) (st' := []) (I := .invokevirtual 77) (pc0 := 143) (len := 3) rfl rfl rfl (x_put hX_28 (by omega) (by omega) (by omega) (by omega) (by omega)) ?_
          show WV _ _ _ 146 _ [] _ (xput (v2 v 99 ((e).toNat) ((v 99 ((e).toNat)) + 1)) (t + 0) l ((v 94 ((i).toNat)) + 0) i e) _
          have hXput := XI_put (s := (t + 0)) (c := l) (h := ((v 94 ((i).toNat)) + 0)) (y := i) (e := e) hX_28 (by omega) (by omega) (by omega) (by omega) (by omega)
          refine r_ret (rr := none) (I := .return_) (pc0 := 146) (len := 1) rfl rfl ?_
          refine ⟨rfl, rfl, ?_⟩
          simp only [xhear, Nat.reduceAdd]
          (first | rw [show xmore v t l = 0 from by unfold xmore; rw [if_pos (by omega)]] | rw [show xmore v t l = bt (v 66 t.toNat) l from by unfold xmore; rw [if_neg (by omega)]])
          (first | rw [show xdue v t l = t + 0 from by unfold xdue; rw [if_pos (by omega)]] | rw [show xdue v t l = t + v 35 l.toNat from by unfold xdue; rw [if_neg (by omega)]])
          (first | (rw [if_pos (by omega)]; done) | (rw [if_neg (by omega), if_pos (by omega)]; done) | (rw [if_neg (by omega), if_neg (by omega)]; done))
        · show WV _ _ _ 101 _ _ _ _ _
          refine r_ex 4 (pc' := 107) (lo' := [some (.inr (.inr (some 91))), some (.inl i), some (.inl e), some (.inl t), some (.inl l), some (.inl 0), some (.inl (t + 0))]) (st' := [.inl 5, .inr (.inr (some 97)), .inl 5, .inr (.inr (some 97))]) rfl ?_
          refine r_iald2 (j := 0) (x := (v 97 5)) (pc' := 108) (pc0 := 107) (len := 1) rfl (s_97 _) (by first | assumption | (unfold R32 at *; omega) | omega) (by decide) rfl rfl ?_
          refine r_ex 2 (pc' := 110) (lo' := [some (.inr (.inr (some 91))), some (.inl i), some (.inl e), some (.inl t), some (.inl l), some (.inl 0), some (.inl (t + 0))]) (st' := [.inl ((v 97 5) + 1), .inl 5, .inr (.inr (some 97))]) rfl ?_
          refine r_iast2 (pc' := 111) (pc0 := 110) (len := 1) rfl (s_97 _) (by first | assumption | (unfold R32 at *; omega) | omega) (by decide) rfl ?_
          have hX_30 : XI (v2 v 97 5 ((v 97 5) + 1)) := XI.put hX trivial
          show WV _ _ _ 111 _ _ _ (v2 v 97 5 ((v 97 5) + 1)) _
          refine r_ex 1 (pc' := 146) (lo' := [some (.inr (.inr (some 91))), some (.inl i), some (.inl e), some (.inl t), some (.inl l), some (.inl 0), some (.inl (t + 0))]) (st' := []) rfl ?_
          refine r_ret (rr := none) (I := .return_) (pc0 := 146) (len := 1) rfl rfl ?_
          refine ⟨rfl, rfl, ?_⟩
          simp only [xhear, Nat.reduceAdd]
          (first | rw [show xmore v t l = 0 from by unfold xmore; rw [if_pos (by omega)]] | rw [show xmore v t l = bt (v 66 t.toNat) l from by unfold xmore; rw [if_neg (by omega)]])
          (first | rw [show xdue v t l = t + 0 from by unfold xdue; rw [if_pos (by omega)]] | rw [show xdue v t l = t + v 35 l.toNat from by unfold xdue; rw [if_neg (by omega)]])
          (first | (rw [if_pos (by omega)]; done) | (rw [if_neg (by omega), if_pos (by omega)]; done) | (rw [if_neg (by omega), if_neg (by omega)]; done))
      · show WV _ _ _ 75 _ _ _ _ _
        refine r_ex 4 (pc' := 82) (lo' := [some (.inr (.inr (some 91))), some (.inl i), some (.inl e), some (.inl t), some (.inl l), some (.inl 0), some (.inl (t + 0))]) (st' := [.inl 6, .inr (.inr (some 97)), .inl 6, .inr (.inr (some 97))]) rfl ?_
        refine r_iald2 (j := 0) (x := (v 97 6)) (pc' := 83) (pc0 := 82) (len := 1) rfl (s_97 _) (by first | assumption | (unfold R32 at *; omega) | omega) (by decide) rfl rfl ?_
        refine r_ex 2 (pc' := 85) (lo' := [some (.inr (.inr (some 91))), some (.inl i), some (.inl e), some (.inl t), some (.inl l), some (.inl 0), some (.inl (t + 0))]) (st' := [.inl ((v 97 6) + 1), .inl 6, .inr (.inr (some 97))]) rfl ?_
        refine r_iast2 (pc' := 86) (pc0 := 85) (len := 1) rfl (s_97 _) (by first | assumption | (unfold R32 at *; omega) | omega) (by decide) rfl ?_
        have hX_31 : XI (v2 v 97 6 ((v 97 6) + 1)) := XI.put hX trivial
        show WV _ _ _ 86 _ _ _ (v2 v 97 6 ((v 97 6) + 1)) _
        refine r_ex 1 (pc' := 146) (lo' := [some (.inr (.inr (some 91))), some (.inl i), some (.inl e), some (.inl t), some (.inl l), some (.inl 0), some (.inl (t + 0))]) (st' := []) rfl ?_
        refine r_ret (rr := none) (I := .return_) (pc0 := 146) (len := 1) rfl rfl ?_
        refine ⟨rfl, rfl, ?_⟩
        simp only [xhear, Nat.reduceAdd]
        (first | rw [show xmore v t l = 0 from by unfold xmore; rw [if_pos (by omega)]] | rw [show xmore v t l = bt (v 66 t.toNat) l from by unfold xmore; rw [if_neg (by omega)]])
        (first | rw [show xdue v t l = t + 0 from by unfold xdue; rw [if_pos (by omega)]] | rw [show xdue v t l = t + v 35 l.toNat from by unfold xdue; rw [if_neg (by omega)]])
        (first | (rw [if_pos (by omega)]; done) | (rw [if_neg (by omega), if_pos (by omega)]; done) | (rw [if_neg (by omega), if_neg (by omega)]; done))
