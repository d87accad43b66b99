/-! what the small methods of a run answer -/
def xlag (v : VS) (e w : Int) : Int := if v 41 e.toNat = 0 then v 40 e.toNat else if v 41 e.toNat = 1 then max 1 (v 40 e.toNat - w) else max 1 (v 40 e.toNat + w)
def xwind (v : VS) (s : Int) : Int := v 72 (s / 30).toNat + (if v 67 4 = 3 then 0 else v 63 s.toNat)
theorem div30 {s : Int} (h : 0 ≤ s ∧ s < 300) : pm_div s 30 = s / 30 := by
  obtain ⟨n, rfl⟩ := Int.eq_ofNat_of_zero_le h.1
  have e : (List.range 300).all (fun n => decide (pm_div (n : Int) 30 = (n : Int) / 30)) = true := by decide +kernel
  have q := List.all_eq_true.mp e n (List.mem_range.mpr (by omega))
  simpa using q
theorem x_lagIn {X : PX} {d b : Nat} {v : VS} {e w : Int} (hX : XI v) (he : 0 ≤ e ∧ e < 12) (hw : -1000 ≤ w ∧ w ≤ 1000) : EvV X (d + 1) 68 [.inr (.inr (some 37)), .inl e, .inl w] b v (some (.inl (xlag v e w))) b v := by
  refine EvV.of ?_
  show WV _ _ _ 0 [some (.inr (.inr (some 37))), some (.inl e), some (.inl w)] [] _ _ _
  refine r_ex 3 (pc' := 5) (lo' := [some (.inr (.inr (some 37))), some (.inl e), some (.inl w)]) (st' := [.inl e, .inr (.inr (some 41))]) rfl ?_
  refine r_iald2 (j := 0) (x := (v 41 ((e).toNat))) (pc' := 6) (pc0 := 5) (len := 1) rfl (s_41 _) (by first | assumption | (unfold R32 at *; omega) | omega) (by decide) rfl rfl ?_
  have hb_1 : 0 ≤ (v 41 ((e).toNat)) ∧ (v 41 ((e).toNat)) ≤ 2 := hX 41 ((e).toNat)
  refine r_if_ne (pc0 := 6) (len := 3) (t := 16) rfl (by first | assumption | (unfold R32 at *; omega) | omega) (fun h_6 => ?_) (fun h_6 => ?_)
  · show WV _ _ _ 16 _ _ _ _ _
    refine r_ex 4 (pc' := 22) (lo' := [some (.inr (.inr (some 37))), some (.inl e), some (.inl w)]) (st' := [.inl e, .inr (.inr (some 41)), .inl 1]) rfl ?_
    refine r_iald2 (j := 0) (x := (v 41 ((e).toNat))) (pc' := 23) (pc0 := 22) (len := 1) rfl (s_41 _) (by first | assumption | (unfold R32 at *; omega) | omega) (by decide) rfl rfl ?_
    have hb_2 : 0 ≤ (v 41 ((e).toNat)) ∧ (v 41 ((e).toNat)) ≤ 2 := hX 41 ((e).toNat)
    refine r_ex 1 (pc' := 24) (lo' := [some (.inr (.inr (some 37))), some (.inl e), some (.inl w)]) (st' := [.inl 1, .inl (v 41 ((e).toNat)), .inl 1]) rfl ?_
    refine r_ic_ne (pc0 := 24) (len := 3) (t := 38) rfl (by first | assumption | (unfold R32 at *; omega) | omega) (by first | assumption | (unfold R32 at *; omega) | omega) (fun h_24 => ?_) (fun h_24 => ?_)
    · show WV _ _ _ 38 _ _ _ _ _
      refine r_ex 3 (pc' := 43) (lo' := [some (.inr (.inr (some 37))), some (.inl e), some (.inl w)]) (st' := [.inl e, .inr (.inr (some 40)), .inl 1]) rfl ?_
      refine r_iald2 (j := 0) (x := (v 40 ((e).toNat))) (pc' := 44) (pc0 := 43) (len := 1) rfl (s_40 _) (by first | assumption | (unfold R32 at *; omega) | omega) (by decide) rfl rfl ?_
      have hb_3 : 0 ≤ (v 40 ((e).toNat)) ∧ (v 40 ((e).toNat)) ≤ 60 := hX 40 ((e).toNat)
      refine r_ex 2 (pc' := 46) (lo' := [some (.inr (.inr (some 37))), some (.inl e), some (.inl w)]) (st' := [.inl ((v 40 ((e).toNat)) + w), .inl 1]) rfl ?_
      refine r_prim (x := .inl (if w32 1 < w32 ((v 40 ((e).toNat)) + w) then ((v 40 ((e).toNat)) + w) else 1)) (m := 69) (args := [.inl 1, .inl ((v 40 ((e).toNat)) + w)]) (n' := 68) (pc' := 49) (lo' := [some (.inr (.inr (some 37))), some (.inl e), some (.inl w)]) (st' := []) (I := .invokestatic 69) (pc0 := 46) (len := 3) rfl rfl rfl ?_
      obtain ⟨mx, hmx⟩ : ∃ z : Int, z = (if w32 1 < w32 ((v 40 ((e).toNat)) + w) then ((v 40 ((e).toNat)) + w) else 1) := ⟨_, rfl⟩
      rw [← hmx]
      rw [w32_id (by omega) (by omega), w32_id (by omega) (by omega)] at hmx
      refine r_ret (rr := some (.inl mx)) (I := .ireturn) (pc0 := 49) (len := 1) rfl rfl ?_
      refine ⟨?_, rfl, rfl⟩
      congr 2
      unfold xlag
      rw [if_neg (by omega)]
      (first | rw [if_pos (by omega)] | rw [if_neg (by omega)])
      rw [hmx]
      split <;> omega
    · show WV _ _ _ 27 _ _ _ _ _
      refine r_ex 3 (pc' := 32) (lo' := [some (.inr (.inr (some 37))), some (.inl e), some (.inl w)]) (st' := [.inl e, .inr (.inr (some 40)), .inl 1]) rfl ?_
      refine r_iald2 (j := 0) (x := (v 40 ((e).toNat))) (pc' := 33) (pc0 := 32) (len := 1) rfl (s_40 _) (by first | assumption | (unfold R32 at *; omega) | omega) (by decide) rfl rfl ?_
      have hb_4 : 0 ≤ (v 40 ((e).toNat)) ∧ (v 40 ((e).toNat)) ≤ 60 := hX 40 ((e).toNat)
      refine r_ex 3 (pc' := 46) (lo' := [some (.inr (.inr (some 37))), some (.inl e), some (.inl w)]) (st' := [.inl ((v 40 ((e).toNat)) - w), .inl 1]) rfl ?_
      refine r_prim (x := .inl (if w32 1 < w32 ((v 40 ((e).toNat)) - w) then ((v 40 ((e).toNat)) - w) else 1)) (m := 69) (args := [.inl 1, .inl ((v 40 ((e).toNat)) - w)]) (n' := 68) (pc' := 49) (lo' := [some (.inr (.inr (some 37))), some (.inl e), some (.inl w)]) (st' := []) (I := .invokestatic 69) (pc0 := 46) (len := 3) rfl rfl rfl ?_
      obtain ⟨mx, hmx⟩ : ∃ z : Int, z = (if w32 1 < w32 ((v 40 ((e).toNat)) - w) then ((v 40 ((e).toNat)) - w) else 1) := ⟨_, rfl⟩
      rw [← hmx]
      rw [w32_id (by omega) (by omega), w32_id (by omega) (by omega)] at hmx
      refine r_ret (rr := some (.inl mx)) (I := .ireturn) (pc0 := 49) (len := 1) rfl rfl ?_
      refine ⟨?_, rfl, rfl⟩
      congr 2
      unfold xlag
      rw [if_neg (by omega)]
      (first | rw [if_pos (by omega)] | rw [if_neg (by omega)])
      rw [hmx]
      split <;> omega
  · show WV _ _ _ 9 _ _ _ _ _
    refine r_ex 3 (pc' := 14) (lo' := [some (.inr (.inr (some 37))), some (.inl e), some (.inl w)]) (st' := [.inl e, .inr (.inr (some 40))]) rfl ?_
    refine r_iald2 (j := 0) (x := (v 40 ((e).toNat))) (pc' := 15) (pc0 := 14) (len := 1) rfl (s_40 _) (by first | assumption | (unfold R32 at *; omega) | omega) (by decide) rfl rfl ?_
    have hb_5 : 0 ≤ (v 40 ((e).toNat)) ∧ (v 40 ((e).toNat)) ≤ 60 := hX 40 ((e).toNat)
    refine r_ret (rr := some (.inl (v 40 ((e).toNat)))) (I := .ireturn) (pc0 := 15) (len := 1) rfl rfl ?_
    refine ⟨?_, rfl, rfl⟩
    congr 2
    unfold xlag
    rw [if_pos (by omega)]

theorem x_windIn79 {X : PX} {d b : Nat} {v : VS} {s : Int} (hX : XI v) (hs : 0 ≤ s ∧ s < 300) : EvV X (d + 1) 83 [.inr (.inr (some 79)), .inl s] b v (some (.inl (xwind v s))) b v := by
  refine EvV.of ?_
  show WV _ _ _ 0 [some (.inr (.inr (some 79))), some (.inl s), none] [] _ _ _
  refine r_ex 4 (pc' := 6) (lo' := [some (.inr (.inr (some 79))), some (.inl s), none]) (st' := [.inl 9, .inl (pm_div s 30)]) rfl ?_
  refine r_prim (x := .inl (if w32 9 < w32 (pm_div s 30) then 9 else (pm_div s 30))) (m := 18) (args := [.inl (pm_div s 30), .inl 9]) (n' := 83) (pc' := 9) (lo' := [some (.inr (.inr (some 79))), some (.inl s), none]) (st' := []) (I := .invokestatic 18) (pc0 := 6) (len := 3) rfl rfl rfl ?_
  obtain ⟨mx, hmx⟩ : ∃ z : Int, z = (if w32 9 < w32 (pm_div s 30) then 9 else (pm_div s 30)) := ⟨_, rfl⟩
  rw [← hmx]
  rw [div30 hs, w32_id (by omega) (by omega), w32_id (by omega) (by omega), if_neg (by omega)] at hmx
  refine r_ex 5 (pc' := 18) (lo' := [some (.inr (.inr (some 79))), some (.inl s), some (.inl mx)]) (st' := [.inl mx, .inr (.inr (some 72))]) rfl ?_
  refine r_iald2 (j := 0) (x := (v 72 ((mx).toNat))) (pc' := 19) (pc0 := 18) (len := 1) rfl (s_72 _) (by first | assumption | (unfold R32 at *; omega) | omega) (by decide) rfl rfl ?_
  have hb_1 : -20 ≤ (v 72 ((mx).toNat)) ∧ (v 72 ((mx).toNat)) ≤ 20 := hX 72 ((mx).toNat)
  refine r_ex 4 (pc' := 27) (lo' := [some (.inr (.inr (some 79))), some (.inl s), some (.inl mx)]) (st' := [.inl 3, .inl (v 67 4), .inl (v 72 ((mx).toNat))]) rfl ?_
  have hb_2 : -1 ≤ (v 67 4) ∧ (v 67 4) ≤ 6 := hX 67 4
  refine r_ic_ne (pc0 := 27) (len := 3) (t := 34) rfl (by first | assumption | (unfold R32 at *; omega) | omega) (by first | assumption | (unfold R32 at *; omega) | omega) (fun h_27 => ?_) (fun h_27 => ?_)
  · show WV _ _ _ 34 _ _ _ _ _
    refine r_ex 4 (pc' := 42) (lo' := [some (.inr (.inr (some 79))), some (.inl s), some (.inl mx)]) (st' := [.inl s, .inr (.inr (some 63)), .inl (v 72 ((mx).toNat))]) rfl ?_
    refine r_iald2 (j := 0) (x := (v 63 ((s).toNat))) (pc' := 43) (pc0 := 42) (len := 1) rfl (s_63 _) (by first | assumption | (unfold R32 at *; omega) | omega) (by decide) rfl rfl ?_
    have hb_3 : -20 ≤ (v 63 ((s).toNat)) ∧ (v 63 ((s).toNat)) ≤ 20 := hX 63 ((s).toNat)
    refine r_ex 1 (pc' := 44) (lo' := [some (.inr (.inr (some 79))), some (.inl s), some (.inl mx)]) (st' := [.inl ((v 72 ((mx).toNat)) + (v 63 ((s).toNat)))]) rfl ?_
    refine r_ret (rr := some (.inl ((v 72 ((mx).toNat)) + (v 63 ((s).toNat))))) (I := .ireturn) (pc0 := 44) (len := 1) rfl rfl ?_
    refine ⟨?_, rfl, rfl⟩
    congr 2
    unfold xwind
    rw [hmx]
    (first | rw [if_pos (by omega)] | rw [if_neg (by omega)])
  · show WV _ _ _ 30 _ _ _ _ _
    refine r_ex 3 (pc' := 44) (lo' := [some (.inr (.inr (some 79))), some (.inl s), some (.inl mx)]) (st' := [.inl ((v 72 ((mx).toNat)) + 0)]) rfl ?_
    refine r_ret (rr := some (.inl ((v 72 ((mx).toNat)) + 0))) (I := .ireturn) (pc0 := 44) (len := 1) rfl rfl ?_
    refine ⟨?_, rfl, rfl⟩
    congr 2
    unfold xwind
    rw [hmx]
    (first | rw [if_pos (by omega)] | rw [if_neg (by omega)])

theorem x_windIn91 {X : PX} {d b : Nat} {v : VS} {s : Int} (hX : XI v) (hs : 0 ≤ s ∧ s < 300) : EvV X (d + 1) 83 [.inr (.inr (some 91)), .inl s] b v (some (.inl (xwind v s))) b v := by
  refine EvV.of ?_
  show WV _ _ _ 0 [some (.inr (.inr (some 91))), some (.inl s), none] [] _ _ _
  refine r_ex 4 (pc' := 6) (lo' := [some (.inr (.inr (some 91))), some (.inl s), none]) (st' := [.inl 9, .inl (pm_div s 30)]) rfl ?_
  refine r_prim (x := .inl (if w32 9 < w32 (pm_div s 30) then 9 else (pm_div s 30))) (m := 18) (args := [.inl (pm_div s 30), .inl 9]) (n' := 83) (pc' := 9) (lo' := [some (.inr (.inr (some 91))), some (.inl s), none]) (st' := []) (I := .invokestatic 18) (pc0 := 6) (len := 3) rfl rfl rfl ?_
  obtain ⟨mx, hmx⟩ : ∃ z : Int, z = (if w32 9 < w32 (pm_div s 30) then 9 else (pm_div s 30)) := ⟨_, rfl⟩
  rw [← hmx]
  rw [div30 hs, w32_id (by omega) (by omega), w32_id (by omega) (by omega), if_neg (by omega)] at hmx
  refine r_ex 5 (pc' := 18) (lo' := [some (.inr (.inr (some 91))), some (.inl s), some (.inl mx)]) (st' := [.inl mx, .inr (.inr (some 72))]) rfl ?_
  refine r_iald2 (j := 0) (x := (v 72 ((mx).toNat))) (pc' := 19) (pc0 := 18) (len := 1) rfl (s_72 _) (by first | assumption | (unfold R32 at *; omega) | omega) (by decide) rfl rfl ?_
  have hb_1 : -20 ≤ (v 72 ((mx).toNat)) ∧ (v 72 ((mx).toNat)) ≤ 20 := hX 72 ((mx).toNat)
  refine r_ex 4 (pc' := 27) (lo' := [some (.inr (.inr (some 91))), some (.inl s), some (.inl mx)]) (st' := [.inl 3, .inl (v 67 4), .inl (v 72 ((mx).toNat))]) rfl ?_
  have hb_2 : -1 ≤ (v 67 4) ∧ (v 67 4) ≤ 6 := hX 67 4
  refine r_ic_ne (pc0 := 27) (len := 3) (t := 34) rfl (by first | assumption | (unfold R32 at *; omega) | omega) (by first | assumption | (unfold R32 at *; omega) | omega) (fun h_27 => ?_) (fun h_27 => ?_)
  · show WV _ _ _ 34 _ _ _ _ _
    refine r_ex 4 (pc' := 42) (lo' := [some (.inr (.inr (some 91))), some (.inl s), some (.inl mx)]) (st' := [.inl s, .inr (.inr (some 63)), .inl (v 72 ((mx).toNat))]) rfl ?_
    refine r_iald2 (j := 0) (x := (v 63 ((s).toNat))) (pc' := 43) (pc0 := 42) (len := 1) rfl (s_63 _) (by first | assumption | (unfold R32 at *; omega) | omega) (by decide) rfl rfl ?_
    have hb_3 : -20 ≤ (v 63 ((s).toNat)) ∧ (v 63 ((s).toNat)) ≤ 20 := hX 63 ((s).toNat)
    refine r_ex 1 (pc' := 44) (lo' := [some (.inr (.inr (some 91))), some (.inl s), some (.inl mx)]) (st' := [.inl ((v 72 ((mx).toNat)) + (v 63 ((s).toNat)))]) rfl ?_
    refine r_ret (rr := some (.inl ((v 72 ((mx).toNat)) + (v 63 ((s).toNat))))) (I := .ireturn) (pc0 := 44) (len := 1) rfl rfl ?_
    refine ⟨?_, rfl, rfl⟩
    congr 2
    unfold xwind
    rw [hmx]
    (first | rw [if_pos (by omega)] | rw [if_neg (by omega)])
  · show WV _ _ _ 30 _ _ _ _ _
    refine r_ex 3 (pc' := 44) (lo' := [some (.inr (.inr (some 91))), some (.inl s), some (.inl mx)]) (st' := [.inl ((v 72 ((mx).toNat)) + 0)]) rfl ?_
    refine r_ret (rr := some (.inl ((v 72 ((mx).toNat)) + 0))) (I := .ireturn) (pc0 := 44) (len := 1) rfl rfl ?_
    refine ⟨?_, rfl, rfl⟩
    congr 2
    unfold xwind
    rw [hmx]
    (first | rw [if_pos (by omega)] | rw [if_neg (by omega)])
