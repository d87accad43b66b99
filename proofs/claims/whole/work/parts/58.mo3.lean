/-! the reference: tape and tokens -/
def mo_four (v : VS) (x : Int) : VS :=
  (v2 (v2 (v2 (v2 (v2 (v2 (v2 (v2 v 208 (((v 203 6)).toNat) (w8 (w8 (pm_shr x 24)))) 203 6 ((v 203 6) + 1)) 208 ((((v 203 6) + 1)).toNat) (w8 (w8 (pm_shr x 16)))) 203 6 (((v 203 6) + 1) + 1)) 208 (((((v 203 6) + 1) + 1)).toNat) (w8 (w8 (pm_shr x 8)))) 203 6 ((((v 203 6) + 1) + 1) + 1)) 208 ((((((v 203 6) + 1) + 1) + 1)).toNat) (w8 (w8 (pm_shr x 0)))) 203 6 (((((v 203 6) + 1) + 1) + 1) + 1))
theorem w_mo_four {X : PX} {d b : Nat} {v : VS} {x : Int} (hX : XI v) (hp_a : (v 203 6) ≤ 1996) {Q : Option PV → Nat → VS → Prop} (hQ : XI (mo_four v x) → (((mo_four v x) 203 6) = (v 203 6) + 4) → Q none b (mo_four v x)) : WV X d 207 0 [some (.inr (.inr (some 203))), some (.inl x), none] [] b v Q := by
  rw [mo_four] at hQ
  refine r_ex 12 (pc' := 19) (lo' := [some (.inr (.inr (some 203))), some (.inl x), some (.inl 24)]) (st' := [.inl (w8 (pm_shr x 24)), .inl (v 203 6), .inr (.inr (some 208))]) rfl ?_
  have hb_1 : 0 ≤ (v 203 6) ∧ (v 203 6) ≤ 2000 := hX 203 6
  refine r_bast2 (pc' := 20) (pc0 := 19) (len := 1) rfl (s_208 _) (by first | assumption | omega | (unfold R32 at *; omega) | (unfold R64 at *; omega) | (simp only [R32, R64] at *; omega)) (by decide) rfl ?_
  have hb_2 := w8_in (w8 (pm_shr x 24))
  have hX_3 : XI (v2 v 208 (((v 203 6)).toNat) (w8 (w8 (pm_shr x 24)))) := XI.put hX (show -128 ≤ (w8 (w8 (pm_shr x 24))) ∧ (w8 (w8 (pm_shr x 24))) ≤ 127 from (by first | assumption | omega | (unfold R32 at *; omega) | (unfold R64 at *; omega) | (simp only [R32, R64] at *; omega)))
  show WV _ _ _ 20 _ _ _ (v2 v 208 (((v 203 6)).toNat) (w8 (w8 (pm_shr x 24)))) _
  refine r_ex 5 (pc' := 27) (lo' := [some (.inr (.inr (some 203))), some (.inl x), some (.inl 24)]) (st' := [.inl ((v 203 6) + 1), .inr (.inr (some 203))]) rfl ?_
  have hb_4 : 0 ≤ (v 203 6) ∧ (v 203 6) ≤ 2000 := hX_3 203 6
  refine r_puti2 (j := 6) (pc' := 30) (pc0 := 27) (len := 3) rfl (s_203 _) rfl rfl rfl (Or.inl rfl) rfl rfl ?_
  have hX_5 : XI (v2 (v2 v 208 (((v 203 6)).toNat) (w8 (w8 (pm_shr x 24)))) 203 6 ((v 203 6) + 1)) := XI.put hX_3 (show 0 ≤ ((v 203 6) + 1) ∧ ((v 203 6) + 1) ≤ 2000 from (by first | assumption | omega | (unfold R32 at *; omega) | (unfold R64 at *; omega) | (simp only [R32, R64] at *; omega)))
  refine r_ex 12 (pc' := 19) (lo' := [some (.inr (.inr (some 203))), some (.inl x), some (.inl 16)]) (st' := [.inl (w8 (pm_shr x 16)), .inl ((v 203 6) + 1), .inr (.inr (some 208))]) rfl ?_
  have hb_6 : 0 ≤ ((v 203 6) + 1) ∧ ((v 203 6) + 1) ≤ 2000 := hX_5 203 6
  refine r_bast2 (pc' := 20) (pc0 := 19) (len := 1) rfl (s_208 _) (by first | assumption | omega | (unfold R32 at *; omega) | (unfold R64 at *; omega) | (simp only [R32, R64] at *; omega)) (by decide) rfl ?_
  have hb_7 := w8_in (w8 (pm_shr x 16))
  have hX_8 : XI (v2 (v2 (v2 v 208 (((v 203 6)).toNat) (w8 (w8 (pm_shr x 24)))) 203 6 ((v 203 6) + 1)) 208 ((((v 203 6) + 1)).toNat) (w8 (w8 (pm_shr x 16)))) := XI.put hX_5 (show -128 ≤ (w8 (w8 (pm_shr x 16))) ∧ (w8 (w8 (pm_shr x 16))) ≤ 127 from (by first | assumption | omega | (unfold R32 at *; omega) | (unfold R64 at *; omega) | (simp only [R32, R64] at *; omega)))
  show WV _ _ _ 20 _ _ _ (v2 (v2 (v2 v 208 (((v 203 6)).toNat) (w8 (w8 (pm_shr x 24)))) 203 6 ((v 203 6) + 1)) 208 ((((v 203 6) + 1)).toNat) (w8 (w8 (pm_shr x 16)))) _
  refine r_ex 5 (pc' := 27) (lo' := [some (.inr (.inr (some 203))), some (.inl x), some (.inl 16)]) (st' := [.inl (((v 203 6) + 1) + 1), .inr (.inr (some 203))]) rfl ?_
  have hb_9 : 0 ≤ ((v 203 6) + 1) ∧ ((v 203 6) + 1) ≤ 2000 := hX_8 203 6
  refine r_puti2 (j := 6) (pc' := 30) (pc0 := 27) (len := 3) rfl (s_203 _) rfl rfl rfl (Or.inl rfl) rfl rfl ?_
  have hX_10 : XI (v2 (v2 (v2 (v2 v 208 (((v 203 6)).toNat) (w8 (w8 (pm_shr x 24)))) 203 6 ((v 203 6) + 1)) 208 ((((v 203 6) + 1)).toNat) (w8 (w8 (pm_shr x 16)))) 203 6 (((v 203 6) + 1) + 1)) := XI.put hX_8 (show 0 ≤ (((v 203 6) + 1) + 1) ∧ (((v 203 6) + 1) + 1) ≤ 2000 from (by first | assumption | omega | (unfold R32 at *; omega) | (unfold R64 at *; omega) | (simp only [R32, R64] at *; omega)))
  refine r_ex 12 (pc' := 19) (lo' := [some (.inr (.inr (some 203))), some (.inl x), some (.inl 8)]) (st' := [.inl (w8 (pm_shr x 8)), .inl (((v 203 6) + 1) + 1), .inr (.inr (some 208))]) rfl ?_
  have hb_11 : 0 ≤ (((v 203 6) + 1) + 1) ∧ (((v 203 6) + 1) + 1) ≤ 2000 := hX_10 203 6
  refine r_bast2 (pc' := 20) (pc0 := 19) (len := 1) rfl (s_208 _) (by first | assumption | omega | (unfold R32 at *; omega) | (unfold R64 at *; omega) | (simp only [R32, R64] at *; omega)) (by decide) rfl ?_
  have hb_12 := w8_in (w8 (pm_shr x 8))
  have hX_13 : XI (v2 (v2 (v2 (v2 (v2 v 208 (((v 203 6)).toNat) (w8 (w8 (pm_shr x 24)))) 203 6 ((v 203 6) + 1)) 208 ((((v 203 6) + 1)).toNat) (w8 (w8 (pm_shr x 16)))) 203 6 (((v 203 6) + 1) + 1)) 208 (((((v 203 6) + 1) + 1)).toNat) (w8 (w8 (pm_shr x 8)))) := XI.put hX_10 (show -128 ≤ (w8 (w8 (pm_shr x 8))) ∧ (w8 (w8 (pm_shr x 8))) ≤ 127 from (by first | assumption | omega | (unfold R32 at *; omega) | (unfold R64 at *; omega) | (simp only [R32, R64] at *; omega)))
  show WV _ _ _ 20 _ _ _ (v2 (v2 (v2 (v2 (v2 v 208 (((v 203 6)).toNat) (w8 (w8 (pm_shr x 24)))) 203 6 ((v 203 6) + 1)) 208 ((((v 203 6) + 1)).toNat) (w8 (w8 (pm_shr x 16)))) 203 6 (((v 203 6) + 1) + 1)) 208 (((((v 203 6) + 1) + 1)).toNat) (w8 (w8 (pm_shr x 8)))) _
  refine r_ex 5 (pc' := 27) (lo' := [some (.inr (.inr (some 203))), some (.inl x), some (.inl 8)]) (st' := [.inl ((((v 203 6) + 1) + 1) + 1), .inr (.inr (some 203))]) rfl ?_
  have hb_14 : 0 ≤ (((v 203 6) + 1) + 1) ∧ (((v 203 6) + 1) + 1) ≤ 2000 := hX_13 203 6
  refine r_puti2 (j := 6) (pc' := 30) (pc0 := 27) (len := 3) rfl (s_203 _) rfl rfl rfl (Or.inl rfl) rfl rfl ?_
  have hX_15 : XI (v2 (v2 (v2 (v2 (v2 (v2 v 208 (((v 203 6)).toNat) (w8 (w8 (pm_shr x 24)))) 203 6 ((v 203 6) + 1)) 208 ((((v 203 6) + 1)).toNat) (w8 (w8 (pm_shr x 16)))) 203 6 (((v 203 6) + 1) + 1)) 208 (((((v 203 6) + 1) + 1)).toNat) (w8 (w8 (pm_shr x 8)))) 203 6 ((((v 203 6) + 1) + 1) + 1)) := XI.put hX_13 (show 0 ≤ ((((v 203 6) + 1) + 1) + 1) ∧ ((((v 203 6) + 1) + 1) + 1) ≤ 2000 from (by first | assumption | omega | (unfold R32 at *; omega) | (unfold R64 at *; omega) | (simp only [R32, R64] at *; omega)))
  refine r_ex 12 (pc' := 19) (lo' := [some (.inr (.inr (some 203))), some (.inl x), some (.inl 0)]) (st' := [.inl (w8 (pm_shr x 0)), .inl ((((v 203 6) + 1) + 1) + 1), .inr (.inr (some 208))]) rfl ?_
  have hb_16 : 0 ≤ ((((v 203 6) + 1) + 1) + 1) ∧ ((((v 203 6) + 1) + 1) + 1) ≤ 2000 := hX_15 203 6
  refine r_bast2 (pc' := 20) (pc0 := 19) (len := 1) rfl (s_208 _) (by first | assumption | omega | (unfold R32 at *; omega) | (unfold R64 at *; omega) | (simp only [R32, R64] at *; omega)) (by decide) rfl ?_
  have hb_17 := w8_in (w8 (pm_shr x 0))
  have hX_18 : XI (v2 (v2 (v2 (v2 (v2 (v2 (v2 v 208 (((v 203 6)).toNat) (w8 (w8 (pm_shr x 24)))) 203 6 ((v 203 6) + 1)) 208 ((((v 203 6) + 1)).toNat) (w8 (w8 (pm_shr x 16)))) 203 6 (((v 203 6) + 1) + 1)) 208 (((((v 203 6) + 1) + 1)).toNat) (w8 (w8 (pm_shr x 8)))) 203 6 ((((v 203 6) + 1) + 1) + 1)) 208 ((((((v 203 6) + 1) + 1) + 1)).toNat) (w8 (w8 (pm_shr x 0)))) := XI.put hX_15 (show -128 ≤ (w8 (w8 (pm_shr x 0))) ∧ (w8 (w8 (pm_shr x 0))) ≤ 127 from (by first | assumption | omega | (unfold R32 at *; omega) | (unfold R64 at *; omega) | (simp only [R32, R64] at *; omega)))
  show WV _ _ _ 20 _ _ _ (v2 (v2 (v2 (v2 (v2 (v2 (v2 v 208 (((v 203 6)).toNat) (w8 (w8 (pm_shr x 24)))) 203 6 ((v 203 6) + 1)) 208 ((((v 203 6) + 1)).toNat) (w8 (w8 (pm_shr x 16)))) 203 6 (((v 203 6) + 1) + 1)) 208 (((((v 203 6) + 1) + 1)).toNat) (w8 (w8 (pm_shr x 8)))) 203 6 ((((v 203 6) + 1) + 1) + 1)) 208 ((((((v 203 6) + 1) + 1) + 1)).toNat) (w8 (w8 (pm_shr x 0)))) _
  refine r_ex 5 (pc' := 27) (lo' := [some (.inr (.inr (some 203))), some (.inl x), some (.inl 0)]) (st' := [.inl (((((v 203 6) + 1) + 1) + 1) + 1), .inr (.inr (some 203))]) rfl ?_
  have hb_19 : 0 ≤ ((((v 203 6) + 1) + 1) + 1) ∧ ((((v 203 6) + 1) + 1) + 1) ≤ 2000 := hX_18 203 6
  refine r_puti2 (j := 6) (pc' := 30) (pc0 := 27) (len := 3) rfl (s_203 _) rfl rfl rfl (Or.inl rfl) rfl rfl ?_
  have hX_20 : XI (v2 (v2 (v2 (v2 (v2 (v2 (v2 (v2 v 208 (((v 203 6)).toNat) (w8 (w8 (pm_shr x 24)))) 203 6 ((v 203 6) + 1)) 208 ((((v 203 6) + 1)).toNat) (w8 (w8 (pm_shr x 16)))) 203 6 (((v 203 6) + 1) + 1)) 208 (((((v 203 6) + 1) + 1)).toNat) (w8 (w8 (pm_shr x 8)))) 203 6 ((((v 203 6) + 1) + 1) + 1)) 208 ((((((v 203 6) + 1) + 1) + 1)).toNat) (w8 (w8 (pm_shr x 0)))) 203 6 (((((v 203 6) + 1) + 1) + 1) + 1)) := XI.put hX_18 (show 0 ≤ (((((v 203 6) + 1) + 1) + 1) + 1) ∧ (((((v 203 6) + 1) + 1) + 1) + 1) ≤ 2000 from (by first | assumption | omega | (unfold R32 at *; omega) | (unfold R64 at *; omega) | (simp only [R32, R64] at *; omega)))
  refine r_ex 4 (pc' := 36) (lo' := [some (.inr (.inr (some 203))), some (.inl x), some (.inl (-8))]) (st' := []) rfl ?_
  refine r_ret (rr := none) (I := .return_) (pc0 := 36) (len := 1) rfl rfl ?_
  exact hQ hX_20 (show (((((v 203 6) + 1) + 1) + 1) + 1) = (v 203 6) + 4 from (by first | assumption | omega | (unfold R32 at *; omega) | (unfold R64 at *; omega) | (simp only [R32, R64] at *; omega)))

theorem e_mo_four {X : PX} {d b : Nat} {v : VS} {x : Int} (hX : XI v) (hp_a : (v 203 6) ≤ 1996) : EvV X d 207 [.inr (.inr (some 203)), .inl x] b v none b (mo_four v x) := EvV.of (w_mo_four hX hp_a (fun _ _ => ⟨rfl, rfl, rfl⟩))

theorem i_mo_four {v : VS} {x : Int} (hX : XI v) (hp_a : (v 203 6) ≤ 1996) : XI (mo_four v x) := by
  have q : WV (0, fun _ => 0, none) 0 207 0 [some (.inr (.inr (some 203))), some (.inl x), none] [] 1 v (fun _ _ _ => XI (mo_four v x)) := w_mo_four (X := (0, fun _ => 0, none)) (d := 0) (b := 1) hX hp_a (fun q _ => q)
  obtain ⟨_, _, _, _, _, _, _, q⟩ := q
  exact q

theorem n_mo_four {v : VS} {x : Int} (hX : XI v) (hp_a : (v 203 6) ≤ 1996) : ((mo_four v x) 203 6) = (v 203 6) + 4 := by
  have q : WV (0, fun _ => 0, none) 0 207 0 [some (.inr (.inr (some 203))), some (.inl x), none] [] 1 v (fun _ _ _ => ((mo_four v x) 203 6) = (v 203 6) + 4) := w_mo_four (X := (0, fun _ => 0, none)) (d := 0) (b := 1) hX hp_a (fun _ q => q)
  obtain ⟨_, _, _, _, _, _, _, q⟩ := q
  exact q

theorem o_mo_four {rk : Nat} {v : VS} {x : Int} (hk : (rk < 203 ∨ 203 < rk) ∧ (rk < 208 ∨ 208 < rk)) : (mo_four v x) rk = v rk := by
  unfold mo_four
  all_goals (show (v2 (v2 (v2 (v2 (v2 (v2 (v2 (v2 v 208 (((v 203 6)).toNat) (w8 (w8 (pm_shr x 24)))) 203 6 ((v 203 6) + 1)) 208 ((((v 203 6) + 1)).toNat) (w8 (w8 (pm_shr x 16)))) 203 6 (((v 203 6) + 1) + 1)) 208 (((((v 203 6) + 1) + 1)).toNat) (w8 (w8 (pm_shr x 8)))) 203 6 ((((v 203 6) + 1) + 1) + 1)) 208 ((((((v 203 6) + 1) + 1) + 1)).toNat) (w8 (w8 (pm_shr x 0)))) 203 6 (((((v 203 6) + 1) + 1) + 1) + 1)) rk = _)
  all_goals (rw [v2_row (by omega), v2_row (by omega), v2_row (by omega), v2_row (by omega), v2_row (by omega), v2_row (by omega), v2_row (by omega), v2_row (by omega)])

def mo_feed (v : VS) (xa : Int) (xb : Int) (xc : Int) (xd : Int) (xe : Int) : Int × VS :=
  (if 2000 < ((v 203 6) + 20) then ((-1), (v2 v 203 0 0)) else (((mo_four (mo_four (mo_four (mo_four (mo_four (v2 v 203 0 0) xa) xb) xc) xd) xe) 203 6), (mo_four (mo_four (mo_four (mo_four (mo_four (v2 v 203 0 0) xa) xb) xc) xd) xe)))
theorem w_mo_feed {X : PX} {d b : Nat} {v : VS} {xa : Int} {xb : Int} {xc : Int} {xd : Int} {xe : Int} (hX : XI v)  {Q : Option PV → Nat → VS → Prop} (hQ : XI (mo_feed v xa xb xc xd xe).2 → Q (some (.inl (mo_feed v xa xb xc xd xe).1)) b (mo_feed v xa xb xc xd xe).2) : WV X (d + 1) 206 0 [some (.inr (.inr (some 203))), some (.inl xa), some (.inl xb), some (.inl xc), some (.inl xd), some (.inl xe)] [] b v Q := by
  rw [mo_feed] at hQ
  refine r_ex 2 (pc' := 2) (lo' := [some (.inr (.inr (some 203))), some (.inl xa), some (.inl xb), some (.inl xc), some (.inl xd), some (.inl xe)]) (st' := [.inl 0, .inr (.inr (some 203))]) rfl ?_
  refine r_puti2 (j := 0) (pc' := 5) (pc0 := 2) (len := 3) rfl (s_203 _) rfl rfl rfl (Or.inl rfl) rfl rfl ?_
  have hX_1 : XI (v2 v 203 0 0) := XI.put hX trivial
  refine r_ex 5 (pc' := 15) (lo' := [some (.inr (.inr (some 203))), some (.inl xa), some (.inl xb), some (.inl xc), some (.inl xd), some (.inl xe)]) (st' := [.inl 2000, .inl ((v 203 6) + 20)]) rfl ?_
  have hb_2 : 0 ≤ (v 203 6) ∧ (v 203 6) ≤ 2000 := hX_1 203 6
  refine n_ic_le (pc0 := 15) (len := 3) (t := 20) rfl (by first | assumption | omega | (unfold R32 at *; omega) | (unfold R64 at *; omega) | (simp only [R32, R64] at *; omega)) (by first | assumption | omega | (unfold R32 at *; omega) | (unfold R64 at *; omega) | (simp only [R32, R64] at *; omega)) (fun h_15 => ?_) (fun h_15 => ?_)
  · show WV _ _ _ 20 _ _ _ _ _
    rw [if_neg h_15] at hQ
    refine r_ex 2 (pc' := 22) (lo' := [some (.inr (.inr (some 203))), some (.inl xa), some (.inl xb), some (.inl xc), some (.inl xd), some (.inl xe)]) (st' := [.inl xa, .inr (.inr (some 203))]) rfl ?_
    have hp_3 : ((v2 v 203 0 0) 203 6) ≤ 1996 := (show (v 203 6) ≤ 1996 from (by first | assumption | omega | (unfold R32 at *; omega) | (unfold R64 at *; omega) | (simp only [R32, R64] at *; omega)))
    refine r_call (m := 207) (args := [.inr (.inr (some 203)), .inl xa]) (n' := 206) (pc' := 25) (lo' := [some (.inr (.inr (some 203))), some (.inl xa), some (.inl xb), some (.inl xc), some (.inl xd), some (.inl xe)]) (st' := []) (I := .invokevirtual 207) (pc0 := 22) (len := 3) rfl rfl rfl (e_mo_four hX_1 hp_3) ?_
    show WV _ _ _ 25 _ [] _ (mo_four (v2 v 203 0 0) xa) _
    have hX_4 : XI (mo_four (v2 v 203 0 0) xa) := i_mo_four (v := (v2 v 203 0 0)) (x := xa) hX_1 hp_3
    have hb_5 : ((mo_four (v2 v 203 0 0) xa) 203 6) = (v 203 6) + 4 := n_mo_four (v := (v2 v 203 0 0)) (x := xa) hX_1 hp_3
    refine r_ex 2 (pc' := 27) (lo' := [some (.inr (.inr (some 203))), some (.inl xa), some (.inl xb), some (.inl xc), some (.inl xd), some (.inl xe)]) (st' := [.inl xb, .inr (.inr (some 203))]) rfl ?_
    have hp_6 : ((mo_four (v2 v 203 0 0) xa) 203 6) ≤ 1996 := (show ((mo_four (v2 v 203 0 0) xa) 203 6) ≤ 1996 from (by first | assumption | omega | (unfold R32 at *; omega) | (unfold R64 at *; omega) | (simp only [R32, R64] at *; omega)))
    refine r_call (m := 207) (args := [.inr (.inr (some 203)), .inl xb]) (n' := 206) (pc' := 30) (lo' := [some (.inr (.inr (some 203))), some (.inl xa), some (.inl xb), some (.inl xc), some (.inl xd), some (.inl xe)]) (st' := []) (I := .invokevirtual 207) (pc0 := 27) (len := 3) rfl rfl rfl (e_mo_four hX_4 hp_6) ?_
    show WV _ _ _ 30 _ [] _ (mo_four (mo_four (v2 v 203 0 0) xa) xb) _
    have hX_7 : XI (mo_four (mo_four (v2 v 203 0 0) xa) xb) := i_mo_four (v := (mo_four (v2 v 203 0 0) xa)) (x := xb) hX_4 hp_6
    have hb_8 : ((mo_four (mo_four (v2 v 203 0 0) xa) xb) 203 6) = ((mo_four (v2 v 203 0 0) xa) 203 6) + 4 := n_mo_four (v := (mo_four (v2 v 203 0 0) xa)) (x := xb) hX_4 hp_6
    refine r_ex 2 (pc' := 32) (lo' := [some (.inr (.inr (some 203))), some (.inl xa), some (.inl xb), some (.inl xc), some (.inl xd), some (.inl xe)]) (st' := [.inl xc, .inr (.inr (some 203))]) rfl ?_
    have hp_9 : ((mo_four (mo_four (v2 v 203 0 0) xa) xb) 203 6) ≤ 1996 := (show ((mo_four (mo_four (v2 v 203 0 0) xa) xb) 203 6) ≤ 1996 from (by first | assumption | omega | (unfold R32 at *; omega) | (unfold R64 at *; omega) | (simp only [R32, R64] at *; omega)))
    refine r_call (m := 207) (args := [.inr (.inr (some 203)), .inl xc]) (n' := 206) (pc' := 35) (lo' := [some (.inr (.inr (some 203))), some (.inl xa), some (.inl xb), some (.inl xc), some (.inl xd), some (.inl xe)]) (st' := []) (I := .invokevirtual 207) (pc0 := 32) (len := 3) rfl rfl rfl (e_mo_four hX_7 hp_9) ?_
    show WV _ _ _ 35 _ [] _ (mo_four (mo_four (mo_four (v2 v 203 0 0) xa) xb) xc) _
    have hX_10 : XI (mo_four (mo_four (mo_four (v2 v 203 0 0) xa) xb) xc) := i_mo_four (v := (mo_four (mo_four (v2 v 203 0 0) xa) xb)) (x := xc) hX_7 hp_9
    have hb_11 : ((mo_four (mo_four (mo_four (v2 v 203 0 0) xa) xb) xc) 203 6) = ((mo_four (mo_four (v2 v 203 0 0) xa) xb) 203 6) + 4 := n_mo_four (v := (mo_four (mo_four (v2 v 203 0 0) xa) xb)) (x := xc) hX_7 hp_9
    refine r_ex 2 (pc' := 38) (lo' := [some (.inr (.inr (some 203))), some (.inl xa), some (.inl xb), some (.inl xc), some (.inl xd), some (.inl xe)]) (st' := [.inl xd, .inr (.inr (some 203))]) rfl ?_
    have hp_12 : ((mo_four (mo_four (mo_four (v2 v 203 0 0) xa) xb) xc) 203 6) ≤ 1996 := (show ((mo_four (mo_four (mo_four (v2 v 203 0 0) xa) xb) xc) 203 6) ≤ 1996 from (by first | assumption | omega | (unfold R32 at *; omega) | (unfold R64 at *; omega) | (simp only [R32, R64] at *; omega)))
    refine r_call (m := 207) (args := [.inr (.inr (some 203)), .inl xd]) (n' := 206) (pc' := 41) (lo' := [some (.inr (.inr (some 203))), some (.inl xa), some (.inl xb), some (.inl xc), some (.inl xd), some (.inl xe)]) (st' := []) (I := .invokevirtual 207) (pc0 := 38) (len := 3) rfl rfl rfl (e_mo_four hX_10 hp_12) ?_
    show WV _ _ _ 41 _ [] _ (mo_four (mo_four (mo_four (mo_four (v2 v 203 0 0) xa) xb) xc) xd) _
    have hX_13 : XI (mo_four (mo_four (mo_four (mo_four (v2 v 203 0 0) xa) xb) xc) xd) := i_mo_four (v := (mo_four (mo_four (mo_four (v2 v 203 0 0) xa) xb) xc)) (x := xd) hX_10 hp_12
    have hb_14 : ((mo_four (mo_four (mo_four (mo_four (v2 v 203 0 0) xa) xb) xc) xd) 203 6) = ((mo_four (mo_four (mo_four (v2 v 203 0 0) xa) xb) xc) 203 6) + 4 := n_mo_four (v := (mo_four (mo_four (mo_four (v2 v 203 0 0) xa) xb) xc)) (x := xd) hX_10 hp_12
    refine r_ex 2 (pc' := 44) (lo' := [some (.inr (.inr (some 203))), some (.inl xa), some (.inl xb), some (.inl xc), some (.inl xd), some (.inl xe)]) (st' := [.inl xe, .inr (.inr (some 203))]) rfl ?_
    have hp_15 : ((mo_four (mo_four (mo_four (mo_four (v2 v 203 0 0) xa) xb) xc) xd) 203 6) ≤ 1996 := (show ((mo_four (mo_four (mo_four (mo_four (v2 v 203 0 0) xa) xb) xc) xd) 203 6) ≤ 1996 from (by first | assumption | omega | (unfold R32 at *; omega) | (unfold R64 at *; omega) | (simp only [R32, R64] at *; omega)))
    refine r_call (m := 207) (args := [.inr (.inr (some 203)), .inl xe]) (n' := 206) (pc' := 47) (lo' := [some (.inr (.inr (some 203))), some (.inl xa), some (.inl xb), some (.inl xc), some (.inl xd), some (.inl xe)]) (st' := []) (I := .invokevirtual 207) (pc0 := 44) (len := 3) rfl rfl rfl (e_mo_four hX_13 hp_15) ?_
    show WV _ _ _ 47 _ [] _ (mo_four (mo_four (mo_four (mo_four (mo_four (v2 v 203 0 0) xa) xb) xc) xd) xe) _
    have hX_16 : XI (mo_four (mo_four (mo_four (mo_four (mo_four (v2 v 203 0 0) xa) xb) xc) xd) xe) := i_mo_four (v := (mo_four (mo_four (mo_four (mo_four (v2 v 203 0 0) xa) xb) xc) xd)) (x := xe) hX_13 hp_15
    have hb_17 : ((mo_four (mo_four (mo_four (mo_four (mo_four (v2 v 203 0 0) xa) xb) xc) xd) xe) 203 6) = ((mo_four (mo_four (mo_four (mo_four (v2 v 203 0 0) xa) xb) xc) xd) 203 6) + 4 := n_mo_four (v := (mo_four (mo_four (mo_four (mo_four (v2 v 203 0 0) xa) xb) xc) xd)) (x := xe) hX_13 hp_15
    refine r_ex 2 (pc' := 51) (lo' := [some (.inr (.inr (some 203))), some (.inl xa), some (.inl xb), some (.inl xc), some (.inl xd), some (.inl xe)]) (st' := [.inl ((mo_four (mo_four (mo_four (mo_four (mo_four (v2 v 203 0 0) xa) xb) xc) xd) xe) 203 6)]) rfl ?_
    have hb_18 : 0 ≤ ((mo_four (mo_four (mo_four (mo_four (mo_four (v2 v 203 0 0) xa) xb) xc) xd) xe) 203 6) ∧ ((mo_four (mo_four (mo_four (mo_four (mo_four (v2 v 203 0 0) xa) xb) xc) xd) xe) 203 6) ≤ 2000 := hX_16 203 6
    refine r_ret (rr := some (.inl ((mo_four (mo_four (mo_four (mo_four (mo_four (v2 v 203 0 0) xa) xb) xc) xd) xe) 203 6))) (I := .ireturn) (pc0 := 51) (len := 1) rfl rfl ?_
    exact hQ hX_16 
  · show WV _ _ _ 18 _ _ _ _ _
    rw [if_pos h_15] at hQ
    refine r_ex 1 (pc' := 19) (lo' := [some (.inr (.inr (some 203))), some (.inl xa), some (.inl xb), some (.inl xc), some (.inl xd), some (.inl xe)]) (st' := [.inl (-1)]) rfl ?_
    refine r_ret (rr := some (.inl (-1))) (I := .ireturn) (pc0 := 19) (len := 1) rfl rfl ?_
    exact hQ hX_1 

theorem e_mo_feed {X : PX} {d b : Nat} {v : VS} {xa : Int} {xb : Int} {xc : Int} {xd : Int} {xe : Int} (hX : XI v)  : EvV X (d + 1) 206 [.inr (.inr (some 203)), .inl xa, .inl xb, .inl xc, .inl xd, .inl xe] b v (some (.inl (mo_feed v xa xb xc xd xe).1)) b ((mo_feed v xa xb xc xd xe).2) := EvV.of (w_mo_feed hX  (fun _ => ⟨rfl, rfl, rfl⟩))

theorem i_mo_feed {v : VS} {xa : Int} {xb : Int} {xc : Int} {xd : Int} {xe : Int} (hX : XI v)  : XI ((mo_feed v xa xb xc xd xe).2) := by
  have q : WV (0, fun _ => 0, none) (0 + 1) 206 0 [some (.inr (.inr (some 203))), some (.inl xa), some (.inl xb), some (.inl xc), some (.inl xd), some (.inl xe)] [] 1 v (fun _ _ _ => XI ((mo_feed v xa xb xc xd xe).2)) := w_mo_feed (X := (0, fun _ => 0, none)) (d := 0) (b := 1) hX  (fun q => q)
  obtain ⟨_, _, _, _, _, _, _, q⟩ := q
  exact q

theorem o_mo_feed {rk : Nat} {v : VS} {xa : Int} {xb : Int} {xc : Int} {xd : Int} {xe : Int} (hk : (rk < 203 ∨ 203 < rk) ∧ (rk < 208 ∨ 208 < rk)) : (mo_feed v xa xb xc xd xe).2 rk = v rk := by
  unfold mo_feed
  by_cases hc_ : 2000 < ((v 203 6) + 20)
  · rw [if_pos hc_]
    all_goals (show (v2 v 203 0 0) rk = _)
    all_goals (rw [v2_row (by omega)])
  · rw [if_neg hc_]
    all_goals (show (mo_four (mo_four (mo_four (mo_four (mo_four (v2 v 203 0 0) xa) xb) xc) xd) xe) rk = _)
    all_goals (rw [o_mo_four (by omega), o_mo_four (by omega), o_mo_four (by omega), o_mo_four (by omega), o_mo_four (by omega), v2_row (by omega)])

def mo_end (v : VS) (n : Int) : Int × VS :=
  (if (0 : Int) ≤ n ∧ n ≤ (v 203 6) then (n, (v2 (v2 v 203 0 0) 203 6 n)) else ((-1), (v2 v 203 0 0)))
theorem w_mo_end {X : PX} {d b : Nat} {v : VS} {n : Int} (hX : XI v) (hp_a : R32 n) {Q : Option PV → Nat → VS → Prop} (hQ : XI (mo_end v n).2 → Q (some (.inl (mo_end v n).1)) b (mo_end v n).2) : WV X (d + 1) 208 0 [some (.inr (.inr (some 203))), some (.inl n)] [] b v Q := by
  rw [mo_end] at hQ
  refine r_ex 2 (pc' := 2) (lo' := [some (.inr (.inr (some 203))), some (.inl n)]) (st' := [.inl 0, .inr (.inr (some 203))]) rfl ?_
  refine r_puti2 (j := 0) (pc' := 5) (pc0 := 2) (len := 3) rfl (s_203 _) rfl rfl rfl (Or.inl rfl) rfl rfl ?_
  have hX_1 : XI (v2 v 203 0 0) := XI.put hX trivial
  refine r_ex 1 (pc' := 6) (lo' := [some (.inr (.inr (some 203))), some (.inl n)]) (st' := [.inl n]) rfl ?_
  refine n_i2l (pc' := 7) (pc0 := 6) (len := 1) rfl (by first | assumption | omega | (unfold R32 at *; omega) | (unfold R64 at *; omega) | (simp only [R32, R64] at *; omega)) rfl ?_
  refine r_ex 3 (pc' := 12) (lo' := [some (.inr (.inr (some 203))), some (.inl n)]) (st' := [.inl (v 203 6), .inr (.inl 0), .inr (.inl n)]) rfl ?_
  have hb_2 : 0 ≤ (v 203 6) ∧ (v 203 6) ≤ 2000 := hX_1 203 6
  refine n_i2l (pc' := 13) (pc0 := 12) (len := 1) rfl (by first | assumption | omega | (unfold R32 at *; omega) | (unfold R64 at *; omega) | (simp only [R32, R64] at *; omega)) rfl ?_
  have hp_3 : R64 n := (by first | assumption | omega | (unfold R32 at *; omega) | (unfold R64 at *; omega) | (simp only [R32, R64] at *; omega))
  have hp_4 : R64 (0 : Int) := (by first | assumption | omega | (unfold R32 at *; omega) | (unfold R64 at *; omega) | (simp only [R32, R64] at *; omega))
  have hp_5 : R64 (v 203 6) := (by first | assumption | omega | (unfold R32 at *; omega) | (unfold R64 at *; omega) | (simp only [R32, R64] at *; omega))
  refine r_callb (P := (0 : Int) ≤ n ∧ n ≤ (v 203 6)) (m := 202) (args := [.inr (.inl n), .inr (.inl 0), .inr (.inl (v 203 6))]) (n' := 208) (pc' := 16) (lo' := [some (.inr (.inr (some 203))), some (.inl n)]) (st' := []) (I := .invokestatic 202) (pc0 := 13) (len := 3) rfl rfl rfl (e_mo_in hX_1 hp_3 hp_4 hp_5) (fun h_13 => ?_) (fun h_13 => ?_)
  · show WV _ _ _ 16 _ _ _ _ _
    rw [if_pos h_13] at hQ
    refine r_ex 3 (pc' := 23) (lo' := [some (.inr (.inr (some 203))), some (.inl n)]) (st' := [.inl n, .inr (.inr (some 203))]) rfl ?_
    refine r_puti2 (j := 6) (pc' := 26) (pc0 := 23) (len := 3) rfl (s_203 _) rfl rfl rfl (Or.inl rfl) rfl rfl ?_
    have hX_6 : XI (v2 (v2 v 203 0 0) 203 6 n) := XI.put hX_1 (show 0 ≤ n ∧ n ≤ 2000 from (by first | assumption | omega | (unfold R32 at *; omega) | (unfold R64 at *; omega) | (simp only [R32, R64] at *; omega)))
    refine r_ex 1 (pc' := 27) (lo' := [some (.inr (.inr (some 203))), some (.inl n)]) (st' := [.inl n]) rfl ?_
    refine r_ret (rr := some (.inl n)) (I := .ireturn) (pc0 := 27) (len := 1) rfl rfl ?_
    exact hQ hX_6 
  · show WV _ _ _ 16 _ _ _ _ _
    rw [if_neg h_13] at hQ
    refine r_ex 2 (pc' := 20) (lo' := [some (.inr (.inr (some 203))), some (.inl n)]) (st' := [.inl (-1)]) rfl ?_
    refine r_ret (rr := some (.inl (-1))) (I := .ireturn) (pc0 := 20) (len := 1) rfl rfl ?_
    exact hQ hX_1 

theorem e_mo_end {X : PX} {d b : Nat} {v : VS} {n : Int} (hX : XI v) (hp_a : R32 n) : EvV X (d + 1) 208 [.inr (.inr (some 203)), .inl n] b v (some (.inl (mo_end v n).1)) b ((mo_end v n).2) := EvV.of (w_mo_end hX hp_a (fun _ => ⟨rfl, rfl, rfl⟩))

theorem i_mo_end {v : VS} {n : Int} (hX : XI v) (hp_a : R32 n) : XI ((mo_end v n).2) := by
  have q : WV (0, fun _ => 0, none) (0 + 1) 208 0 [some (.inr (.inr (some 203))), some (.inl n)] [] 1 v (fun _ _ _ => XI ((mo_end v n).2)) := w_mo_end (X := (0, fun _ => 0, none)) (d := 0) (b := 1) hX hp_a (fun q => q)
  obtain ⟨_, _, _, _, _, _, _, q⟩ := q
  exact q

theorem o_mo_end {rk : Nat} {v : VS} {n : Int} (hk : (rk < 203 ∨ 203 < rk)) : (mo_end v n).2 rk = v rk := by
  unfold mo_end
  by_cases hc_ : (0 : Int) ≤ n ∧ n ≤ (v 203 6)
  · rw [if_pos hc_]
    all_goals (show (v2 (v2 v 203 0 0) 203 6 n) rk = _)
    all_goals (rw [v2_row (by omega), v2_row (by omega)])
  · rw [if_neg hc_]
    all_goals (show (v2 v 203 0 0) rk = _)
    all_goals (rw [v2_row (by omega)])

def mo_fault (v : VS) (w : Int) : Int × VS :=
  (if w = 0 then ((v 203 14), (v2 v 203 0 0)) else (if w = 1 then ((v 203 15), (v2 v 203 0 0)) else ((-1), (v2 v 203 0 0))))
theorem w_mo_fault {X : PX} {d b : Nat} {v : VS} {w : Int} (hX : XI v) (hp_a : R32 w) {Q : Option PV → Nat → VS → Prop} (hQ : XI (mo_fault v w).2 → Q (some (.inl (mo_fault v w).1)) b (mo_fault v w).2) : WV X d 209 0 [some (.inr (.inr (some 203))), some (.inl w)] [] b v Q := by
  rw [mo_fault] at hQ
  refine r_ex 2 (pc' := 2) (lo' := [some (.inr (.inr (some 203))), some (.inl w)]) (st' := [.inl 0, .inr (.inr (some 203))]) rfl ?_
  refine r_puti2 (j := 0) (pc' := 5) (pc0 := 2) (len := 3) rfl (s_203 _) rfl rfl rfl (Or.inl rfl) rfl rfl ?_
  have hX_1 : XI (v2 v 203 0 0) := XI.put hX trivial
  refine r_ex 1 (pc' := 6) (lo' := [some (.inr (.inr (some 203))), some (.inl w)]) (st' := [.inl w]) rfl ?_
  refine n_if_ne (pc0 := 6) (len := 3) (t := 16) rfl (by first | assumption | omega | (unfold R32 at *; omega) | (unfold R64 at *; omega) | (simp only [R32, R64] at *; omega)) (fun h_6 => ?_) (fun h_6 => ?_)
  · show WV _ _ _ 16 _ _ _ _ _
    rw [if_neg h_6] at hQ
    refine r_ex 2 (pc' := 18) (lo' := [some (.inr (.inr (some 203))), some (.inl w)]) (st' := [.inl 1, .inl w]) rfl ?_
    refine n_ic_ne (pc0 := 18) (len := 3) (t := 28) rfl (by first | assumption | omega | (unfold R32 at *; omega) | (unfold R64 at *; omega) | (simp only [R32, R64] at *; omega)) (by first | assumption | omega | (unfold R32 at *; omega) | (unfold R64 at *; omega) | (simp only [R32, R64] at *; omega)) (fun h_18 => ?_) (fun h_18 => ?_)
    · show WV _ _ _ 28 _ _ _ _ _
      rw [if_neg h_18] at hQ
      refine r_ex 1 (pc' := 29) (lo' := [some (.inr (.inr (some 203))), some (.inl w)]) (st' := [.inl (-1)]) rfl ?_
      refine r_ret (rr := some (.inl (-1))) (I := .ireturn) (pc0 := 29) (len := 1) rfl rfl ?_
      exact hQ hX_1 
    · show WV _ _ _ 21 _ _ _ _ _
      rw [if_pos h_18] at hQ
      refine r_ex 3 (pc' := 29) (lo' := [some (.inr (.inr (some 203))), some (.inl w)]) (st' := [.inl (v 203 15)]) rfl ?_
      have hb_2 : -1 ≤ (v 203 15) ∧ (v 203 15) ≤ 2000 := hX_1 203 15
      refine r_ret (rr := some (.inl (v 203 15))) (I := .ireturn) (pc0 := 29) (len := 1) rfl rfl ?_
      exact hQ hX_1 
  · show WV _ _ _ 9 _ _ _ _ _
    rw [if_pos h_6] at hQ
    refine r_ex 3 (pc' := 29) (lo' := [some (.inr (.inr (some 203))), some (.inl w)]) (st' := [.inl (v 203 14)]) rfl ?_
    have hb_3 : 0 ≤ (v 203 14) ∧ (v 203 14) ≤ 3 := hX_1 203 14
    refine r_ret (rr := some (.inl (v 203 14))) (I := .ireturn) (pc0 := 29) (len := 1) rfl rfl ?_
    exact hQ hX_1 

theorem e_mo_fault {X : PX} {d b : Nat} {v : VS} {w : Int} (hX : XI v) (hp_a : R32 w) : EvV X d 209 [.inr (.inr (some 203)), .inl w] b v (some (.inl (mo_fault v w).1)) b ((mo_fault v w).2) := EvV.of (w_mo_fault hX hp_a (fun _ => ⟨rfl, rfl, rfl⟩))

theorem i_mo_fault {v : VS} {w : Int} (hX : XI v) (hp_a : R32 w) : XI ((mo_fault v w).2) := by
  have q : WV (0, fun _ => 0, none) 0 209 0 [some (.inr (.inr (some 203))), some (.inl w)] [] 1 v (fun _ _ _ => XI ((mo_fault v w).2)) := w_mo_fault (X := (0, fun _ => 0, none)) (d := 0) (b := 1) hX hp_a (fun q => q)
  obtain ⟨_, _, _, _, _, _, _, q⟩ := q
  exact q

theorem o_mo_fault {rk : Nat} {v : VS} {w : Int} (hk : (rk < 203 ∨ 203 < rk)) : (mo_fault v w).2 rk = v rk := by
  unfold mo_fault
  by_cases hc_ : w = 0
  · rw [if_pos hc_]
    all_goals (show (v2 v 203 0 0) rk = _)
    all_goals (rw [v2_row (by omega)])
  · rw [if_neg hc_]
    by_cases hc_ : w = 1
    · rw [if_pos hc_]
      all_goals (show (v2 v 203 0 0) rk = _)
      all_goals (rw [v2_row (by omega)])
    · rw [if_neg hc_]
      all_goals (show (v2 v 203 0 0) rk = _)
      all_goals (rw [v2_row (by omega)])

def mo_isByte (v : VS) (k : Int) (l : Int) (g : Int) : Int :=
  (if k < (v 203 6) then (if (v 208 ((k).toNat)) < l then 0 else (if g < (v 208 ((k).toNat)) then 0 else 1)) else 0)
theorem w_mo_isByte {X : PX} {d b : Nat} {v : VS} {k : Int} {l : Int} {g : Int} (hX : XI v) (hp_a : 0 ≤ k ∧ k ≤ 2000) (hp_b : R32 l) (hp_c : R32 g) {Q : Option PV → Nat → VS → Prop} (hQ : Q (some (.inl (mo_isByte v k l g))) b v) : WV X d 214 0 [some (.inr (.inr (some 203))), some (.inl k), some (.inl l), some (.inl g)] [] b v Q := by
  rw [mo_isByte] at hQ
  refine r_ex 3 (pc' := 5) (lo' := [some (.inr (.inr (some 203))), some (.inl k), some (.inl l), some (.inl g)]) (st' := [.inl (v 203 6), .inl k]) rfl ?_
  have hb_1 : 0 ≤ (v 203 6) ∧ (v 203 6) ≤ 2000 := hX 203 6
  refine n_ic_ge (pc0 := 5) (len := 3) (t := 32) rfl (by first | assumption | omega | (unfold R32 at *; omega) | (unfold R64 at *; omega) | (simp only [R32, R64] at *; omega)) (by first | assumption | omega | (unfold R32 at *; omega) | (unfold R64 at *; omega) | (simp only [R32, R64] at *; omega)) (fun h_5 => ?_) (fun h_5 => ?_)
  · show WV _ _ _ 32 _ _ _ _ _
    rw [if_neg h_5] at hQ
    refine r_ex 1 (pc' := 33) (lo' := [some (.inr (.inr (some 203))), some (.inl k), some (.inl l), some (.inl g)]) (st' := [.inl 0]) rfl ?_
    refine r_ret (rr := some (.inl 0)) (I := .ireturn) (pc0 := 33) (len := 1) rfl rfl ?_
    exact hQ 
  · show WV _ _ _ 8 _ _ _ _ _
    rw [if_pos h_5] at hQ
    refine r_ex 3 (pc' := 13) (lo' := [some (.inr (.inr (some 203))), some (.inl k), some (.inl l), some (.inl g)]) (st' := [.inl k, .inr (.inr (some 208))]) rfl ?_
    refine r_bald2 (x := (v 208 ((k).toNat))) (pc' := 14) (pc0 := 13) (len := 1) rfl (s_208 _) (Or.inl rfl) (by first | assumption | omega | (unfold R32 at *; omega) | (unfold R64 at *; omega) | (simp only [R32, R64] at *; omega)) (by decide) rfl rfl ?_
    have hb_2 : -128 ≤ (v 208 ((k).toNat)) ∧ (v 208 ((k).toNat)) ≤ 127 := hX 208 ((k).toNat)
    refine r_ex 1 (pc' := 15) (lo' := [some (.inr (.inr (some 203))), some (.inl k), some (.inl l), some (.inl g)]) (st' := [.inl l, .inl (v 208 ((k).toNat))]) rfl ?_
    refine n_ic_lt (pc0 := 15) (len := 3) (t := 32) rfl (by first | assumption | omega | (unfold R32 at *; omega) | (unfold R64 at *; omega) | (simp only [R32, R64] at *; omega)) (by first | assumption | omega | (unfold R32 at *; omega) | (unfold R64 at *; omega) | (simp only [R32, R64] at *; omega)) (fun h_15 => ?_) (fun h_15 => ?_)
    · show WV _ _ _ 32 _ _ _ _ _
      rw [if_pos h_15] at hQ
      refine r_ex 1 (pc' := 33) (lo' := [some (.inr (.inr (some 203))), some (.inl k), some (.inl l), some (.inl g)]) (st' := [.inl 0]) rfl ?_
      refine r_ret (rr := some (.inl 0)) (I := .ireturn) (pc0 := 33) (len := 1) rfl rfl ?_
      exact hQ 
    · show WV _ _ _ 18 _ _ _ _ _
      rw [if_neg h_15] at hQ
      refine r_ex 3 (pc' := 23) (lo' := [some (.inr (.inr (some 203))), some (.inl k), some (.inl l), some (.inl g)]) (st' := [.inl k, .inr (.inr (some 208))]) rfl ?_
      refine r_bald2 (x := (v 208 ((k).toNat))) (pc' := 24) (pc0 := 23) (len := 1) rfl (s_208 _) (Or.inl rfl) (by first | assumption | omega | (unfold R32 at *; omega) | (unfold R64 at *; omega) | (simp only [R32, R64] at *; omega)) (by decide) rfl rfl ?_
      refine r_ex 1 (pc' := 25) (lo' := [some (.inr (.inr (some 203))), some (.inl k), some (.inl l), some (.inl g)]) (st' := [.inl g, .inl (v 208 ((k).toNat))]) rfl ?_
      refine n_ic_gt (pc0 := 25) (len := 3) (t := 32) rfl (by first | assumption | omega | (unfold R32 at *; omega) | (unfold R64 at *; omega) | (simp only [R32, R64] at *; omega)) (by first | assumption | omega | (unfold R32 at *; omega) | (unfold R64 at *; omega) | (simp only [R32, R64] at *; omega)) (fun h_25 => ?_) (fun h_25 => ?_)
      · show WV _ _ _ 32 _ _ _ _ _
        rw [if_pos h_25] at hQ
        refine r_ex 1 (pc' := 33) (lo' := [some (.inr (.inr (some 203))), some (.inl k), some (.inl l), some (.inl g)]) (st' := [.inl 0]) rfl ?_
        refine r_ret (rr := some (.inl 0)) (I := .ireturn) (pc0 := 33) (len := 1) rfl rfl ?_
        exact hQ 
      · show WV _ _ _ 28 _ _ _ _ _
        rw [if_neg h_25] at hQ
        refine r_ex 2 (pc' := 33) (lo' := [some (.inr (.inr (some 203))), some (.inl k), some (.inl l), some (.inl g)]) (st' := [.inl 1]) rfl ?_
        refine r_ret (rr := some (.inl 1)) (I := .ireturn) (pc0 := 33) (len := 1) rfl rfl ?_
        exact hQ 

theorem q_mo_isByte {X : PX} {d b : Nat} {v : VS} {k : Int} {l : Int} {g : Int} (hX : XI v) (hp_a : 0 ≤ k ∧ k ≤ 2000) (hp_b : R32 l) (hp_c : R32 g) : EvV X d 214 [.inr (.inr (some 203)), .inl k, .inl l, .inl g] b v (some (.inl (mo_isByte v k l g))) b v := EvV.of (w_mo_isByte hX hp_a hp_b hp_c (⟨rfl, rfl, rfl⟩))

theorem p_mo_isByte {v : VS} {k : Int} {l : Int} {g : Int} : (mo_isByte v k l g) = (if k < v 203 6 ∧ l ≤ v 208 k.toNat ∧ v 208 k.toNat ≤ g then 1 else 0) := by
  unfold mo_isByte
  repeat' split
  all_goals omega

theorem e_mo_isByte {X : PX} {d b : Nat} {v : VS} {k : Int} {l : Int} {g : Int} (hX : XI v) (hp_a : 0 ≤ k ∧ k ≤ 2000) (hp_b : R32 l) (hp_c : R32 g) : EvV X d 214 [.inr (.inr (some 203)), .inl k, .inl l, .inl g] b v (some (.inl (if k < v 203 6 ∧ l ≤ v 208 k.toNat ∧ v 208 k.toNat ≤ g then 1 else 0))) b v := by
  rw [← p_mo_isByte]
  exact q_mo_isByte hX hp_a hp_b hp_c

theorem p27 {n : Int} : 0 ≤ n → n ≤ 11 → (27 : Int) ^ (n + 1).toNat = 27 * 27 ^ n.toNat ∧ (27 : Int) ^ n.toNat ≤ 5559060566555523 ∧ 1 ≤ (27 : Int) ^ n.toNat := by
  intro h0 h1
  obtain ⟨m, rfl⟩ := Int.eq_ofNat_of_zero_le h0
  have e : (List.range 12).all (fun m => decide ((27 : Int) ^ (m + 1) = 27 * 27 ^ m ∧ (27 : Int) ^ m ≤ 5559060566555523 ∧ 1 ≤ (27 : Int) ^ m)) = true := by decide +kernel
  have q := List.all_eq_true.mp e m (List.mem_range.mpr (by omega))
  rw [show ((m : Int) + 1).toNat = m + 1 by omega, show ((m : Int)).toNat = m by omega]
  exact of_decide_eq_true q

def LT1 (v : VS) : Prop := v 203 7 < v 203 6 ∧ (97 : Int) ≤ v 208 (v 203 7).toNat ∧ v 208 (v 203 7).toNat ≤ (122 : Int)
def LD1 (v : VS) : Prop := v 203 7 < v 203 6 ∧ (48 : Int) ≤ v 208 (v 203 7).toNat ∧ v 208 (v 203 7).toNat ≤ (57 : Int)

def mo_next_0 : Nat → VS → VS
  | 0, v => v
  | f + 1, v => (if (v 203 7) < (v 203 6) ∧ (32 : Int) ≤ (v 208 ((v 203 7).toNat)) ∧ (v 208 ((v 203 7).toNat)) ≤ (32 : Int) then (mo_next_0 f (v2 v 203 7 ((v 203 7) + 1))) else (if (v 203 7) < (v 203 6) ∧ (10 : Int) ≤ (v 208 ((v 203 7).toNat)) ∧ (v 208 ((v 203 7).toNat)) ≤ (10 : Int) then (mo_next_0 f (v2 v 203 7 ((v 203 7) + 1))) else v))
def mo_next_102 : Nat → VS → Int → VS
  | 0, v, n => v
  | f + 1, v, n => (if (v 203 7) < (v 203 6) ∧ (97 : Int) ≤ (v 208 ((v 203 7).toNat)) ∧ (v 208 ((v 203 7).toNat)) ≤ (122 : Int) then (if 11 < n then (if 11 < n then (mo_next_102 f (v2 (v2 (v2 v 203 11 (-1)) 203 11 (-1)) 203 7 ((v 203 7) + 1)) (n + 1)) else (mo_next_102 f (v2 (v2 v 203 11 (-1)) 203 7 ((v 203 7) + 1)) (n + 1))) else (if 11 < n then (mo_next_102 f (v2 (v2 (v2 v 203 11 (((27 * (v 203 11)) + (v 208 (((v 203 7)).toNat))) - 96)) 203 11 (-1)) 203 7 ((v 203 7) + 1)) (n + 1)) else (mo_next_102 f (v2 (v2 v 203 11 (((27 * (v 203 11)) + (v 208 (((v 203 7)).toNat))) - 96)) 203 7 ((v 203 7) + 1)) (n + 1)))) else v)
def mo_next_208 : Nat → VS → VS
  | 0, v => v
  | f + 1, v => (if (v 203 7) < (v 203 6) ∧ (48 : Int) ≤ (v 208 ((v 203 7).toNat)) ∧ (v 208 ((v 203 7).toNat)) ≤ (57 : Int) then (if 100000 < (v 203 10) then (mo_next_208 f (v2 (v2 v 203 10 1000000) 203 7 ((v 203 7) + 1))) else (mo_next_208 f (v2 (v2 v 203 10 (((10 * (v 203 10)) + (v 208 (((v 203 7)).toNat))) - 48)) 203 7 ((v 203 7) + 1)))) else v)
def mo_next_43 (v : VS)  : VS :=
  (if (v 203 7) = (v 203 6) then (v2 (v2 (v2 (v2 v 203 9 (v 203 7)) 203 10 0) 203 11 0) 203 8 0) else (if (v 203 7) < (v 203 6) ∧ (97 : Int) ≤ (v 208 ((v 203 7).toNat)) ∧ (v 208 ((v 203 7).toNat)) ≤ (122 : Int) then (mo_next_102 2001 (v2 (v2 (v2 (v2 v 203 9 (v 203 7)) 203 10 0) 203 11 0) 203 8 1) 0) else (if (v 203 7) < (v 203 6) ∧ (48 : Int) ≤ (v 208 ((v 203 7).toNat)) ∧ (v 208 ((v 203 7).toNat)) ≤ (57 : Int) then (mo_next_208 2001 (v2 (v2 (v2 (v2 v 203 9 (v 203 7)) 203 10 0) 203 11 0) 203 8 2)) else (if (v 208 (((v 203 7)).toNat)) = 59 then (v2 (v2 (v2 (v2 (v2 v 203 9 (v 203 7)) 203 10 0) 203 11 0) 203 8 3) 203 7 ((v 203 7) + 1)) else (v2 (v2 (v2 (v2 (v2 v 203 9 (v 203 7)) 203 10 0) 203 11 0) 203 8 4) 203 7 ((v 203 7) + 1))))))
def mo_next (v : VS)  : VS :=
  (mo_next_43  (mo_next_0 2001 v))
theorem l_mo_next_0 {X : PX} {d b : Nat} {Q : Option PV → Nat → VS → Prop}  : ∀ (f : Nat) (v : VS)  (o1 : Option PV), XI v → ((v 203 7) ≤ (v 203 6)) → (2000 < (v 203 7) + f) → (∀ qx1 : Option PV, XI (mo_next_0 f v) → (((mo_next_0 f v) 203 7) ≤ ((mo_next_0 f v) 203 6)) → WV X (d + 1) 213 43 [some (.inr (.inr (some 203))), qx1] [] b (mo_next_0 f v) Q) → WV X (d + 1) 213 0 [some (.inr (.inr (some 203))), o1] [] b v Q := by
  intro f
  induction f with
  | zero =>
    intro v o1 hX hi_0 hf hK
    have hz7 : 0 ≤ v 203 7 ∧ v 203 7 ≤ 2000 := hX 203 7
    have hz6 : 0 ≤ v 203 6 ∧ v 203 6 ≤ 2000 := hX 203 6
    have hz10 : 0 ≤ v 203 10 ∧ v 203 10 ≤ 1000009 := hX 203 10
    have hz7 : 0 ≤ v 203 7 ∧ v 203 7 ≤ 2000 := hX 203 7
    exfalso
    omega
  | succ f ih =>
    intro v o1 hX hi_0 hf hK
    rw [mo_next_0] at hK
    have hz7 : 0 ≤ v 203 7 ∧ v 203 7 ≤ 2000 := hX 203 7
    have hz6 : 0 ≤ v 203 6 ∧ v 203 6 ≤ 2000 := hX 203 6
    have hz10 : 0 ≤ v 203 10 ∧ v 203 10 ≤ 1000009 := hX 203 10
    refine r_ex 5 (pc' := 9) (lo' := [some (.inr (.inr (some 203))), o1]) (st' := [.inl 32, .inl 32, .inl (v 203 7), .inr (.inr (some 203))]) rfl ?_
    have hb_1 : 0 ≤ (v 203 7) ∧ (v 203 7) ≤ 2000 := hX 203 7
    have hp_2 : 0 ≤ (v 203 7) ∧ (v 203 7) ≤ 2000 := (by first | assumption | omega | (unfold R32 at *; omega) | (unfold R64 at *; omega) | (simp only [R32, R64] at *; omega))
    have hp_3 : R32 (32 : Int) := (by first | assumption | omega | (unfold R32 at *; omega) | (unfold R64 at *; omega) | (simp only [R32, R64] at *; omega))
    have hp_4 : R32 (32 : Int) := (by first | assumption | omega | (unfold R32 at *; omega) | (unfold R64 at *; omega) | (simp only [R32, R64] at *; omega))
    have hb_5 : 0 ≤ v 203 6 ∧ v 203 6 ≤ 2000 := hX 203 6
    refine r_callb (P := (v 203 7) < (v 203 6) ∧ (32 : Int) ≤ (v 208 ((v 203 7).toNat)) ∧ (v 208 ((v 203 7).toNat)) ≤ (32 : Int)) (m := 214) (args := [.inr (.inr (some 203)), .inl (v 203 7), .inl 32, .inl 32]) (n' := 213) (pc' := 12) (lo' := [some (.inr (.inr (some 203))), o1]) (st' := []) (I := .invokevirtual 214) (pc0 := 9) (len := 3) rfl rfl rfl (e_mo_isByte hX hp_2 hp_3 hp_4) (fun h_9 => ?_) (fun h_9 => ?_)
    · show WV _ _ _ 12 _ _ _ _ _
      rw [if_pos h_9] at hK
      refine r_ex 6 (pc' := 37) (lo' := [some (.inr (.inr (some 203))), o1]) (st' := [.inl ((v 203 7) + 1), .inr (.inr (some 203))]) rfl ?_
      refine r_puti2 (j := 7) (pc' := 40) (pc0 := 37) (len := 3) rfl (s_203 _) rfl rfl rfl (Or.inl rfl) rfl rfl ?_
      have hX_6 : XI (v2 v 203 7 ((v 203 7) + 1)) := XI.put hX (show 0 ≤ ((v 203 7) + 1) ∧ ((v 203 7) + 1) ≤ 2000 from (by first | assumption | omega | (unfold R32 at *; omega) | (unfold R64 at *; omega) | (simp only [R32, R64] at *; omega)))
      refine r_ex 1 (pc' := 0) (lo' := [some (.inr (.inr (some 203))), o1]) (st' := []) rfl ?_
      refine ih (v2 v 203 7 ((v 203 7) + 1))  _ hX_6 (show ((v 203 7) + 1) ≤ (v 203 6) from (by first | assumption | omega | (unfold R32 at *; omega) | (unfold R64 at *; omega) | (simp only [R32, R64] at *; omega))) (show 2000 < ((v 203 7) + 1) + f from (by first | assumption | omega | (unfold R32 at *; omega) | (unfold R64 at *; omega) | (simp only [R32, R64] at *; omega))) hK
    · show WV _ _ _ 12 _ _ _ _ _
      rw [if_neg h_9] at hK
      refine r_ex 6 (pc' := 24) (lo' := [some (.inr (.inr (some 203))), o1]) (st' := [.inl 10, .inl 10, .inl (v 203 7), .inr (.inr (some 203))]) rfl ?_
      have hp_7 : 0 ≤ (v 203 7) ∧ (v 203 7) ≤ 2000 := (by first | assumption | omega | (unfold R32 at *; omega) | (unfold R64 at *; omega) | (simp only [R32, R64] at *; omega))
      have hp_8 : R32 (10 : Int) := (by first | assumption | omega | (unfold R32 at *; omega) | (unfold R64 at *; omega) | (simp only [R32, R64] at *; omega))
      have hp_9 : R32 (10 : Int) := (by first | assumption | omega | (unfold R32 at *; omega) | (unfold R64 at *; omega) | (simp only [R32, R64] at *; omega))
      refine r_callb (P := (v 203 7) < (v 203 6) ∧ (10 : Int) ≤ (v 208 ((v 203 7).toNat)) ∧ (v 208 ((v 203 7).toNat)) ≤ (10 : Int)) (m := 214) (args := [.inr (.inr (some 203)), .inl (v 203 7), .inl 10, .inl 10]) (n' := 213) (pc' := 27) (lo' := [some (.inr (.inr (some 203))), o1]) (st' := []) (I := .invokevirtual 214) (pc0 := 24) (len := 3) rfl rfl rfl (e_mo_isByte hX hp_7 hp_8 hp_9) (fun h_24 => ?_) (fun h_24 => ?_)
      · show WV _ _ _ 27 _ _ _ _ _
        rw [if_pos h_24] at hK
        refine r_ex 6 (pc' := 37) (lo' := [some (.inr (.inr (some 203))), o1]) (st' := [.inl ((v 203 7) + 1), .inr (.inr (some 203))]) rfl ?_
        refine r_puti2 (j := 7) (pc' := 40) (pc0 := 37) (len := 3) rfl (s_203 _) rfl rfl rfl (Or.inl rfl) rfl rfl ?_
        have hX_10 : XI (v2 v 203 7 ((v 203 7) + 1)) := XI.put hX (show 0 ≤ ((v 203 7) + 1) ∧ ((v 203 7) + 1) ≤ 2000 from (by first | assumption | omega | (unfold R32 at *; omega) | (unfold R64 at *; omega) | (simp only [R32, R64] at *; omega)))
        refine r_ex 1 (pc' := 0) (lo' := [some (.inr (.inr (some 203))), o1]) (st' := []) rfl ?_
        refine ih (v2 v 203 7 ((v 203 7) + 1))  _ hX_10 (show ((v 203 7) + 1) ≤ (v 203 6) from (by first | assumption | omega | (unfold R32 at *; omega) | (unfold R64 at *; omega) | (simp only [R32, R64] at *; omega))) (show 2000 < ((v 203 7) + 1) + f from (by first | assumption | omega | (unfold R32 at *; omega) | (unfold R64 at *; omega) | (simp only [R32, R64] at *; omega))) hK
      · show WV _ _ _ 27 _ _ _ _ _
        rw [if_neg h_24] at hK
        refine r_ex 1 (pc' := 43) (lo' := [some (.inr (.inr (some 203))), o1]) (st' := []) rfl ?_
        exact hK _ hX (show (v 203 7) ≤ (v 203 6) from (by first | assumption | omega | (unfold R32 at *; omega) | (unfold R64 at *; omega) | (simp only [R32, R64] at *; omega)))

theorem of_mo_next_0 {rk : Nat} (hk : (rk < 203 ∨ 203 < rk)) : ∀ (f : Nat) {v : VS} , (mo_next_0 f v ) rk = v rk := by
  intro f
  induction f with
  | zero => intro v ; rfl
  | succ f ih =>
    intro v 
    rw [mo_next_0]
    by_cases hc_ : (v 203 7) < (v 203 6) ∧ (32 : Int) ≤ (v 208 ((v 203 7).toNat)) ∧ (v 208 ((v 203 7).toNat)) ≤ (32 : Int)
    · rw [if_pos hc_]
      all_goals (rw [ih, v2_row (by omega)])
    · rw [if_neg hc_]
      by_cases hc_ : (v 203 7) < (v 203 6) ∧ (10 : Int) ≤ (v 208 ((v 203 7).toNat)) ∧ (v 208 ((v 203 7).toNat)) ≤ (10 : Int)
      · rw [if_pos hc_]
        all_goals (rw [ih, v2_row (by omega)])
      · rw [if_neg hc_]
        all_goals (show v rk = _)
        all_goals rfl
theorem o_mo_next_0 {rk : Nat} {f : Nat} {v : VS}  (hk : (rk < 203 ∨ 203 < rk)) : (mo_next_0 f v ) rk = v rk := of_mo_next_0 hk f

theorem l_mo_next_102 {X : PX} {d b : Nat} {Q : Option PV → Nat → VS → Prop}  : ∀ (f : Nat) (v : VS) (n : Int), XI v → ((v 203 7) ≤ (v 203 6)) → ((v 203 9) ≤ (v 203 7)) → (0 ≤ n ∧ n ≤ (v 203 7)) → (-1 ≤ (v 203 11) ∧ (v 203 11) ≤ 150094635296999121) → (11 < n ∨ (0 ≤ (v 203 11) ∧ (v 203 11) < 27 ^ n.toNat)) → (v 203 9 < v 203 7 ∨ LT1 v) → (2000 < (v 203 7) + f) → (XI (mo_next_102 f v n) → (((mo_next_102 f v n) 203 7) ≤ ((mo_next_102 f v n) 203 6) ∧ (((mo_next_102 f v n) 203 8) = 0 ∨ ((mo_next_102 f v n) 203 9) < ((mo_next_102 f v n) 203 7)) ∧ ((mo_next_102 f v n) 203 9) ≤ ((mo_next_102 f v n) 203 7)) → Q none b (mo_next_102 f v n)) → WV X (d + 1) 213 102 [some (.inr (.inr (some 203))), some (.inl n)] [] b v Q := by
  intro f
  induction f with
  | zero =>
    intro v n hX hi_0 hi_1 hi_2 hi_3 hi_4 hi_5 hf hQ
    have hz7 : 0 ≤ v 203 7 ∧ v 203 7 ≤ 2000 := hX 203 7
    have hz6 : 0 ≤ v 203 6 ∧ v 203 6 ≤ 2000 := hX 203 6
    have hz10 : 0 ≤ v 203 10 ∧ v 203 10 ≤ 1000009 := hX 203 10
    have hz7 : 0 ≤ v 203 7 ∧ v 203 7 ≤ 2000 := hX 203 7
    exfalso
    omega
  | succ f ih =>
    intro v n hX hi_0 hi_1 hi_2 hi_3 hi_4 hi_5 hf hQ
    rw [mo_next_102] at hQ
    have hz7 : 0 ≤ v 203 7 ∧ v 203 7 ≤ 2000 := hX 203 7
    have hz6 : 0 ≤ v 203 6 ∧ v 203 6 ≤ 2000 := hX 203 6
    have hz10 : 0 ≤ v 203 10 ∧ v 203 10 ≤ 1000009 := hX 203 10
    have hp27 := p27 (n := n)
    refine r_ex 5 (pc' := 111) (lo' := [some (.inr (.inr (some 203))), some (.inl n)]) (st' := [.inl 122, .inl 97, .inl (v 203 7), .inr (.inr (some 203))]) rfl ?_
    have hb_23 : 0 ≤ (v 203 7) ∧ (v 203 7) ≤ 2000 := hX 203 7
    have hp_24 : 0 ≤ (v 203 7) ∧ (v 203 7) ≤ 2000 := (by first | assumption | omega | (unfold R32 at *; omega) | (unfold R64 at *; omega) | (simp only [R32, R64] at *; omega))
    have hp_25 : R32 (97 : Int) := (by first | assumption | omega | (unfold R32 at *; omega) | (unfold R64 at *; omega) | (simp only [R32, R64] at *; omega))
    have hp_26 : R32 (122 : Int) := (by first | assumption | omega | (unfold R32 at *; omega) | (unfold R64 at *; omega) | (simp only [R32, R64] at *; omega))
    have hb_27 : 0 ≤ v 203 6 ∧ v 203 6 ≤ 2000 := hX 203 6
    refine r_callb (P := (v 203 7) < (v 203 6) ∧ (97 : Int) ≤ (v 208 ((v 203 7).toNat)) ∧ (v 208 ((v 203 7).toNat)) ≤ (122 : Int)) (m := 214) (args := [.inr (.inr (some 203)), .inl (v 203 7), .inl 97, .inl 122]) (n' := 213) (pc' := 114) (lo' := [some (.inr (.inr (some 203))), some (.inl n)]) (st' := []) (I := .invokevirtual 214) (pc0 := 111) (len := 3) rfl rfl rfl (e_mo_isByte hX hp_24 hp_25 hp_26) (fun h_111 => ?_) (fun h_111 => ?_)
    · show WV _ _ _ 114 _ _ _ _ _
      rw [if_pos h_111] at hQ
      refine r_ex 4 (pc' := 121) (lo' := [some (.inr (.inr (some 203))), some (.inl n)]) (st' := [.inl 11, .inl n, .inr (.inr (some 203))]) rfl ?_
      refine n_ic_le (pc0 := 121) (len := 3) (t := 130) rfl (by first | assumption | omega | (unfold R32 at *; omega) | (unfold R64 at *; omega) | (simp only [R32, R64] at *; omega)) (by first | assumption | omega | (unfold R32 at *; omega) | (unfold R64 at *; omega) | (simp only [R32, R64] at *; omega)) (fun h_121 => ?_) (fun h_121 => ?_)
      · show WV _ _ _ 130 _ _ _ _ _
        rw [if_neg h_121] at hQ
        refine r_ex 8 (pc' := 146) (lo' := [some (.inr (.inr (some 203))), some (.inl n)]) (st' := [.inl (v 203 7), .inr (.inr (some 208)), .inr (.inl (27 * (v 203 11))), .inr (.inr (some 203))]) rfl ?_
        have hb_28 : -9223372036854775808 ≤ (v 203 11) ∧ (v 203 11) ≤ 9223372036854775807 := hX 203 11
        refine r_bald2 (x := (v 208 (((v 203 7)).toNat))) (pc' := 147) (pc0 := 146) (len := 1) rfl (s_208 _) (Or.inl rfl) (by first | assumption | omega | (unfold R32 at *; omega) | (unfold R64 at *; omega) | (simp only [R32, R64] at *; omega)) (by decide) rfl rfl ?_
        have hb_29 : -128 ≤ (v 208 (((v 203 7)).toNat)) ∧ (v 208 (((v 203 7)).toNat)) ≤ 127 := hX 208 (((v 203 7)).toNat)
        refine n_i2l (pc' := 148) (pc0 := 147) (len := 1) rfl (by first | assumption | omega | (unfold R32 at *; omega) | (unfold R64 at *; omega) | (simp only [R32, R64] at *; omega)) rfl ?_
        refine r_ex 3 (pc' := 153) (lo' := [some (.inr (.inr (some 203))), some (.inl n)]) (st' := [.inr (.inl (((27 * (v 203 11)) + (v 208 (((v 203 7)).toNat))) - 96)), .inr (.inr (some 203))]) rfl ?_
        refine r_putl2 (j := 11) (pc' := 156) (pc0 := 153) (len := 3) rfl (s_203 _) rfl rfl rfl rfl rfl ?_
        have hX_30 : XI (v2 v 203 11 (((27 * (v 203 11)) + (v 208 (((v 203 7)).toNat))) - 96)) := XI.put hX (show -9223372036854775808 ≤ (((27 * (v 203 11)) + (v 208 (((v 203 7)).toNat))) - 96) ∧ (((27 * (v 203 11)) + (v 208 (((v 203 7)).toNat))) - 96) ≤ 9223372036854775807 from (by first | assumption | omega | (unfold R32 at *; omega) | (unfold R64 at *; omega) | (simp only [R32, R64] at *; omega)))
        refine r_ex 2 (pc' := 159) (lo' := [some (.inr (.inr (some 203))), some (.inl n)]) (st' := [.inl 11, .inl n]) rfl ?_
        refine n_ic_le (pc0 := 159) (len := 3) (t := 169) rfl (by first | assumption | omega | (unfold R32 at *; omega) | (unfold R64 at *; omega) | (simp only [R32, R64] at *; omega)) (by first | assumption | omega | (unfold R32 at *; omega) | (unfold R64 at *; omega) | (simp only [R32, R64] at *; omega)) (fun h_159 => ?_) (fun h_159 => ?_)
        · show WV _ _ _ 169 _ _ _ _ _
          rw [if_neg h_159] at hQ
          refine r_ex 5 (pc' := 176) (lo' := [some (.inr (.inr (some 203))), some (.inl n)]) (st' := [.inl ((v 203 7) + 1), .inr (.inr (some 203))]) rfl ?_
          have hb_31 : 0 ≤ (v 203 7) ∧ (v 203 7) ≤ 2000 := hX_30 203 7
          refine r_puti2 (j := 7) (pc' := 179) (pc0 := 176) (len := 3) rfl (s_203 _) rfl rfl rfl (Or.inl rfl) rfl rfl ?_
          have hX_32 : XI (v2 (v2 v 203 11 (((27 * (v 203 11)) + (v 208 (((v 203 7)).toNat))) - 96)) 203 7 ((v 203 7) + 1)) := XI.put hX_30 (show 0 ≤ ((v 203 7) + 1) ∧ ((v 203 7) + 1) ≤ 2000 from (by first | assumption | omega | (unfold R32 at *; omega) | (unfold R64 at *; omega) | (simp only [R32, R64] at *; omega)))
          refine r_ex 2 (pc' := 102) (lo' := [some (.inr (.inr (some 203))), some (.inl (n + 1))]) (st' := []) rfl ?_
          refine ih (v2 (v2 v 203 11 (((27 * (v 203 11)) + (v 208 (((v 203 7)).toNat))) - 96)) 203 7 ((v 203 7) + 1)) (n + 1)  hX_32 (show ((v 203 7) + 1) ≤ (v 203 6) from (by first | assumption | omega | (unfold R32 at *; omega) | (unfold R64 at *; omega) | (simp only [R32, R64] at *; omega))) (show (v 203 9) ≤ ((v 203 7) + 1) from (by first | assumption | omega | (unfold R32 at *; omega) | (unfold R64 at *; omega) | (simp only [R32, R64] at *; omega))) (show 0 ≤ (n + 1) ∧ (n + 1) ≤ ((v 203 7) + 1) from (by first | assumption | omega | (unfold R32 at *; omega) | (unfold R64 at *; omega) | (simp only [R32, R64] at *; omega))) (show -1 ≤ (((27 * (v 203 11)) + (v 208 (((v 203 7)).toNat))) - 96) ∧ (((27 * (v 203 11)) + (v 208 (((v 203 7)).toNat))) - 96) ≤ 150094635296999121 from (by first | assumption | omega | (unfold R32 at *; omega) | (unfold R64 at *; omega) | (simp only [R32, R64] at *; omega))) (by first | exact Or.inr (show (0 : Int) ≤ 0 ∧ (0 : Int) < 27 ^ (0 : Int).toNat from ⟨by decide, by decide⟩) | exact Or.inl (by omega) | exact Or.inr (show 0 ≤ ((27 * (v 203 11)) + (v 208 (((v 203 7)).toNat))) - 96 ∧ ((27 * (v 203 11)) + (v 208 (((v 203 7)).toNat))) - 96 < 27 ^ (n + 1).toNat by omega)) (by first | exact Or.inr (show LT1 _ from h_89) | exact Or.inl (show (v 203 9) < (v 203 7) + 1 by omega)) (show 2000 < ((v 203 7) + 1) + f from (by first | assumption | omega | (unfold R32 at *; omega) | (unfold R64 at *; omega) | (simp only [R32, R64] at *; omega))) hQ
        · show WV _ _ _ 162 _ _ _ _ _
          rw [if_pos h_159] at hQ
          refine r_ex 2 (pc' := 166) (lo' := [some (.inr (.inr (some 203))), some (.inl n)]) (st' := [.inr (.inl (-1)), .inr (.inr (some 203))]) rfl ?_
          refine r_putl2 (j := 11) (pc' := 169) (pc0 := 166) (len := 3) rfl (s_203 _) rfl rfl rfl rfl rfl ?_
          have hX_33 : XI (v2 (v2 v 203 11 (((27 * (v 203 11)) + (v 208 (((v 203 7)).toNat))) - 96)) 203 11 (-1)) := XI.put hX_30 (show -9223372036854775808 ≤ (-1) ∧ (-1) ≤ 9223372036854775807 from (by first | assumption | omega | (unfold R32 at *; omega) | (unfold R64 at *; omega) | (simp only [R32, R64] at *; omega)))
          refine r_ex 5 (pc' := 176) (lo' := [some (.inr (.inr (some 203))), some (.inl n)]) (st' := [.inl ((v 203 7) + 1), .inr (.inr (some 203))]) rfl ?_
          have hb_34 : 0 ≤ (v 203 7) ∧ (v 203 7) ≤ 2000 := hX_33 203 7
          refine r_puti2 (j := 7) (pc' := 179) (pc0 := 176) (len := 3) rfl (s_203 _) rfl rfl rfl (Or.inl rfl) rfl rfl ?_
          have hX_35 : XI (v2 (v2 (v2 v 203 11 (((27 * (v 203 11)) + (v 208 (((v 203 7)).toNat))) - 96)) 203 11 (-1)) 203 7 ((v 203 7) + 1)) := XI.put hX_33 (show 0 ≤ ((v 203 7) + 1) ∧ ((v 203 7) + 1) ≤ 2000 from (by first | assumption | omega | (unfold R32 at *; omega) | (unfold R64 at *; omega) | (simp only [R32, R64] at *; omega)))
          refine r_ex 2 (pc' := 102) (lo' := [some (.inr (.inr (some 203))), some (.inl (n + 1))]) (st' := []) rfl ?_
          refine ih (v2 (v2 (v2 v 203 11 (((27 * (v 203 11)) + (v 208 (((v 203 7)).toNat))) - 96)) 203 11 (-1)) 203 7 ((v 203 7) + 1)) (n + 1)  hX_35 (show ((v 203 7) + 1) ≤ (v 203 6) from (by first | assumption | omega | (unfold R32 at *; omega) | (unfold R64 at *; omega) | (simp only [R32, R64] at *; omega))) (show (v 203 9) ≤ ((v 203 7) + 1) from (by first | assumption | omega | (unfold R32 at *; omega) | (unfold R64 at *; omega) | (simp only [R32, R64] at *; omega))) (show 0 ≤ (n + 1) ∧ (n + 1) ≤ ((v 203 7) + 1) from (by first | assumption | omega | (unfold R32 at *; omega) | (unfold R64 at *; omega) | (simp only [R32, R64] at *; omega))) (show -1 ≤ (-1) ∧ (-1) ≤ 150094635296999121 from (by first | assumption | omega | (unfold R32 at *; omega) | (unfold R64 at *; omega) | (simp only [R32, R64] at *; omega))) (by first | exact Or.inr (show (0 : Int) ≤ 0 ∧ (0 : Int) < 27 ^ (0 : Int).toNat from ⟨by decide, by decide⟩) | exact Or.inl (by omega) | exact Or.inr (show 0 ≤ ((27 * (v 203 11)) + (v 208 (((v 203 7)).toNat))) - 96 ∧ ((27 * (v 203 11)) + (v 208 (((v 203 7)).toNat))) - 96 < 27 ^ (n + 1).toNat by omega)) (by first | exact Or.inr (show LT1 _ from h_89) | exact Or.inl (show (v 203 9) < (v 203 7) + 1 by omega)) (show 2000 < ((v 203 7) + 1) + f from (by first | assumption | omega | (unfold R32 at *; omega) | (unfold R64 at *; omega) | (simp only [R32, R64] at *; omega))) hQ
      · show WV _ _ _ 124 _ _ _ _ _
        rw [if_pos h_121] at hQ
        refine r_ex 2 (pc' := 153) (lo' := [some (.inr (.inr (some 203))), some (.inl n)]) (st' := [.inr (.inl (-1)), .inr (.inr (some 203))]) rfl ?_
        refine r_putl2 (j := 11) (pc' := 156) (pc0 := 153) (len := 3) rfl (s_203 _) rfl rfl rfl rfl rfl ?_
        have hX_36 : XI (v2 v 203 11 (-1)) := XI.put hX (show -9223372036854775808 ≤ (-1) ∧ (-1) ≤ 9223372036854775807 from (by first | assumption | omega | (unfold R32 at *; omega) | (unfold R64 at *; omega) | (simp only [R32, R64] at *; omega)))
        refine r_ex 2 (pc' := 159) (lo' := [some (.inr (.inr (some 203))), some (.inl n)]) (st' := [.inl 11, .inl n]) rfl ?_
        refine n_ic_le (pc0 := 159) (len := 3) (t := 169) rfl (by first | assumption | omega | (unfold R32 at *; omega) | (unfold R64 at *; omega) | (simp only [R32, R64] at *; omega)) (by first | assumption | omega | (unfold R32 at *; omega) | (unfold R64 at *; omega) | (simp only [R32, R64] at *; omega)) (fun h_159 => ?_) (fun h_159 => ?_)
        · show WV _ _ _ 169 _ _ _ _ _
          rw [if_neg h_159] at hQ
          refine r_ex 5 (pc' := 176) (lo' := [some (.inr (.inr (some 203))), some (.inl n)]) (st' := [.inl ((v 203 7) + 1), .inr (.inr (some 203))]) rfl ?_
          have hb_37 : 0 ≤ (v 203 7) ∧ (v 203 7) ≤ 2000 := hX_36 203 7
          refine r_puti2 (j := 7) (pc' := 179) (pc0 := 176) (len := 3) rfl (s_203 _) rfl rfl rfl (Or.inl rfl) rfl rfl ?_
          have hX_38 : XI (v2 (v2 v 203 11 (-1)) 203 7 ((v 203 7) + 1)) := XI.put hX_36 (show 0 ≤ ((v 203 7) + 1) ∧ ((v 203 7) + 1) ≤ 2000 from (by first | assumption | omega | (unfold R32 at *; omega) | (unfold R64 at *; omega) | (simp only [R32, R64] at *; omega)))
          refine r_ex 2 (pc' := 102) (lo' := [some (.inr (.inr (some 203))), some (.inl (n + 1))]) (st' := []) rfl ?_
          refine ih (v2 (v2 v 203 11 (-1)) 203 7 ((v 203 7) + 1)) (n + 1)  hX_38 (show ((v 203 7) + 1) ≤ (v 203 6) from (by first | assumption | omega | (unfold R32 at *; omega) | (unfold R64 at *; omega) | (simp only [R32, R64] at *; omega))) (show (v 203 9) ≤ ((v 203 7) + 1) from (by first | assumption | omega | (unfold R32 at *; omega) | (unfold R64 at *; omega) | (simp only [R32, R64] at *; omega))) (show 0 ≤ (n + 1) ∧ (n + 1) ≤ ((v 203 7) + 1) from (by first | assumption | omega | (unfold R32 at *; omega) | (unfold R64 at *; omega) | (simp only [R32, R64] at *; omega))) (show -1 ≤ (-1) ∧ (-1) ≤ 150094635296999121 from (by first | assumption | omega | (unfold R32 at *; omega) | (unfold R64 at *; omega) | (simp only [R32, R64] at *; omega))) (by first | exact Or.inr (show (0 : Int) ≤ 0 ∧ (0 : Int) < 27 ^ (0 : Int).toNat from ⟨by decide, by decide⟩) | exact Or.inl (by omega) | exact Or.inr (show 0 ≤ ((27 * (v 203 11)) + (v 208 (((v 203 7)).toNat))) - 96 ∧ ((27 * (v 203 11)) + (v 208 (((v 203 7)).toNat))) - 96 < 27 ^ (n + 1).toNat by omega)) (by first | exact Or.inr (show LT1 _ from h_89) | exact Or.inl (show (v 203 9) < (v 203 7) + 1 by omega)) (show 2000 < ((v 203 7) + 1) + f from (by first | assumption | omega | (unfold R32 at *; omega) | (unfold R64 at *; omega) | (simp only [R32, R64] at *; omega))) hQ
        · show WV _ _ _ 162 _ _ _ _ _
          rw [if_pos h_159] at hQ
          refine r_ex 2 (pc' := 166) (lo' := [some (.inr (.inr (some 203))), some (.inl n)]) (st' := [.inr (.inl (-1)), .inr (.inr (some 203))]) rfl ?_
          refine r_putl2 (j := 11) (pc' := 169) (pc0 := 166) (len := 3) rfl (s_203 _) rfl rfl rfl rfl rfl ?_
          have hX_39 : XI (v2 (v2 v 203 11 (-1)) 203 11 (-1)) := XI.put hX_36 (show -9223372036854775808 ≤ (-1) ∧ (-1) ≤ 9223372036854775807 from (by first | assumption | omega | (unfold R32 at *; omega) | (unfold R64 at *; omega) | (simp only [R32, R64] at *; omega)))
          refine r_ex 5 (pc' := 176) (lo' := [some (.inr (.inr (some 203))), some (.inl n)]) (st' := [.inl ((v 203 7) + 1), .inr (.inr (some 203))]) rfl ?_
          have hb_40 : 0 ≤ (v 203 7) ∧ (v 203 7) ≤ 2000 := hX_39 203 7
          refine r_puti2 (j := 7) (pc' := 179) (pc0 := 176) (len := 3) rfl (s_203 _) rfl rfl rfl (Or.inl rfl) rfl rfl ?_
          have hX_41 : XI (v2 (v2 (v2 v 203 11 (-1)) 203 11 (-1)) 203 7 ((v 203 7) + 1)) := XI.put hX_39 (show 0 ≤ ((v 203 7) + 1) ∧ ((v 203 7) + 1) ≤ 2000 from (by first | assumption | omega | (unfold R32 at *; omega) | (unfold R64 at *; omega) | (simp only [R32, R64] at *; omega)))
          refine r_ex 2 (pc' := 102) (lo' := [some (.inr (.inr (some 203))), some (.inl (n + 1))]) (st' := []) rfl ?_
          refine ih (v2 (v2 (v2 v 203 11 (-1)) 203 11 (-1)) 203 7 ((v 203 7) + 1)) (n + 1)  hX_41 (show ((v 203 7) + 1) ≤ (v 203 6) from (by first | assumption | omega | (unfold R32 at *; omega) | (unfold R64 at *; omega) | (simp only [R32, R64] at *; omega))) (show (v 203 9) ≤ ((v 203 7) + 1) from (by first | assumption | omega | (unfold R32 at *; omega) | (unfold R64 at *; omega) | (simp only [R32, R64] at *; omega))) (show 0 ≤ (n + 1) ∧ (n + 1) ≤ ((v 203 7) + 1) from (by first | assumption | omega | (unfold R32 at *; omega) | (unfold R64 at *; omega) | (simp only [R32, R64] at *; omega))) (show -1 ≤ (-1) ∧ (-1) ≤ 150094635296999121 from (by first | assumption | omega | (unfold R32 at *; omega) | (unfold R64 at *; omega) | (simp only [R32, R64] at *; omega))) (by first | exact Or.inr (show (0 : Int) ≤ 0 ∧ (0 : Int) < 27 ^ (0 : Int).toNat from ⟨by decide, by decide⟩) | exact Or.inl (by omega) | exact Or.inr (show 0 ≤ ((27 * (v 203 11)) + (v 208 (((v 203 7)).toNat))) - 96 ∧ ((27 * (v 203 11)) + (v 208 (((v 203 7)).toNat))) - 96 < 27 ^ (n + 1).toNat by omega)) (by first | exact Or.inr (show LT1 _ from h_89) | exact Or.inl (show (v 203 9) < (v 203 7) + 1 by omega)) (show 2000 < ((v 203 7) + 1) + f from (by first | assumption | omega | (unfold R32 at *; omega) | (unfold R64 at *; omega) | (simp only [R32, R64] at *; omega))) hQ
    · show WV _ _ _ 114 _ _ _ _ _
      rw [if_neg h_111] at hQ
      have hne : v 203 9 < v 203 7 := by
        rcases hi_5 with q | q
        · exact q
        · exact absurd q h_111
      refine r_ex 2 (pc' := 307) (lo' := [some (.inr (.inr (some 203))), some (.inl n)]) (st' := []) rfl ?_
      refine r_ret (rr := none) (I := .return_) (pc0 := 307) (len := 1) rfl rfl ?_
      exact hQ hX (show (v 203 7) ≤ (v 203 6) ∧ ((v 203 8) = 0 ∨ (v 203 9) < (v 203 7)) ∧ (v 203 9) ≤ (v 203 7) from (by first | assumption | omega | (unfold R32 at *; omega) | (unfold R64 at *; omega) | (simp only [R32, R64] at *; omega)))

theorem of_mo_next_102 {rk : Nat} (hk : (rk < 203 ∨ 203 < rk)) : ∀ (f : Nat) {v : VS} {n : Int}, (mo_next_102 f v n) rk = v rk := by
  intro f
  induction f with
  | zero => intro v n; rfl
  | succ f ih =>
    intro v n
    rw [mo_next_102]
    by_cases hc_ : (v 203 7) < (v 203 6) ∧ (97 : Int) ≤ (v 208 ((v 203 7).toNat)) ∧ (v 208 ((v 203 7).toNat)) ≤ (122 : Int)
    · rw [if_pos hc_]
      by_cases hc_ : 11 < n
      · rw [if_pos hc_]
        by_cases hc_ : 11 < n
        · rw [if_pos hc_]
          all_goals (rw [ih, v2_row (by omega), v2_row (by omega), v2_row (by omega)])
        · rw [if_neg hc_]
          all_goals (rw [ih, v2_row (by omega), v2_row (by omega)])
      · rw [if_neg hc_]
        by_cases hc_ : 11 < n
        · rw [if_pos hc_]
          all_goals (rw [ih, v2_row (by omega), v2_row (by omega), v2_row (by omega)])
        · rw [if_neg hc_]
          all_goals (rw [ih, v2_row (by omega), v2_row (by omega)])
    · rw [if_neg hc_]
      all_goals (show v rk = _)
      all_goals rfl
theorem o_mo_next_102 {rk : Nat} {f : Nat} {v : VS} {n : Int} (hk : (rk < 203 ∨ 203 < rk)) : (mo_next_102 f v n) rk = v rk := of_mo_next_102 hk f

theorem l_mo_next_208 {X : PX} {d b : Nat} {Q : Option PV → Nat → VS → Prop}  : ∀ (f : Nat) (v : VS)  (o1 : Option PV), XI v → ((v 203 7) ≤ (v 203 6)) → ((v 203 9) ≤ (v 203 7)) → (v 203 9 < v 203 7 ∨ LD1 v) → (2000 < (v 203 7) + f) → (XI (mo_next_208 f v) → (((mo_next_208 f v) 203 7) ≤ ((mo_next_208 f v) 203 6) ∧ (((mo_next_208 f v) 203 8) = 0 ∨ ((mo_next_208 f v) 203 9) < ((mo_next_208 f v) 203 7)) ∧ ((mo_next_208 f v) 203 9) ≤ ((mo_next_208 f v) 203 7)) → Q none b (mo_next_208 f v)) → WV X (d + 1) 213 208 [some (.inr (.inr (some 203))), o1] [] b v Q := by
  intro f
  induction f with
  | zero =>
    intro v o1 hX hi_0 hi_1 hi_2 hf hQ
    have hz7 : 0 ≤ v 203 7 ∧ v 203 7 ≤ 2000 := hX 203 7
    have hz6 : 0 ≤ v 203 6 ∧ v 203 6 ≤ 2000 := hX 203 6
    have hz10 : 0 ≤ v 203 10 ∧ v 203 10 ≤ 1000009 := hX 203 10
    have hz7 : 0 ≤ v 203 7 ∧ v 203 7 ≤ 2000 := hX 203 7
    exfalso
    omega
  | succ f ih =>
    intro v o1 hX hi_0 hi_1 hi_2 hf hQ
    rw [mo_next_208] at hQ
    have hz7 : 0 ≤ v 203 7 ∧ v 203 7 ≤ 2000 := hX 203 7
    have hz6 : 0 ≤ v 203 6 ∧ v 203 6 ≤ 2000 := hX 203 6
    have hz10 : 0 ≤ v 203 10 ∧ v 203 10 ≤ 1000009 := hX 203 10
    refine r_ex 5 (pc' := 217) (lo' := [some (.inr (.inr (some 203))), o1]) (st' := [.inl 57, .inl 48, .inl (v 203 7), .inr (.inr (some 203))]) rfl ?_
    have hb_46 : 0 ≤ (v 203 7) ∧ (v 203 7) ≤ 2000 := hX 203 7
    have hp_47 : 0 ≤ (v 203 7) ∧ (v 203 7) ≤ 2000 := (by first | assumption | omega | (unfold R32 at *; omega) | (unfold R64 at *; omega) | (simp only [R32, R64] at *; omega))
    have hp_48 : R32 (48 : Int) := (by first | assumption | omega | (unfold R32 at *; omega) | (unfold R64 at *; omega) | (simp only [R32, R64] at *; omega))
    have hp_49 : R32 (57 : Int) := (by first | assumption | omega | (unfold R32 at *; omega) | (unfold R64 at *; omega) | (simp only [R32, R64] at *; omega))
    have hb_50 : 0 ≤ v 203 6 ∧ v 203 6 ≤ 2000 := hX 203 6
    refine r_callb (P := (v 203 7) < (v 203 6) ∧ (48 : Int) ≤ (v 208 ((v 203 7).toNat)) ∧ (v 208 ((v 203 7).toNat)) ≤ (57 : Int)) (m := 214) (args := [.inr (.inr (some 203)), .inl (v 203 7), .inl 48, .inl 57]) (n' := 213) (pc' := 220) (lo' := [some (.inr (.inr (some 203))), o1]) (st' := []) (I := .invokevirtual 214) (pc0 := 217) (len := 3) rfl rfl rfl (e_mo_isByte hX hp_47 hp_48 hp_49) (fun h_217 => ?_) (fun h_217 => ?_)
    · show WV _ _ _ 220 _ _ _ _ _
      rw [if_pos h_217] at hQ
      refine r_ex 5 (pc' := 230) (lo' := [some (.inr (.inr (some 203))), o1]) (st' := [.inl 100000, .inl (v 203 10), .inr (.inr (some 203))]) rfl ?_
      have hb_51 : 0 ≤ (v 203 10) ∧ (v 203 10) ≤ 1000009 := hX 203 10
      refine n_ic_le (pc0 := 230) (len := 3) (t := 238) rfl (by first | assumption | omega | (unfold R32 at *; omega) | (unfold R64 at *; omega) | (simp only [R32, R64] at *; omega)) (by first | assumption | omega | (unfold R32 at *; omega) | (unfold R64 at *; omega) | (simp only [R32, R64] at *; omega)) (fun h_230 => ?_) (fun h_230 => ?_)
      · show WV _ _ _ 238 _ _ _ _ _
        rw [if_neg h_230] at hQ
        refine r_ex 8 (pc' := 253) (lo' := [some (.inr (.inr (some 203))), o1]) (st' := [.inl (v 203 7), .inr (.inr (some 208)), .inl (10 * (v 203 10)), .inr (.inr (some 203))]) rfl ?_
        refine r_bald2 (x := (v 208 (((v 203 7)).toNat))) (pc' := 254) (pc0 := 253) (len := 1) rfl (s_208 _) (Or.inl rfl) (by first | assumption | omega | (unfold R32 at *; omega) | (unfold R64 at *; omega) | (simp only [R32, R64] at *; omega)) (by decide) rfl rfl ?_
        have hb_52 : -128 ≤ (v 208 (((v 203 7)).toNat)) ∧ (v 208 (((v 203 7)).toNat)) ≤ 127 := hX 208 (((v 203 7)).toNat)
        refine r_ex 3 (pc' := 258) (lo' := [some (.inr (.inr (some 203))), o1]) (st' := [.inl (((10 * (v 203 10)) + (v 208 (((v 203 7)).toNat))) - 48), .inr (.inr (some 203))]) rfl ?_
        refine r_puti2 (j := 10) (pc' := 261) (pc0 := 258) (len := 3) rfl (s_203 _) rfl rfl rfl (Or.inl rfl) rfl rfl ?_
        have hX_53 : XI (v2 v 203 10 (((10 * (v 203 10)) + (v 208 (((v 203 7)).toNat))) - 48)) := XI.put hX (show 0 ≤ (((10 * (v 203 10)) + (v 208 (((v 203 7)).toNat))) - 48) ∧ (((10 * (v 203 10)) + (v 208 (((v 203 7)).toNat))) - 48) ≤ 1000009 from (by first | assumption | omega | (unfold R32 at *; omega) | (unfold R64 at *; omega) | (simp only [R32, R64] at *; omega)))
        refine r_ex 5 (pc' := 268) (lo' := [some (.inr (.inr (some 203))), o1]) (st' := [.inl ((v 203 7) + 1), .inr (.inr (some 203))]) rfl ?_
        have hb_54 : 0 ≤ (v 203 7) ∧ (v 203 7) ≤ 2000 := hX_53 203 7
        refine r_puti2 (j := 7) (pc' := 271) (pc0 := 268) (len := 3) rfl (s_203 _) rfl rfl rfl (Or.inl rfl) rfl rfl ?_
        have hX_55 : XI (v2 (v2 v 203 10 (((10 * (v 203 10)) + (v 208 (((v 203 7)).toNat))) - 48)) 203 7 ((v 203 7) + 1)) := XI.put hX_53 (show 0 ≤ ((v 203 7) + 1) ∧ ((v 203 7) + 1) ≤ 2000 from (by first | assumption | omega | (unfold R32 at *; omega) | (unfold R64 at *; omega) | (simp only [R32, R64] at *; omega)))
        refine r_ex 1 (pc' := 208) (lo' := [some (.inr (.inr (some 203))), o1]) (st' := []) rfl ?_
        refine ih (v2 (v2 v 203 10 (((10 * (v 203 10)) + (v 208 (((v 203 7)).toNat))) - 48)) 203 7 ((v 203 7) + 1))  _ hX_55 (show ((v 203 7) + 1) ≤ (v 203 6) from (by first | assumption | omega | (unfold R32 at *; omega) | (unfold R64 at *; omega) | (simp only [R32, R64] at *; omega))) (show (v 203 9) ≤ ((v 203 7) + 1) from (by first | assumption | omega | (unfold R32 at *; omega) | (unfold R64 at *; omega) | (simp only [R32, R64] at *; omega))) (by first | exact Or.inr (show LD1 _ from h_197) | exact Or.inl (show (v 203 9) < (v 203 7) + 1 by omega)) (show 2000 < ((v 203 7) + 1) + f from (by first | assumption | omega | (unfold R32 at *; omega) | (unfold R64 at *; omega) | (simp only [R32, R64] at *; omega))) hQ
      · show WV _ _ _ 233 _ _ _ _ _
        rw [if_pos h_230] at hQ
        refine r_ex 2 (pc' := 258) (lo' := [some (.inr (.inr (some 203))), o1]) (st' := [.inl 1000000, .inr (.inr (some 203))]) rfl ?_
        refine r_puti2 (j := 10) (pc' := 261) (pc0 := 258) (len := 3) rfl (s_203 _) rfl rfl rfl (Or.inl rfl) rfl rfl ?_
        have hX_56 : XI (v2 v 203 10 1000000) := XI.put hX (show 0 ≤ 1000000 ∧ 1000000 ≤ 1000009 from (by first | assumption | omega | (unfold R32 at *; omega) | (unfold R64 at *; omega) | (simp only [R32, R64] at *; omega)))
        refine r_ex 5 (pc' := 268) (lo' := [some (.inr (.inr (some 203))), o1]) (st' := [.inl ((v 203 7) + 1), .inr (.inr (some 203))]) rfl ?_
        have hb_57 : 0 ≤ (v 203 7) ∧ (v 203 7) ≤ 2000 := hX_56 203 7
        refine r_puti2 (j := 7) (pc' := 271) (pc0 := 268) (len := 3) rfl (s_203 _) rfl rfl rfl (Or.inl rfl) rfl rfl ?_
        have hX_58 : XI (v2 (v2 v 203 10 1000000) 203 7 ((v 203 7) + 1)) := XI.put hX_56 (show 0 ≤ ((v 203 7) + 1) ∧ ((v 203 7) + 1) ≤ 2000 from (by first | assumption | omega | (unfold R32 at *; omega) | (unfold R64 at *; omega) | (simp only [R32, R64] at *; omega)))
        refine r_ex 1 (pc' := 208) (lo' := [some (.inr (.inr (some 203))), o1]) (st' := []) rfl ?_
        refine ih (v2 (v2 v 203 10 1000000) 203 7 ((v 203 7) + 1))  _ hX_58 (show ((v 203 7) + 1) ≤ (v 203 6) from (by first | assumption | omega | (unfold R32 at *; omega) | (unfold R64 at *; omega) | (simp only [R32, R64] at *; omega))) (show (v 203 9) ≤ ((v 203 7) + 1) from (by first | assumption | omega | (unfold R32 at *; omega) | (unfold R64 at *; omega) | (simp only [R32, R64] at *; omega))) (by first | exact Or.inr (show LD1 _ from h_197) | exact Or.inl (show (v 203 9) < (v 203 7) + 1 by omega)) (show 2000 < ((v 203 7) + 1) + f from (by first | assumption | omega | (unfold R32 at *; omega) | (unfold R64 at *; omega) | (simp only [R32, R64] at *; omega))) hQ
    · show WV _ _ _ 220 _ _ _ _ _
      rw [if_neg h_217] at hQ
      have hne : v 203 9 < v 203 7 := by
        rcases hi_2 with q | q
        · exact q
        · exact absurd q h_217
      refine r_ex 1 (pc' := 307) (lo' := [some (.inr (.inr (some 203))), o1]) (st' := []) rfl ?_
      refine r_ret (rr := none) (I := .return_) (pc0 := 307) (len := 1) rfl rfl ?_
      exact hQ hX (show (v 203 7) ≤ (v 203 6) ∧ ((v 203 8) = 0 ∨ (v 203 9) < (v 203 7)) ∧ (v 203 9) ≤ (v 203 7) from (by first | assumption | omega | (unfold R32 at *; omega) | (unfold R64 at *; omega) | (simp only [R32, R64] at *; omega)))

theorem of_mo_next_208 {rk : Nat} (hk : (rk < 203 ∨ 203 < rk)) : ∀ (f : Nat) {v : VS} , (mo_next_208 f v ) rk = v rk := by
  intro f
  induction f with
  | zero => intro v ; rfl
  | succ f ih =>
    intro v 
    rw [mo_next_208]
    by_cases hc_ : (v 203 7) < (v 203 6) ∧ (48 : Int) ≤ (v 208 ((v 203 7).toNat)) ∧ (v 208 ((v 203 7).toNat)) ≤ (57 : Int)
    · rw [if_pos hc_]
      by_cases hc_ : 100000 < (v 203 10)
      · rw [if_pos hc_]
        all_goals (rw [ih, v2_row (by omega), v2_row (by omega)])
      · rw [if_neg hc_]
        all_goals (rw [ih, v2_row (by omega), v2_row (by omega)])
    · rw [if_neg hc_]
      all_goals (show v rk = _)
      all_goals rfl
theorem o_mo_next_208 {rk : Nat} {f : Nat} {v : VS}  (hk : (rk < 203 ∨ 203 < rk)) : (mo_next_208 f v ) rk = v rk := of_mo_next_208 hk f

theorem l_mo_next_43 {X : PX} {d b : Nat} {Q : Option PV → Nat → VS → Prop}  : ∀ (v : VS)  (o1 : Option PV), XI v → ((v 203 7) ≤ (v 203 6)) → (XI (mo_next_43 v) → (((mo_next_43 v) 203 7) ≤ ((mo_next_43 v) 203 6) ∧ (((mo_next_43 v) 203 8) = 0 ∨ ((mo_next_43 v) 203 9) < ((mo_next_43 v) 203 7)) ∧ ((mo_next_43 v) 203 9) ≤ ((mo_next_43 v) 203 7)) → Q none b (mo_next_43 v)) → WV X (d + 1) 213 43 [some (.inr (.inr (some 203))), o1] [] b v Q := by
  intro v o1 hX hi_0 hQ
  rw [mo_next_43] at hQ
  have hz7 : 0 ≤ v 203 7 ∧ v 203 7 ≤ 2000 := hX 203 7
  have hz6 : 0 ≤ v 203 6 ∧ v 203 6 ≤ 2000 := hX 203 6
  have hz10 : 0 ≤ v 203 10 ∧ v 203 10 ≤ 1000009 := hX 203 10
  refine r_ex 3 (pc' := 48) (lo' := [some (.inr (.inr (some 203))), o1]) (st' := [.inl (v 203 7), .inr (.inr (some 203))]) rfl ?_
  have hb_12 : 0 ≤ (v 203 7) ∧ (v 203 7) ≤ 2000 := hX 203 7
  refine r_puti2 (j := 9) (pc' := 51) (pc0 := 48) (len := 3) rfl (s_203 _) rfl rfl rfl (Or.inl rfl) rfl rfl ?_
  have hX_13 : XI (v2 v 203 9 (v 203 7)) := XI.put hX (show 0 ≤ (v 203 7) ∧ (v 203 7) ≤ 2000 from (by first | assumption | omega | (unfold R32 at *; omega) | (unfold R64 at *; omega) | (simp only [R32, R64] at *; omega)))
  refine r_ex 2 (pc' := 53) (lo' := [some (.inr (.inr (some 203))), o1]) (st' := [.inl 0, .inr (.inr (some 203))]) rfl ?_
  refine r_puti2 (j := 10) (pc' := 56) (pc0 := 53) (len := 3) rfl (s_203 _) rfl rfl rfl (Or.inl rfl) rfl rfl ?_
  have hX_14 : XI (v2 (v2 v 203 9 (v 203 7)) 203 10 0) := XI.put hX_13 (show 0 ≤ 0 ∧ 0 ≤ 1000009 from (by first | assumption | omega | (unfold R32 at *; omega) | (unfold R64 at *; omega) | (simp only [R32, R64] at *; omega)))
  refine r_ex 2 (pc' := 58) (lo' := [some (.inr (.inr (some 203))), o1]) (st' := [.inr (.inl 0), .inr (.inr (some 203))]) rfl ?_
  refine r_putl2 (j := 11) (pc' := 61) (pc0 := 58) (len := 3) rfl (s_203 _) rfl rfl rfl rfl rfl ?_
  have hX_15 : XI (v2 (v2 (v2 v 203 9 (v 203 7)) 203 10 0) 203 11 0) := XI.put hX_14 (show -9223372036854775808 ≤ 0 ∧ 0 ≤ 9223372036854775807 from (by first | assumption | omega | (unfold R32 at *; omega) | (unfold R64 at *; omega) | (simp only [R32, R64] at *; omega)))
  refine r_ex 4 (pc' := 69) (lo' := [some (.inr (.inr (some 203))), o1]) (st' := [.inl (v 203 6), .inl (v 203 7)]) rfl ?_
  have hb_16 : 0 ≤ (v 203 7) ∧ (v 203 7) ≤ 2000 := hX_15 203 7
  have hb_17 : 0 ≤ (v 203 6) ∧ (v 203 6) ≤ 2000 := hX_15 203 6
  refine n_ic_ne (pc0 := 69) (len := 3) (t := 80) rfl (by first | assumption | omega | (unfold R32 at *; omega) | (unfold R64 at *; omega) | (simp only [R32, R64] at *; omega)) (by first | assumption | omega | (unfold R32 at *; omega) | (unfold R64 at *; omega) | (simp only [R32, R64] at *; omega)) (fun h_69 => ?_) (fun h_69 => ?_)
  · show WV _ _ _ 80 _ _ _ _ _
    rw [if_neg h_69] at hQ
    refine r_ex 5 (pc' := 89) (lo' := [some (.inr (.inr (some 203))), o1]) (st' := [.inl 122, .inl 97, .inl (v 203 7), .inr (.inr (some 203))]) rfl ?_
    have hp_18 : 0 ≤ (v 203 7) ∧ (v 203 7) ≤ 2000 := (by first | assumption | omega | (unfold R32 at *; omega) | (unfold R64 at *; omega) | (simp only [R32, R64] at *; omega))
    have hp_19 : R32 (97 : Int) := (by first | assumption | omega | (unfold R32 at *; omega) | (unfold R64 at *; omega) | (simp only [R32, R64] at *; omega))
    have hp_20 : R32 (122 : Int) := (by first | assumption | omega | (unfold R32 at *; omega) | (unfold R64 at *; omega) | (simp only [R32, R64] at *; omega))
    have hb_21 : 0 ≤ (v2 (v2 (v2 v 203 9 (v 203 7)) 203 10 0) 203 11 0) 203 6 ∧ (v2 (v2 (v2 v 203 9 (v 203 7)) 203 10 0) 203 11 0) 203 6 ≤ 2000 := hX_15 203 6
    refine r_callb (P := (v 203 7) < (v 203 6) ∧ (97 : Int) ≤ (v 208 ((v 203 7).toNat)) ∧ (v 208 ((v 203 7).toNat)) ≤ (122 : Int)) (m := 214) (args := [.inr (.inr (some 203)), .inl (v 203 7), .inl 97, .inl 122]) (n' := 213) (pc' := 92) (lo' := [some (.inr (.inr (some 203))), o1]) (st' := []) (I := .invokevirtual 214) (pc0 := 89) (len := 3) rfl rfl rfl (e_mo_isByte hX_15 hp_18 hp_19 hp_20) (fun h_89 => ?_) (fun h_89 => ?_)
    · show WV _ _ _ 92 _ _ _ _ _
      rw [if_pos h_89] at hQ
      refine r_ex 3 (pc' := 97) (lo' := [some (.inr (.inr (some 203))), o1]) (st' := [.inl 1, .inr (.inr (some 203))]) rfl ?_
      refine r_puti2 (j := 8) (pc' := 100) (pc0 := 97) (len := 3) rfl (s_203 _) rfl rfl rfl (Or.inl rfl) rfl rfl ?_
      have hX_22 : XI (v2 (v2 (v2 (v2 v 203 9 (v 203 7)) 203 10 0) 203 11 0) 203 8 1) := XI.put hX_15 (show 0 ≤ 1 ∧ 1 ≤ 4 from (by first | assumption | omega | (unfold R32 at *; omega) | (unfold R64 at *; omega) | (simp only [R32, R64] at *; omega)))
      refine r_ex 2 (pc' := 102) (lo' := [some (.inr (.inr (some 203))), some (.inl 0)]) (st' := []) rfl ?_
      exact l_mo_next_102 2001 (v2 (v2 (v2 (v2 v 203 9 (v 203 7)) 203 10 0) 203 11 0) 203 8 1) 0  hX_22 (show (v 203 7) ≤ (v 203 6) from (by first | assumption | omega | (unfold R32 at *; omega) | (unfold R64 at *; omega) | (simp only [R32, R64] at *; omega))) (show (v 203 7) ≤ (v 203 7) from (by first | assumption | omega | (unfold R32 at *; omega) | (unfold R64 at *; omega) | (simp only [R32, R64] at *; omega))) (show 0 ≤ 0 ∧ 0 ≤ (v 203 7) from (by first | assumption | omega | (unfold R32 at *; omega) | (unfold R64 at *; omega) | (simp only [R32, R64] at *; omega))) (show -1 ≤ 0 ∧ 0 ≤ 150094635296999121 from (by first | assumption | omega | (unfold R32 at *; omega) | (unfold R64 at *; omega) | (simp only [R32, R64] at *; omega))) (by first | exact Or.inr (show (0 : Int) ≤ 0 ∧ (0 : Int) < 27 ^ (0 : Int).toNat from ⟨by decide, by decide⟩) | exact Or.inl (by omega) | exact Or.inr (show 0 ≤ ((27 * (v 203 11)) + (v 208 (((v 203 7)).toNat))) - 96 ∧ ((27 * (v 203 11)) + (v 208 (((v 203 7)).toNat))) - 96 < 27 ^ (n + 1).toNat by omega)) (by first | exact Or.inr (show LT1 _ from h_89) | exact Or.inl (show (v 203 9) < (v 203 7) + 1 by omega)) (show 2000 < (v 203 7) + (2001 : Nat) from (by first | assumption | omega | (unfold R32 at *; omega) | (unfold R64 at *; omega) | (simp only [R32, R64] at *; omega))) hQ
    · show WV _ _ _ 92 _ _ _ _ _
      rw [if_neg h_89] at hQ
      refine r_ex 6 (pc' := 197) (lo' := [some (.inr (.inr (some 203))), o1]) (st' := [.inl 57, .inl 48, .inl (v 203 7), .inr (.inr (some 203))]) rfl ?_
      have hp_42 : 0 ≤ (v 203 7) ∧ (v 203 7) ≤ 2000 := (by first | assumption | omega | (unfold R32 at *; omega) | (unfold R64 at *; omega) | (simp only [R32, R64] at *; omega))
      have hp_43 : R32 (48 : Int) := (by first | assumption | omega | (unfold R32 at *; omega) | (unfold R64 at *; omega) | (simp only [R32, R64] at *; omega))
      have hp_44 : R32 (57 : Int) := (by first | assumption | omega | (unfold R32 at *; omega) | (unfold R64 at *; omega) | (simp only [R32, R64] at *; omega))
      refine r_callb (P := (v 203 7) < (v 203 6) ∧ (48 : Int) ≤ (v 208 ((v 203 7).toNat)) ∧ (v 208 ((v 203 7).toNat)) ≤ (57 : Int)) (m := 214) (args := [.inr (.inr (some 203)), .inl (v 203 7), .inl 48, .inl 57]) (n' := 213) (pc' := 200) (lo' := [some (.inr (.inr (some 203))), o1]) (st' := []) (I := .invokevirtual 214) (pc0 := 197) (len := 3) rfl rfl rfl (e_mo_isByte hX_15 hp_42 hp_43 hp_44) (fun h_197 => ?_) (fun h_197 => ?_)
      · show WV _ _ _ 200 _ _ _ _ _
        rw [if_pos h_197] at hQ
        refine r_ex 3 (pc' := 205) (lo' := [some (.inr (.inr (some 203))), o1]) (st' := [.inl 2, .inr (.inr (some 203))]) rfl ?_
        refine r_puti2 (j := 8) (pc' := 208) (pc0 := 205) (len := 3) rfl (s_203 _) rfl rfl rfl (Or.inl rfl) rfl rfl ?_
        have hX_45 : XI (v2 (v2 (v2 (v2 v 203 9 (v 203 7)) 203 10 0) 203 11 0) 203 8 2) := XI.put hX_15 (show 0 ≤ 2 ∧ 2 ≤ 4 from (by first | assumption | omega | (unfold R32 at *; omega) | (unfold R64 at *; omega) | (simp only [R32, R64] at *; omega)))
        exact l_mo_next_208 2001 (v2 (v2 (v2 (v2 v 203 9 (v 203 7)) 203 10 0) 203 11 0) 203 8 2)  _ hX_45 (show (v 203 7) ≤ (v 203 6) from (by first | assumption | omega | (unfold R32 at *; omega) | (unfold R64 at *; omega) | (simp only [R32, R64] at *; omega))) (show (v 203 7) ≤ (v 203 7) from (by first | assumption | omega | (unfold R32 at *; omega) | (unfold R64 at *; omega) | (simp only [R32, R64] at *; omega))) (by first | exact Or.inr (show LD1 _ from h_197) | exact Or.inl (show (v 203 9) < (v 203 7) + 1 by omega)) (show 2000 < (v 203 7) + (2001 : Nat) from (by first | assumption | omega | (unfold R32 at *; omega) | (unfold R64 at *; omega) | (simp only [R32, R64] at *; omega))) hQ
      · show WV _ _ _ 200 _ _ _ _ _
        rw [if_neg h_197] at hQ
        refine r_ex 6 (pc' := 283) (lo' := [some (.inr (.inr (some 203))), o1]) (st' := [.inl (v 203 7), .inr (.inr (some 208)), .inr (.inr (some 203))]) rfl ?_
        refine r_bald2 (x := (v 208 (((v 203 7)).toNat))) (pc' := 284) (pc0 := 283) (len := 1) rfl (s_208 _) (Or.inl rfl) (by first | assumption | omega | (unfold R32 at *; omega) | (unfold R64 at *; omega) | (simp only [R32, R64] at *; omega)) (by decide) rfl rfl ?_
        have hb_59 : -128 ≤ (v 208 (((v 203 7)).toNat)) ∧ (v 208 (((v 203 7)).toNat)) ≤ 127 := hX_15 208 (((v 203 7)).toNat)
        refine r_ex 1 (pc' := 286) (lo' := [some (.inr (.inr (some 203))), o1]) (st' := [.inl 59, .inl (v 208 (((v 203 7)).toNat)), .inr (.inr (some 203))]) rfl ?_
        refine n_ic_ne (pc0 := 286) (len := 3) (t := 293) rfl (by first | assumption | omega | (unfold R32 at *; omega) | (unfold R64 at *; omega) | (simp only [R32, R64] at *; omega)) (by first | assumption | omega | (unfold R32 at *; omega) | (unfold R64 at *; omega) | (simp only [R32, R64] at *; omega)) (fun h_286 => ?_) (fun h_286 => ?_)
        · show WV _ _ _ 293 _ _ _ _ _
          rw [if_neg h_286] at hQ
          refine r_ex 1 (pc' := 294) (lo' := [some (.inr (.inr (some 203))), o1]) (st' := [.inl 4, .inr (.inr (some 203))]) rfl ?_
          refine r_puti2 (j := 8) (pc' := 297) (pc0 := 294) (len := 3) rfl (s_203 _) rfl rfl rfl (Or.inl rfl) rfl rfl ?_
          have hX_60 : XI (v2 (v2 (v2 (v2 v 203 9 (v 203 7)) 203 10 0) 203 11 0) 203 8 4) := XI.put hX_15 (show 0 ≤ 4 ∧ 4 ≤ 4 from (by first | assumption | omega | (unfold R32 at *; omega) | (unfold R64 at *; omega) | (simp only [R32, R64] at *; omega)))
          refine r_ex 5 (pc' := 304) (lo' := [some (.inr (.inr (some 203))), o1]) (st' := [.inl ((v 203 7) + 1), .inr (.inr (some 203))]) rfl ?_
          have hb_61 : 0 ≤ (v 203 7) ∧ (v 203 7) ≤ 2000 := hX_60 203 7
          refine r_puti2 (j := 7) (pc' := 307) (pc0 := 304) (len := 3) rfl (s_203 _) rfl rfl rfl (Or.inl rfl) rfl rfl ?_
          have hX_62 : XI (v2 (v2 (v2 (v2 (v2 v 203 9 (v 203 7)) 203 10 0) 203 11 0) 203 8 4) 203 7 ((v 203 7) + 1)) := XI.put hX_60 (show 0 ≤ ((v 203 7) + 1) ∧ ((v 203 7) + 1) ≤ 2000 from (by first | assumption | omega | (unfold R32 at *; omega) | (unfold R64 at *; omega) | (simp only [R32, R64] at *; omega)))
          refine r_ret (rr := none) (I := .return_) (pc0 := 307) (len := 1) rfl rfl ?_
          exact hQ hX_62 (show ((v 203 7) + 1) ≤ (v 203 6) ∧ (4 = 0 ∨ (v 203 7) < ((v 203 7) + 1)) ∧ (v 203 7) ≤ ((v 203 7) + 1) from (by first | assumption | omega | (unfold R32 at *; omega) | (unfold R64 at *; omega) | (simp only [R32, R64] at *; omega)))
        · show WV _ _ _ 289 _ _ _ _ _
          rw [if_pos h_286] at hQ
          refine r_ex 2 (pc' := 294) (lo' := [some (.inr (.inr (some 203))), o1]) (st' := [.inl 3, .inr (.inr (some 203))]) rfl ?_
          refine r_puti2 (j := 8) (pc' := 297) (pc0 := 294) (len := 3) rfl (s_203 _) rfl rfl rfl (Or.inl rfl) rfl rfl ?_
          have hX_63 : XI (v2 (v2 (v2 (v2 v 203 9 (v 203 7)) 203 10 0) 203 11 0) 203 8 3) := XI.put hX_15 (show 0 ≤ 3 ∧ 3 ≤ 4 from (by first | assumption | omega | (unfold R32 at *; omega) | (unfold R64 at *; omega) | (simp only [R32, R64] at *; omega)))
          refine r_ex 5 (pc' := 304) (lo' := [some (.inr (.inr (some 203))), o1]) (st' := [.inl ((v 203 7) + 1), .inr (.inr (some 203))]) rfl ?_
          have hb_64 : 0 ≤ (v 203 7) ∧ (v 203 7) ≤ 2000 := hX_63 203 7
          refine r_puti2 (j := 7) (pc' := 307) (pc0 := 304) (len := 3) rfl (s_203 _) rfl rfl rfl (Or.inl rfl) rfl rfl ?_
          have hX_65 : XI (v2 (v2 (v2 (v2 (v2 v 203 9 (v 203 7)) 203 10 0) 203 11 0) 203 8 3) 203 7 ((v 203 7) + 1)) := XI.put hX_63 (show 0 ≤ ((v 203 7) + 1) ∧ ((v 203 7) + 1) ≤ 2000 from (by first | assumption | omega | (unfold R32 at *; omega) | (unfold R64 at *; omega) | (simp only [R32, R64] at *; omega)))
          refine r_ret (rr := none) (I := .return_) (pc0 := 307) (len := 1) rfl rfl ?_
          exact hQ hX_65 (show ((v 203 7) + 1) ≤ (v 203 6) ∧ (3 = 0 ∨ (v 203 7) < ((v 203 7) + 1)) ∧ (v 203 7) ≤ ((v 203 7) + 1) from (by first | assumption | omega | (unfold R32 at *; omega) | (unfold R64 at *; omega) | (simp only [R32, R64] at *; omega)))
  · show WV _ _ _ 72 _ _ _ _ _
    rw [if_pos h_69] at hQ
    refine r_ex 2 (pc' := 74) (lo' := [some (.inr (.inr (some 203))), o1]) (st' := [.inl 0, .inr (.inr (some 203))]) rfl ?_
    refine r_puti2 (j := 8) (pc' := 77) (pc0 := 74) (len := 3) rfl (s_203 _) rfl rfl rfl (Or.inl rfl) rfl rfl ?_
    have hX_66 : XI (v2 (v2 (v2 (v2 v 203 9 (v 203 7)) 203 10 0) 203 11 0) 203 8 0) := XI.put hX_15 (show 0 ≤ 0 ∧ 0 ≤ 4 from (by first | assumption | omega | (unfold R32 at *; omega) | (unfold R64 at *; omega) | (simp only [R32, R64] at *; omega)))
    refine r_ex 1 (pc' := 307) (lo' := [some (.inr (.inr (some 203))), o1]) (st' := []) rfl ?_
    refine r_ret (rr := none) (I := .return_) (pc0 := 307) (len := 1) rfl rfl ?_
    exact hQ hX_66 (show (v 203 7) ≤ (v 203 6) ∧ (0 = 0 ∨ (v 203 7) < (v 203 7)) ∧ (v 203 7) ≤ (v 203 7) from (by first | assumption | omega | (unfold R32 at *; omega) | (unfold R64 at *; omega) | (simp only [R32, R64] at *; omega)))

theorem o_mo_next_43 {rk : Nat} {v : VS}  (hk : (rk < 203 ∨ 203 < rk)) : (mo_next_43 v ) rk = v rk := by
  unfold mo_next_43
  by_cases hc_ : (v 203 7) = (v 203 6)
  · rw [if_pos hc_]
    all_goals (show (v2 (v2 (v2 (v2 v 203 9 (v 203 7)) 203 10 0) 203 11 0) 203 8 0) rk = _)
    all_goals (rw [v2_row (by omega), v2_row (by omega), v2_row (by omega), v2_row (by omega)])
  · rw [if_neg hc_]
    by_cases hc_ : (v 203 7) < (v 203 6) ∧ (97 : Int) ≤ (v 208 ((v 203 7).toNat)) ∧ (v 208 ((v 203 7).toNat)) ≤ (122 : Int)
    · rw [if_pos hc_]
      all_goals (rw [o_mo_next_102 (by omega), v2_row (by omega), v2_row (by omega), v2_row (by omega), v2_row (by omega)])
    · rw [if_neg hc_]
      by_cases hc_ : (v 203 7) < (v 203 6) ∧ (48 : Int) ≤ (v 208 ((v 203 7).toNat)) ∧ (v 208 ((v 203 7).toNat)) ≤ (57 : Int)
      · rw [if_pos hc_]
        all_goals (rw [o_mo_next_208 (by omega), v2_row (by omega), v2_row (by omega), v2_row (by omega), v2_row (by omega)])
      · rw [if_neg hc_]
        by_cases hc_ : (v 208 (((v 203 7)).toNat)) = 59
        · rw [if_pos hc_]
          all_goals (show (v2 (v2 (v2 (v2 (v2 v 203 9 (v 203 7)) 203 10 0) 203 11 0) 203 8 3) 203 7 ((v 203 7) + 1)) rk = _)
          all_goals (rw [v2_row (by omega), v2_row (by omega), v2_row (by omega), v2_row (by omega), v2_row (by omega)])
        · rw [if_neg hc_]
          all_goals (show (v2 (v2 (v2 (v2 (v2 v 203 9 (v 203 7)) 203 10 0) 203 11 0) 203 8 4) 203 7 ((v 203 7) + 1)) rk = _)
          all_goals (rw [v2_row (by omega), v2_row (by omega), v2_row (by omega), v2_row (by omega), v2_row (by omega)])

theorem w_mo_next {X : PX} {d b : Nat} {v : VS}  (hX : XI v) (hp_a : (v 203 7) ≤ (v 203 6)) {Q : Option PV → Nat → VS → Prop} (hQ : XI (mo_next v) → (((mo_next v) 203 7) ≤ ((mo_next v) 203 6) ∧ (((mo_next v) 203 8) = 0 ∨ ((mo_next v) 203 9) < ((mo_next v) 203 7)) ∧ ((mo_next v) 203 9) ≤ ((mo_next v) 203 7)) → Q none b (mo_next v)) : WV X (d + 1) 213 0 [some (.inr (.inr (some 203))), none] [] b v Q := by
  rw [mo_next] at hQ
  have hz7 : 0 ≤ v 203 7 ∧ v 203 7 ≤ 2000 := hX 203 7
  have hz6 : 0 ≤ v 203 6 ∧ v 203 6 ≤ 2000 := hX 203 6
  have hz10 : 0 ≤ v 203 10 ∧ v 203 10 ≤ 1000009 := hX 203 10
  refine l_mo_next_0 2001 v  _ hX (show (v 203 7) ≤ (v 203 6) from (by first | assumption | omega | (unfold R32 at *; omega) | (unfold R64 at *; omega) | (simp only [R32, R64] at *; omega))) (show 2000 < (v 203 7) + (2001 : Nat) from (by first | assumption | omega | (unfold R32 at *; omega) | (unfold R64 at *; omega) | (simp only [R32, R64] at *; omega))) (fun o1_11 hX_11 hv_11_0 => ?_)
  show WV _ _ _ 43 _ _ _ _ _
  exact l_mo_next_43  (mo_next_0 2001 v)  _ hX_11 (show ((mo_next_0 2001 v) 203 7) ≤ ((mo_next_0 2001 v) 203 6) from (by first | assumption | omega | (unfold R32 at *; omega) | (unfold R64 at *; omega) | (simp only [R32, R64] at *; omega))) hQ

theorem e_mo_next {X : PX} {d b : Nat} {v : VS}  (hX : XI v) (hp_a : (v 203 7) ≤ (v 203 6)) : EvV X (d + 1) 213 [.inr (.inr (some 203))] b v none b (mo_next v) := EvV.of (w_mo_next hX hp_a (fun _ _ => ⟨rfl, rfl, rfl⟩))

theorem i_mo_next {v : VS}  (hX : XI v) (hp_a : (v 203 7) ≤ (v 203 6)) : XI (mo_next v) := by
  have q : WV (0, fun _ => 0, none) (0 + 1) 213 0 [some (.inr (.inr (some 203))), none] [] 1 v (fun _ _ _ => XI (mo_next v)) := w_mo_next (X := (0, fun _ => 0, none)) (d := 0) (b := 1) hX hp_a (fun q _ => q)
  obtain ⟨_, _, _, _, _, _, _, q⟩ := q
  exact q

theorem n_mo_next {v : VS}  (hX : XI v) (hp_a : (v 203 7) ≤ (v 203 6)) : ((mo_next v) 203 7) ≤ ((mo_next v) 203 6) ∧ (((mo_next v) 203 8) = 0 ∨ ((mo_next v) 203 9) < ((mo_next v) 203 7)) ∧ ((mo_next v) 203 9) ≤ ((mo_next v) 203 7) := by
  have q : WV (0, fun _ => 0, none) (0 + 1) 213 0 [some (.inr (.inr (some 203))), none] [] 1 v (fun _ _ _ => ((mo_next v) 203 7) ≤ ((mo_next v) 203 6) ∧ (((mo_next v) 203 8) = 0 ∨ ((mo_next v) 203 9) < ((mo_next v) 203 7)) ∧ ((mo_next v) 203 9) ≤ ((mo_next v) 203 7)) := w_mo_next (X := (0, fun _ => 0, none)) (d := 0) (b := 1) hX hp_a (fun _ q => q)
  obtain ⟨_, _, _, _, _, _, _, q⟩ := q
  exact q

theorem o_mo_next {rk : Nat} {v : VS}  (hk : (rk < 203 ∨ 203 < rk)) : (mo_next v ) rk = v rk := by
  unfold mo_next
  all_goals (rw [o_mo_next_43 (by omega), o_mo_next_0 (by omega)])
