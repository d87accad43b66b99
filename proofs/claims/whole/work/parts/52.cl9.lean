/-! the tape; bays copied -/
def cl_putBytes (v : VS) (x : Int) : VS :=
  (if (v 0 1) < 2000 then (if ((v 0 1) + 1) < 2000 then (if (((v 0 1) + 1) + 1) < 2000 then (if ((((v 0 1) + 1) + 1) + 1) < 2000 then (v2 (v2 (v2 (v2 (v2 (v2 (v2 (v2 v 1 (((v 0 1)).toNat) (w8 (w8 (pm_shr x 24)))) 0 1 ((v 0 1) + 1)) 1 ((((v 0 1) + 1)).toNat) (w8 (w8 (pm_shr x 16)))) 0 1 (((v 0 1) + 1) + 1)) 1 (((((v 0 1) + 1) + 1)).toNat) (w8 (w8 (pm_shr x 8)))) 0 1 ((((v 0 1) + 1) + 1) + 1)) 1 ((((((v 0 1) + 1) + 1) + 1)).toNat) (w8 (w8 (pm_shr x 0)))) 0 1 (((((v 0 1) + 1) + 1) + 1) + 1)) else v) else v) else v) else v)
theorem w_cl_putBytes {X : PX} {d b : Nat} {v : VS} {x : Int} (hX : XI v) (hp_a : (v 0 1) ≤ 1996) {Q : Option PV → Nat → VS → Prop} (hQ : XI (cl_putBytes v x) → (((cl_putBytes v x) 0 1) = (v 0 1) + 4) → Q none b (cl_putBytes v x)) : WV X d 14 0 [some (.inr (.inr (some 0))), some (.inl x), none] [] b v Q := by
  rw [cl_putBytes] at hQ
  refine r_ex 7 (pc' := 14) (lo' := [some (.inr (.inr (some 0))), some (.inl x), some (.inl 24)]) (st' := [.inl 2000, .inl (v 0 1)]) rfl ?_
  have hb_1 : 0 ≤ (v 0 1) ∧ (v 0 1) ≤ 2000 := hX 0 1
  refine n_ic_ge (pc0 := 14) (len := 3) (t := 40) rfl (by first | assumption | omega | (unfold R32 at *; omega) | (unfold R64 at *; omega) | (simp only [R32, R64] at *; omega)) (by first | assumption | omega | (unfold R32 at *; omega) | (unfold R64 at *; omega) | (simp only [R32, R64] at *; omega)) (fun h_14 => ?_) (fun h_14 => ?_)
  · show WV _ _ _ 40 _ _ _ _ _
    rw [if_neg h_14] at hQ
    exact absurd h_14 (by omega)
  · show WV _ _ _ 17 _ _ _ _ _
    rw [if_pos h_14] at hQ
    refine r_ex 8 (pc' := 29) (lo' := [some (.inr (.inr (some 0))), some (.inl x), some (.inl 24)]) (st' := [.inl (w8 (pm_shr x 24)), .inl (v 0 1), .inr (.inr (some 1))]) rfl ?_
    refine r_bast2 (pc' := 30) (pc0 := 29) (len := 1) rfl (s_1 _) (by first | assumption | omega | (unfold R32 at *; omega) | (unfold R64 at *; omega) | (simp only [R32, R64] at *; omega)) (by decide) rfl ?_
    have hb_2 := w8_in (w8 (pm_shr x 24))
    have hX_3 : XI (v2 v 1 (((v 0 1)).toNat) (w8 (w8 (pm_shr x 24)))) := XI.put hX (show -128 ≤ (w8 (w8 (pm_shr x 24))) ∧ (w8 (w8 (pm_shr x 24))) ≤ 127 from (by first | assumption | omega | (unfold R32 at *; omega) | (unfold R64 at *; omega) | (simp only [R32, R64] at *; omega)))
    show WV _ _ _ 30 _ _ _ (v2 v 1 (((v 0 1)).toNat) (w8 (w8 (pm_shr x 24)))) _
    refine r_ex 5 (pc' := 37) (lo' := [some (.inr (.inr (some 0))), some (.inl x), some (.inl 24)]) (st' := [.inl ((v 0 1) + 1), .inr (.inr (some 0))]) rfl ?_
    have hb_4 : 0 ≤ (v 0 1) ∧ (v 0 1) ≤ 2000 := hX_3 0 1
    refine r_puti2 (j := 1) (pc' := 40) (pc0 := 37) (len := 3) rfl (s_0 _) rfl rfl rfl (Or.inl rfl) rfl rfl ?_
    have hX_5 : XI (v2 (v2 v 1 (((v 0 1)).toNat) (w8 (w8 (pm_shr x 24)))) 0 1 ((v 0 1) + 1)) := XI.put hX_3 (show 0 ≤ ((v 0 1) + 1) ∧ ((v 0 1) + 1) ≤ 2000 from (by first | assumption | omega | (unfold R32 at *; omega) | (unfold R64 at *; omega) | (simp only [R32, R64] at *; omega)))
    refine r_ex 7 (pc' := 14) (lo' := [some (.inr (.inr (some 0))), some (.inl x), some (.inl 16)]) (st' := [.inl 2000, .inl ((v 0 1) + 1)]) rfl ?_
    have hb_6 : 0 ≤ ((v 0 1) + 1) ∧ ((v 0 1) + 1) ≤ 2000 := hX_5 0 1
    refine n_ic_ge (pc0 := 14) (len := 3) (t := 40) rfl (by first | assumption | omega | (unfold R32 at *; omega) | (unfold R64 at *; omega) | (simp only [R32, R64] at *; omega)) (by first | assumption | omega | (unfold R32 at *; omega) | (unfold R64 at *; omega) | (simp only [R32, R64] at *; omega)) (fun h_14 => ?_) (fun h_14 => ?_)
    · show WV _ _ _ 40 _ _ _ _ _
      rw [if_neg h_14] at hQ
      exact absurd h_14 (by omega)
    · show WV _ _ _ 17 _ _ _ _ _
      rw [if_pos h_14] at hQ
      refine r_ex 8 (pc' := 29) (lo' := [some (.inr (.inr (some 0))), some (.inl x), some (.inl 16)]) (st' := [.inl (w8 (pm_shr x 16)), .inl ((v 0 1) + 1), .inr (.inr (some 1))]) rfl ?_
      refine r_bast2 (pc' := 30) (pc0 := 29) (len := 1) rfl (s_1 _) (by first | assumption | omega | (unfold R32 at *; omega) | (unfold R64 at *; omega) | (simp only [R32, R64] at *; omega)) (by decide) rfl ?_
      have hb_7 := w8_in (w8 (pm_shr x 16))
      have hX_8 : XI (v2 (v2 (v2 v 1 (((v 0 1)).toNat) (w8 (w8 (pm_shr x 24)))) 0 1 ((v 0 1) + 1)) 1 ((((v 0 1) + 1)).toNat) (w8 (w8 (pm_shr x 16)))) := XI.put hX_5 (show -128 ≤ (w8 (w8 (pm_shr x 16))) ∧ (w8 (w8 (pm_shr x 16))) ≤ 127 from (by first | assumption | omega | (unfold R32 at *; omega) | (unfold R64 at *; omega) | (simp only [R32, R64] at *; omega)))
      show WV _ _ _ 30 _ _ _ (v2 (v2 (v2 v 1 (((v 0 1)).toNat) (w8 (w8 (pm_shr x 24)))) 0 1 ((v 0 1) + 1)) 1 ((((v 0 1) + 1)).toNat) (w8 (w8 (pm_shr x 16)))) _
      refine r_ex 5 (pc' := 37) (lo' := [some (.inr (.inr (some 0))), some (.inl x), some (.inl 16)]) (st' := [.inl (((v 0 1) + 1) + 1), .inr (.inr (some 0))]) rfl ?_
      have hb_9 : 0 ≤ ((v 0 1) + 1) ∧ ((v 0 1) + 1) ≤ 2000 := hX_8 0 1
      refine r_puti2 (j := 1) (pc' := 40) (pc0 := 37) (len := 3) rfl (s_0 _) rfl rfl rfl (Or.inl rfl) rfl rfl ?_
      have hX_10 : XI (v2 (v2 (v2 (v2 v 1 (((v 0 1)).toNat) (w8 (w8 (pm_shr x 24)))) 0 1 ((v 0 1) + 1)) 1 ((((v 0 1) + 1)).toNat) (w8 (w8 (pm_shr x 16)))) 0 1 (((v 0 1) + 1) + 1)) := XI.put hX_8 (show 0 ≤ (((v 0 1) + 1) + 1) ∧ (((v 0 1) + 1) + 1) ≤ 2000 from (by first | assumption | omega | (unfold R32 at *; omega) | (unfold R64 at *; omega) | (simp only [R32, R64] at *; omega)))
      refine r_ex 7 (pc' := 14) (lo' := [some (.inr (.inr (some 0))), some (.inl x), some (.inl 8)]) (st' := [.inl 2000, .inl (((v 0 1) + 1) + 1)]) rfl ?_
      have hb_11 : 0 ≤ (((v 0 1) + 1) + 1) ∧ (((v 0 1) + 1) + 1) ≤ 2000 := hX_10 0 1
      refine n_ic_ge (pc0 := 14) (len := 3) (t := 40) rfl (by first | assumption | omega | (unfold R32 at *; omega) | (unfold R64 at *; omega) | (simp only [R32, R64] at *; omega)) (by first | assumption | omega | (unfold R32 at *; omega) | (unfold R64 at *; omega) | (simp only [R32, R64] at *; omega)) (fun h_14 => ?_) (fun h_14 => ?_)
      · show WV _ _ _ 40 _ _ _ _ _
        rw [if_neg h_14] at hQ
        exact absurd h_14 (by omega)
      · show WV _ _ _ 17 _ _ _ _ _
        rw [if_pos h_14] at hQ
        refine r_ex 8 (pc' := 29) (lo' := [some (.inr (.inr (some 0))), some (.inl x), some (.inl 8)]) (st' := [.inl (w8 (pm_shr x 8)), .inl (((v 0 1) + 1) + 1), .inr (.inr (some 1))]) rfl ?_
        refine r_bast2 (pc' := 30) (pc0 := 29) (len := 1) rfl (s_1 _) (by first | assumption | omega | (unfold R32 at *; omega) | (unfold R64 at *; omega) | (simp only [R32, R64] at *; omega)) (by decide) rfl ?_
        have hb_12 := w8_in (w8 (pm_shr x 8))
        have hX_13 : XI (v2 (v2 (v2 (v2 (v2 v 1 (((v 0 1)).toNat) (w8 (w8 (pm_shr x 24)))) 0 1 ((v 0 1) + 1)) 1 ((((v 0 1) + 1)).toNat) (w8 (w8 (pm_shr x 16)))) 0 1 (((v 0 1) + 1) + 1)) 1 (((((v 0 1) + 1) + 1)).toNat) (w8 (w8 (pm_shr x 8)))) := XI.put hX_10 (show -128 ≤ (w8 (w8 (pm_shr x 8))) ∧ (w8 (w8 (pm_shr x 8))) ≤ 127 from (by first | assumption | omega | (unfold R32 at *; omega) | (unfold R64 at *; omega) | (simp only [R32, R64] at *; omega)))
        show WV _ _ _ 30 _ _ _ (v2 (v2 (v2 (v2 (v2 v 1 (((v 0 1)).toNat) (w8 (w8 (pm_shr x 24)))) 0 1 ((v 0 1) + 1)) 1 ((((v 0 1) + 1)).toNat) (w8 (w8 (pm_shr x 16)))) 0 1 (((v 0 1) + 1) + 1)) 1 (((((v 0 1) + 1) + 1)).toNat) (w8 (w8 (pm_shr x 8)))) _
        refine r_ex 5 (pc' := 37) (lo' := [some (.inr (.inr (some 0))), some (.inl x), some (.inl 8)]) (st' := [.inl ((((v 0 1) + 1) + 1) + 1), .inr (.inr (some 0))]) rfl ?_
        have hb_14 : 0 ≤ (((v 0 1) + 1) + 1) ∧ (((v 0 1) + 1) + 1) ≤ 2000 := hX_13 0 1
        refine r_puti2 (j := 1) (pc' := 40) (pc0 := 37) (len := 3) rfl (s_0 _) rfl rfl rfl (Or.inl rfl) rfl rfl ?_
        have hX_15 : XI (v2 (v2 (v2 (v2 (v2 (v2 v 1 (((v 0 1)).toNat) (w8 (w8 (pm_shr x 24)))) 0 1 ((v 0 1) + 1)) 1 ((((v 0 1) + 1)).toNat) (w8 (w8 (pm_shr x 16)))) 0 1 (((v 0 1) + 1) + 1)) 1 (((((v 0 1) + 1) + 1)).toNat) (w8 (w8 (pm_shr x 8)))) 0 1 ((((v 0 1) + 1) + 1) + 1)) := XI.put hX_13 (show 0 ≤ ((((v 0 1) + 1) + 1) + 1) ∧ ((((v 0 1) + 1) + 1) + 1) ≤ 2000 from (by first | assumption | omega | (unfold R32 at *; omega) | (unfold R64 at *; omega) | (simp only [R32, R64] at *; omega)))
        refine r_ex 7 (pc' := 14) (lo' := [some (.inr (.inr (some 0))), some (.inl x), some (.inl 0)]) (st' := [.inl 2000, .inl ((((v 0 1) + 1) + 1) + 1)]) rfl ?_
        have hb_16 : 0 ≤ ((((v 0 1) + 1) + 1) + 1) ∧ ((((v 0 1) + 1) + 1) + 1) ≤ 2000 := hX_15 0 1
        refine n_ic_ge (pc0 := 14) (len := 3) (t := 40) rfl (by first | assumption | omega | (unfold R32 at *; omega) | (unfold R64 at *; omega) | (simp only [R32, R64] at *; omega)) (by first | assumption | omega | (unfold R32 at *; omega) | (unfold R64 at *; omega) | (simp only [R32, R64] at *; omega)) (fun h_14 => ?_) (fun h_14 => ?_)
        · show WV _ _ _ 40 _ _ _ _ _
          rw [if_neg h_14] at hQ
          exact absurd h_14 (by omega)
        · show WV _ _ _ 17 _ _ _ _ _
          rw [if_pos h_14] at hQ
          refine r_ex 8 (pc' := 29) (lo' := [some (.inr (.inr (some 0))), some (.inl x), some (.inl 0)]) (st' := [.inl (w8 (pm_shr x 0)), .inl ((((v 0 1) + 1) + 1) + 1), .inr (.inr (some 1))]) rfl ?_
          refine r_bast2 (pc' := 30) (pc0 := 29) (len := 1) rfl (s_1 _) (by first | assumption | omega | (unfold R32 at *; omega) | (unfold R64 at *; omega) | (simp only [R32, R64] at *; omega)) (by decide) rfl ?_
          have hb_17 := w8_in (w8 (pm_shr x 0))
          have hX_18 : XI (v2 (v2 (v2 (v2 (v2 (v2 (v2 v 1 (((v 0 1)).toNat) (w8 (w8 (pm_shr x 24)))) 0 1 ((v 0 1) + 1)) 1 ((((v 0 1) + 1)).toNat) (w8 (w8 (pm_shr x 16)))) 0 1 (((v 0 1) + 1) + 1)) 1 (((((v 0 1) + 1) + 1)).toNat) (w8 (w8 (pm_shr x 8)))) 0 1 ((((v 0 1) + 1) + 1) + 1)) 1 ((((((v 0 1) + 1) + 1) + 1)).toNat) (w8 (w8 (pm_shr x 0)))) := XI.put hX_15 (show -128 ≤ (w8 (w8 (pm_shr x 0))) ∧ (w8 (w8 (pm_shr x 0))) ≤ 127 from (by first | assumption | omega | (unfold R32 at *; omega) | (unfold R64 at *; omega) | (simp only [R32, R64] at *; omega)))
          show WV _ _ _ 30 _ _ _ (v2 (v2 (v2 (v2 (v2 (v2 (v2 v 1 (((v 0 1)).toNat) (w8 (w8 (pm_shr x 24)))) 0 1 ((v 0 1) + 1)) 1 ((((v 0 1) + 1)).toNat) (w8 (w8 (pm_shr x 16)))) 0 1 (((v 0 1) + 1) + 1)) 1 (((((v 0 1) + 1) + 1)).toNat) (w8 (w8 (pm_shr x 8)))) 0 1 ((((v 0 1) + 1) + 1) + 1)) 1 ((((((v 0 1) + 1) + 1) + 1)).toNat) (w8 (w8 (pm_shr x 0)))) _
          refine r_ex 5 (pc' := 37) (lo' := [some (.inr (.inr (some 0))), some (.inl x), some (.inl 0)]) (st' := [.inl (((((v 0 1) + 1) + 1) + 1) + 1), .inr (.inr (some 0))]) rfl ?_
          have hb_19 : 0 ≤ ((((v 0 1) + 1) + 1) + 1) ∧ ((((v 0 1) + 1) + 1) + 1) ≤ 2000 := hX_18 0 1
          refine r_puti2 (j := 1) (pc' := 40) (pc0 := 37) (len := 3) rfl (s_0 _) rfl rfl rfl (Or.inl rfl) rfl rfl ?_
          have hX_20 : XI (v2 (v2 (v2 (v2 (v2 (v2 (v2 (v2 v 1 (((v 0 1)).toNat) (w8 (w8 (pm_shr x 24)))) 0 1 ((v 0 1) + 1)) 1 ((((v 0 1) + 1)).toNat) (w8 (w8 (pm_shr x 16)))) 0 1 (((v 0 1) + 1) + 1)) 1 (((((v 0 1) + 1) + 1)).toNat) (w8 (w8 (pm_shr x 8)))) 0 1 ((((v 0 1) + 1) + 1) + 1)) 1 ((((((v 0 1) + 1) + 1) + 1)).toNat) (w8 (w8 (pm_shr x 0)))) 0 1 (((((v 0 1) + 1) + 1) + 1) + 1)) := XI.put hX_18 (show 0 ≤ (((((v 0 1) + 1) + 1) + 1) + 1) ∧ (((((v 0 1) + 1) + 1) + 1) + 1) ≤ 2000 from (by first | assumption | omega | (unfold R32 at *; omega) | (unfold R64 at *; omega) | (simp only [R32, R64] at *; omega)))
          refine r_ex 4 (pc' := 46) (lo' := [some (.inr (.inr (some 0))), some (.inl x), some (.inl (-8))]) (st' := []) rfl ?_
          refine r_ret (rr := none) (I := .return_) (pc0 := 46) (len := 1) rfl rfl ?_
          exact hQ hX_20 (show (((((v 0 1) + 1) + 1) + 1) + 1) = (v 0 1) + 4 from (by first | assumption | omega | (unfold R32 at *; omega) | (unfold R64 at *; omega) | (simp only [R32, R64] at *; omega)))

theorem e_cl_putBytes {X : PX} {d b : Nat} {v : VS} {x : Int} (hX : XI v) (hp_a : (v 0 1) ≤ 1996) : EvV X d 14 [.inr (.inr (some 0)), .inl x] b v none b (cl_putBytes v x) := EvV.of (w_cl_putBytes hX hp_a (fun _ _ => ⟨rfl, rfl, rfl⟩))

theorem i_cl_putBytes {v : VS} {x : Int} (hX : XI v) (hp_a : (v 0 1) ≤ 1996) : XI (cl_putBytes v x) := by
  have q : WV (0, fun _ => 0, none) 0 14 0 [some (.inr (.inr (some 0))), some (.inl x), none] [] 1 v (fun _ _ _ => XI (cl_putBytes v x)) := w_cl_putBytes (X := (0, fun _ => 0, none)) (d := 0) (b := 1) hX hp_a (fun q _ => q)
  obtain ⟨_, _, _, _, _, _, _, q⟩ := q
  exact q

theorem n_cl_putBytes {v : VS} {x : Int} (hX : XI v) (hp_a : (v 0 1) ≤ 1996) : ((cl_putBytes v x) 0 1) = (v 0 1) + 4 := by
  have q : WV (0, fun _ => 0, none) 0 14 0 [some (.inr (.inr (some 0))), some (.inl x), none] [] 1 v (fun _ _ _ => ((cl_putBytes v x) 0 1) = (v 0 1) + 4) := w_cl_putBytes (X := (0, fun _ => 0, none)) (d := 0) (b := 1) hX hp_a (fun _ q => q)
  obtain ⟨_, _, _, _, _, _, _, q⟩ := q
  exact q

theorem o_cl_putBytes {rk : Nat} {v : VS} {x : Int} (hk : (rk < 0 ∨ 1 < rk)) : (cl_putBytes v x) rk = v rk := by
  unfold cl_putBytes
  by_cases hc_ : (v 0 1) < 2000
  · rw [if_pos hc_]
    by_cases hc_ : ((v 0 1) + 1) < 2000
    · rw [if_pos hc_]
      by_cases hc_ : (((v 0 1) + 1) + 1) < 2000
      · rw [if_pos hc_]
        by_cases hc_ : ((((v 0 1) + 1) + 1) + 1) < 2000
        · rw [if_pos hc_]
          all_goals (show (v2 (v2 (v2 (v2 (v2 (v2 (v2 (v2 v 1 (((v 0 1)).toNat) (w8 (w8 (pm_shr x 24)))) 0 1 ((v 0 1) + 1)) 1 ((((v 0 1) + 1)).toNat) (w8 (w8 (pm_shr x 16)))) 0 1 (((v 0 1) + 1) + 1)) 1 (((((v 0 1) + 1) + 1)).toNat) (w8 (w8 (pm_shr x 8)))) 0 1 ((((v 0 1) + 1) + 1) + 1)) 1 ((((((v 0 1) + 1) + 1) + 1)).toNat) (w8 (w8 (pm_shr x 0)))) 0 1 (((((v 0 1) + 1) + 1) + 1) + 1)) rk = _)
          all_goals (rw [v2_row (by omega), v2_row (by omega), v2_row (by omega), v2_row (by omega), v2_row (by omega), v2_row (by omega), v2_row (by omega), v2_row (by omega)])
        · rw [if_neg hc_]
          all_goals rfl
      · rw [if_neg hc_]
        all_goals rfl
    · rw [if_neg hc_]
      all_goals rfl
  · rw [if_neg hc_]
    all_goals rfl

def cl_feed (v : VS) (xa : Int) (xb : Int) (xc : Int) (xd : Int) (xe : Int) : Int × VS :=
  (if 2000 < ((v 0 1) + 20) then ((-1), v) else (((cl_putBytes (cl_putBytes (cl_putBytes (cl_putBytes (cl_putBytes v xa) xb) xc) xd) xe) 0 1), (cl_putBytes (cl_putBytes (cl_putBytes (cl_putBytes (cl_putBytes v xa) xb) xc) xd) xe)))
theorem w_cl_feed {X : PX} {d b : Nat} {v : VS} {xa : Int} {xb : Int} {xc : Int} {xd : Int} {xe : Int} (hX : XI v)  {Q : Option PV → Nat → VS → Prop} (hQ : XI (cl_feed v xa xb xc xd xe).2 → Q (some (.inl (cl_feed v xa xb xc xd xe).1)) b (cl_feed v xa xb xc xd xe).2) : WV X (d + 1) 13 0 [some (.inr (.inr (some 0))), some (.inl xa), some (.inl xb), some (.inl xc), some (.inl xd), some (.inl xe)] [] b v Q := by
  rw [cl_feed] at hQ
  refine r_ex 5 (pc' := 10) (lo' := [some (.inr (.inr (some 0))), some (.inl xa), some (.inl xb), some (.inl xc), some (.inl xd), some (.inl xe)]) (st' := [.inl 2000, .inl ((v 0 1) + 20)]) rfl ?_
  have hb_1 : 0 ≤ (v 0 1) ∧ (v 0 1) ≤ 2000 := hX 0 1
  refine n_ic_le (pc0 := 10) (len := 3) (t := 15) rfl (by first | assumption | omega | (unfold R32 at *; omega) | (unfold R64 at *; omega) | (simp only [R32, R64] at *; omega)) (by first | assumption | omega | (unfold R32 at *; omega) | (unfold R64 at *; omega) | (simp only [R32, R64] at *; omega)) (fun h_10 => ?_) (fun h_10 => ?_)
  · show WV _ _ _ 15 _ _ _ _ _
    rw [if_neg h_10] at hQ
    refine r_ex 2 (pc' := 17) (lo' := [some (.inr (.inr (some 0))), some (.inl xa), some (.inl xb), some (.inl xc), some (.inl xd), some (.inl xe)]) (st' := [.inl xa, .inr (.inr (some 0))]) rfl ?_
    have hp_2 : (v 0 1) ≤ 1996 := (show (v 0 1) ≤ 1996 from (by first | assumption | omega | (unfold R32 at *; omega) | (unfold R64 at *; omega) | (simp only [R32, R64] at *; omega)))
    refine r_call (m := 14) (args := [.inr (.inr (some 0)), .inl xa]) (n' := 13) (pc' := 20) (lo' := [some (.inr (.inr (some 0))), some (.inl xa), some (.inl xb), some (.inl xc), some (.inl xd), some (.inl xe)]) (st' := []) (I := .invokevirtual 14) (pc0 := 17) (len := 3) rfl rfl rfl (e_cl_putBytes hX hp_2) ?_
    show WV _ _ _ 20 _ [] _ (cl_putBytes v xa) _
    have hX_3 : XI (cl_putBytes v xa) := i_cl_putBytes (v := v) (x := xa) hX hp_2
    have hb_4 : ((cl_putBytes v xa) 0 1) = (v 0 1) + 4 := n_cl_putBytes (v := v) (x := xa) hX hp_2
    refine r_ex 2 (pc' := 22) (lo' := [some (.inr (.inr (some 0))), some (.inl xa), some (.inl xb), some (.inl xc), some (.inl xd), some (.inl xe)]) (st' := [.inl xb, .inr (.inr (some 0))]) rfl ?_
    have hp_5 : ((cl_putBytes v xa) 0 1) ≤ 1996 := (show ((cl_putBytes v xa) 0 1) ≤ 1996 from (by first | assumption | omega | (unfold R32 at *; omega) | (unfold R64 at *; omega) | (simp only [R32, R64] at *; omega)))
    refine r_call (m := 14) (args := [.inr (.inr (some 0)), .inl xb]) (n' := 13) (pc' := 25) (lo' := [some (.inr (.inr (some 0))), some (.inl xa), some (.inl xb), some (.inl xc), some (.inl xd), some (.inl xe)]) (st' := []) (I := .invokevirtual 14) (pc0 := 22) (len := 3) rfl rfl rfl (e_cl_putBytes hX_3 hp_5) ?_
    show WV _ _ _ 25 _ [] _ (cl_putBytes (cl_putBytes v xa) xb) _
    have hX_6 : XI (cl_putBytes (cl_putBytes v xa) xb) := i_cl_putBytes (v := (cl_putBytes v xa)) (x := xb) hX_3 hp_5
    have hb_7 : ((cl_putBytes (cl_putBytes v xa) xb) 0 1) = ((cl_putBytes v xa) 0 1) + 4 := n_cl_putBytes (v := (cl_putBytes v xa)) (x := xb) hX_3 hp_5
    refine r_ex 2 (pc' := 27) (lo' := [some (.inr (.inr (some 0))), some (.inl xa), some (.inl xb), some (.inl xc), some (.inl xd), some (.inl xe)]) (st' := [.inl xc, .inr (.inr (some 0))]) rfl ?_
    have hp_8 : ((cl_putBytes (cl_putBytes v xa) xb) 0 1) ≤ 1996 := (show ((cl_putBytes (cl_putBytes v xa) xb) 0 1) ≤ 1996 from (by first | assumption | omega | (unfold R32 at *; omega) | (unfold R64 at *; omega) | (simp only [R32, R64] at *; omega)))
    refine r_call (m := 14) (args := [.inr (.inr (some 0)), .inl xc]) (n' := 13) (pc' := 30) (lo' := [some (.inr (.inr (some 0))), some (.inl xa), some (.inl xb), some (.inl xc), some (.inl xd), some (.inl xe)]) (st' := []) (I := .invokevirtual 14) (pc0 := 27) (len := 3) rfl rfl rfl (e_cl_putBytes hX_6 hp_8) ?_
    show WV _ _ _ 30 _ [] _ (cl_putBytes (cl_putBytes (cl_putBytes v xa) xb) xc) _
    have hX_9 : XI (cl_putBytes (cl_putBytes (cl_putBytes v xa) xb) xc) := i_cl_putBytes (v := (cl_putBytes (cl_putBytes v xa) xb)) (x := xc) hX_6 hp_8
    have hb_10 : ((cl_putBytes (cl_putBytes (cl_putBytes v xa) xb) xc) 0 1) = ((cl_putBytes (cl_putBytes v xa) xb) 0 1) + 4 := n_cl_putBytes (v := (cl_putBytes (cl_putBytes v xa) xb)) (x := xc) hX_6 hp_8
    refine r_ex 2 (pc' := 33) (lo' := [some (.inr (.inr (some 0))), some (.inl xa), some (.inl xb), some (.inl xc), some (.inl xd), some (.inl xe)]) (st' := [.inl xd, .inr (.inr (some 0))]) rfl ?_
    have hp_11 : ((cl_putBytes (cl_putBytes (cl_putBytes v xa) xb) xc) 0 1) ≤ 1996 := (show ((cl_putBytes (cl_putBytes (cl_putBytes v xa) xb) xc) 0 1) ≤ 1996 from (by first | assumption | omega | (unfold R32 at *; omega) | (unfold R64 at *; omega) | (simp only [R32, R64] at *; omega)))
    refine r_call (m := 14) (args := [.inr (.inr (some 0)), .inl xd]) (n' := 13) (pc' := 36) (lo' := [some (.inr (.inr (some 0))), some (.inl xa), some (.inl xb), some (.inl xc), some (.inl xd), some (.inl xe)]) (st' := []) (I := .invokevirtual 14) (pc0 := 33) (len := 3) rfl rfl rfl (e_cl_putBytes hX_9 hp_11) ?_
    show WV _ _ _ 36 _ [] _ (cl_putBytes (cl_putBytes (cl_putBytes (cl_putBytes v xa) xb) xc) xd) _
    have hX_12 : XI (cl_putBytes (cl_putBytes (cl_putBytes (cl_putBytes v xa) xb) xc) xd) := i_cl_putBytes (v := (cl_putBytes (cl_putBytes (cl_putBytes v xa) xb) xc)) (x := xd) hX_9 hp_11
    have hb_13 : ((cl_putBytes (cl_putBytes (cl_putBytes (cl_putBytes v xa) xb) xc) xd) 0 1) = ((cl_putBytes (cl_putBytes (cl_putBytes v xa) xb) xc) 0 1) + 4 := n_cl_putBytes (v := (cl_putBytes (cl_putBytes (cl_putBytes v xa) xb) xc)) (x := xd) hX_9 hp_11
    refine r_ex 2 (pc' := 39) (lo' := [some (.inr (.inr (some 0))), some (.inl xa), some (.inl xb), some (.inl xc), some (.inl xd), some (.inl xe)]) (st' := [.inl xe, .inr (.inr (some 0))]) rfl ?_
    have hp_14 : ((cl_putBytes (cl_putBytes (cl_putBytes (cl_putBytes v xa) xb) xc) xd) 0 1) ≤ 1996 := (show ((cl_putBytes (cl_putBytes (cl_putBytes (cl_putBytes v xa) xb) xc) xd) 0 1) ≤ 1996 from (by first | assumption | omega | (unfold R32 at *; omega) | (unfold R64 at *; omega) | (simp only [R32, R64] at *; omega)))
    refine r_call (m := 14) (args := [.inr (.inr (some 0)), .inl xe]) (n' := 13) (pc' := 42) (lo' := [some (.inr (.inr (some 0))), some (.inl xa), some (.inl xb), some (.inl xc), some (.inl xd), some (.inl xe)]) (st' := []) (I := .invokevirtual 14) (pc0 := 39) (len := 3) rfl rfl rfl (e_cl_putBytes hX_12 hp_14) ?_
    show WV _ _ _ 42 _ [] _ (cl_putBytes (cl_putBytes (cl_putBytes (cl_putBytes (cl_putBytes v xa) xb) xc) xd) xe) _
    have hX_15 : XI (cl_putBytes (cl_putBytes (cl_putBytes (cl_putBytes (cl_putBytes v xa) xb) xc) xd) xe) := i_cl_putBytes (v := (cl_putBytes (cl_putBytes (cl_putBytes (cl_putBytes v xa) xb) xc) xd)) (x := xe) hX_12 hp_14
    have hb_16 : ((cl_putBytes (cl_putBytes (cl_putBytes (cl_putBytes (cl_putBytes v xa) xb) xc) xd) xe) 0 1) = ((cl_putBytes (cl_putBytes (cl_putBytes (cl_putBytes v xa) xb) xc) xd) 0 1) + 4 := n_cl_putBytes (v := (cl_putBytes (cl_putBytes (cl_putBytes (cl_putBytes v xa) xb) xc) xd)) (x := xe) hX_12 hp_14
    refine r_ex 2 (pc' := 46) (lo' := [some (.inr (.inr (some 0))), some (.inl xa), some (.inl xb), some (.inl xc), some (.inl xd), some (.inl xe)]) (st' := [.inl ((cl_putBytes (cl_putBytes (cl_putBytes (cl_putBytes (cl_putBytes v xa) xb) xc) xd) xe) 0 1)]) rfl ?_
    have hb_17 : 0 ≤ ((cl_putBytes (cl_putBytes (cl_putBytes (cl_putBytes (cl_putBytes v xa) xb) xc) xd) xe) 0 1) ∧ ((cl_putBytes (cl_putBytes (cl_putBytes (cl_putBytes (cl_putBytes v xa) xb) xc) xd) xe) 0 1) ≤ 2000 := hX_15 0 1
    refine r_ret (rr := some (.inl ((cl_putBytes (cl_putBytes (cl_putBytes (cl_putBytes (cl_putBytes v xa) xb) xc) xd) xe) 0 1))) (I := .ireturn) (pc0 := 46) (len := 1) rfl rfl ?_
    exact hQ hX_15 
  · show WV _ _ _ 13 _ _ _ _ _
    rw [if_pos h_10] at hQ
    refine r_ex 1 (pc' := 14) (lo' := [some (.inr (.inr (some 0))), some (.inl xa), some (.inl xb), some (.inl xc), some (.inl xd), some (.inl xe)]) (st' := [.inl (-1)]) rfl ?_
    refine r_ret (rr := some (.inl (-1))) (I := .ireturn) (pc0 := 14) (len := 1) rfl rfl ?_
    exact hQ hX 

theorem e_cl_feed {X : PX} {d b : Nat} {v : VS} {xa : Int} {xb : Int} {xc : Int} {xd : Int} {xe : Int} (hX : XI v)  : EvV X (d + 1) 13 [.inr (.inr (some 0)), .inl xa, .inl xb, .inl xc, .inl xd, .inl xe] b v (some (.inl (cl_feed v xa xb xc xd xe).1)) b ((cl_feed v xa xb xc xd xe).2) := EvV.of (w_cl_feed hX  (fun _ => ⟨rfl, rfl, rfl⟩))

theorem i_cl_feed {v : VS} {xa : Int} {xb : Int} {xc : Int} {xd : Int} {xe : Int} (hX : XI v)  : XI ((cl_feed v xa xb xc xd xe).2) := by
  have q : WV (0, fun _ => 0, none) (0 + 1) 13 0 [some (.inr (.inr (some 0))), some (.inl xa), some (.inl xb), some (.inl xc), some (.inl xd), some (.inl xe)] [] 1 v (fun _ _ _ => XI ((cl_feed v xa xb xc xd xe).2)) := w_cl_feed (X := (0, fun _ => 0, none)) (d := 0) (b := 1) hX  (fun q => q)
  obtain ⟨_, _, _, _, _, _, _, q⟩ := q
  exact q

theorem o_cl_feed {rk : Nat} {v : VS} {xa : Int} {xb : Int} {xc : Int} {xd : Int} {xe : Int} (hk : (rk < 0 ∨ 1 < rk)) : (cl_feed v xa xb xc xd xe).2 rk = v rk := by
  unfold cl_feed
  by_cases hc_ : 2000 < ((v 0 1) + 20)
  · rw [if_pos hc_]
    all_goals (show v rk = _)
    all_goals rfl
  · rw [if_neg hc_]
    all_goals (show (cl_putBytes (cl_putBytes (cl_putBytes (cl_putBytes (cl_putBytes v xa) xb) xc) xd) xe) rk = _)
    all_goals (rw [o_cl_putBytes (by omega), o_cl_putBytes (by omega), o_cl_putBytes (by omega), o_cl_putBytes (by omega), o_cl_putBytes (by omega)])

def cl_end (v : VS) (n : Int) : Int × VS :=
  (if n < 0 then ((-1), v) else (if (v 0 1) < n then ((-1), v) else (n, (v2 v 0 1 n))))
theorem w_cl_end {X : PX} {d b : Nat} {v : VS} {n : Int} (hX : XI v) (hp_a : R32 n) {Q : Option PV → Nat → VS → Prop} (hQ : XI (cl_end v n).2 → Q (some (.inl (cl_end v n).1)) b (cl_end v n).2) : WV X d 15 0 [some (.inr (.inr (some 0))), some (.inl n)] [] b v Q := by
  rw [cl_end] at hQ
  refine r_ex 1 (pc' := 1) (lo' := [some (.inr (.inr (some 0))), some (.inl n)]) (st' := [.inl n]) rfl ?_
  refine n_if_lt (pc0 := 1) (len := 3) (t := 12) rfl (by first | assumption | omega | (unfold R32 at *; omega) | (unfold R64 at *; omega) | (simp only [R32, R64] at *; omega)) (fun h_1 => ?_) (fun h_1 => ?_)
  · show WV _ _ _ 12 _ _ _ _ _
    rw [if_pos h_1] at hQ
    refine r_ex 1 (pc' := 13) (lo' := [some (.inr (.inr (some 0))), some (.inl n)]) (st' := [.inl (-1)]) rfl ?_
    refine r_ret (rr := some (.inl (-1))) (I := .ireturn) (pc0 := 13) (len := 1) rfl rfl ?_
    exact hQ hX 
  · show WV _ _ _ 4 _ _ _ _ _
    rw [if_neg h_1] at hQ
    refine r_ex 3 (pc' := 9) (lo' := [some (.inr (.inr (some 0))), some (.inl n)]) (st' := [.inl (v 0 1), .inl n]) rfl ?_
    have hb_1 : 0 ≤ (v 0 1) ∧ (v 0 1) ≤ 2000 := hX 0 1
    refine n_ic_le (pc0 := 9) (len := 3) (t := 14) rfl (by first | assumption | omega | (unfold R32 at *; omega) | (unfold R64 at *; omega) | (simp only [R32, R64] at *; omega)) (by first | assumption | omega | (unfold R32 at *; omega) | (unfold R64 at *; omega) | (simp only [R32, R64] at *; omega)) (fun h_9 => ?_) (fun h_9 => ?_)
    · show WV _ _ _ 14 _ _ _ _ _
      rw [if_neg h_9] at hQ
      refine r_ex 2 (pc' := 16) (lo' := [some (.inr (.inr (some 0))), some (.inl n)]) (st' := [.inl n, .inr (.inr (some 0))]) rfl ?_
      refine r_puti2 (j := 1) (pc' := 19) (pc0 := 16) (len := 3) rfl (s_0 _) rfl rfl rfl (Or.inl rfl) rfl rfl ?_
      have hX_2 : XI (v2 v 0 1 n) := XI.put hX (show 0 ≤ n ∧ n ≤ 2000 from (by first | assumption | omega | (unfold R32 at *; omega) | (unfold R64 at *; omega) | (simp only [R32, R64] at *; omega)))
      refine r_ex 1 (pc' := 20) (lo' := [some (.inr (.inr (some 0))), some (.inl n)]) (st' := [.inl n]) rfl ?_
      refine r_ret (rr := some (.inl n)) (I := .ireturn) (pc0 := 20) (len := 1) rfl rfl ?_
      exact hQ hX_2 
    · show WV _ _ _ 12 _ _ _ _ _
      rw [if_pos h_9] at hQ
      refine r_ex 1 (pc' := 13) (lo' := [some (.inr (.inr (some 0))), some (.inl n)]) (st' := [.inl (-1)]) rfl ?_
      refine r_ret (rr := some (.inl (-1))) (I := .ireturn) (pc0 := 13) (len := 1) rfl rfl ?_
      exact hQ hX 

theorem e_cl_end {X : PX} {d b : Nat} {v : VS} {n : Int} (hX : XI v) (hp_a : R32 n) : EvV X d 15 [.inr (.inr (some 0)), .inl n] b v (some (.inl (cl_end v n).1)) b ((cl_end v n).2) := EvV.of (w_cl_end hX hp_a (fun _ => ⟨rfl, rfl, rfl⟩))

theorem i_cl_end {v : VS} {n : Int} (hX : XI v) (hp_a : R32 n) : XI ((cl_end v n).2) := by
  have q : WV (0, fun _ => 0, none) 0 15 0 [some (.inr (.inr (some 0))), some (.inl n)] [] 1 v (fun _ _ _ => XI ((cl_end v n).2)) := w_cl_end (X := (0, fun _ => 0, none)) (d := 0) (b := 1) hX hp_a (fun q => q)
  obtain ⟨_, _, _, _, _, _, _, q⟩ := q
  exact q

theorem o_cl_end {rk : Nat} {v : VS} {n : Int} (hk : (rk < 0 ∨ 0 < rk)) : (cl_end v n).2 rk = v rk := by
  unfold cl_end
  by_cases hc_ : n < 0
  · rw [if_pos hc_]
    all_goals (show v rk = _)
    all_goals rfl
  · rw [if_neg hc_]
    by_cases hc_ : (v 0 1) < n
    · rw [if_pos hc_]
      all_goals (show v rk = _)
      all_goals rfl
    · rw [if_neg hc_]
      all_goals (show (v2 v 0 1 n) rk = _)
      all_goals (rw [v2_row (by omega)])

def jf_4 (v : VS) (x : Int) : VS := vfill v 4 9 x
theorem e_jf_4 {X : PX} {d b : Nat} {v : VS} {x : Int} (hX : XI v) (hp_a : 0 ≤ x ∧ x ≤ 2) : EvV X d 20 [.inr (.inr (some 4)), .inl x] b v none b (jf_4 v x) := j_fill (s_4 _) (by decide)
theorem i_jf_4 {v : VS} {x : Int} (hX : XI v) (hp_a : 0 ≤ x ∧ x ≤ 2) : XI (jf_4 v x) := XI_fillN hX (fun j => hp_a)
theorem o_jf_4 {k : Nat} {v : VS} {x : Int} (hk : (k < 4 ∨ 4 < k)) : jf_4 v x k = v k := vfill_row (by omega)

def jf_5 (v : VS) (x : Int) : VS := vfill v 5 9 x
theorem e_jf_5 {X : PX} {d b : Nat} {v : VS} {x : Int} (hX : XI v) (hp_a : 0 ≤ x ∧ x ≤ 60) : EvV X d 20 [.inr (.inr (some 5)), .inl x] b v none b (jf_5 v x) := j_fill (s_5 _) (by decide)
theorem i_jf_5 {v : VS} {x : Int} (hX : XI v) (hp_a : 0 ≤ x ∧ x ≤ 60) : XI (jf_5 v x) := XI_fillN hX (fun j => hp_a)
theorem o_jf_5 {k : Nat} {v : VS} {x : Int} (hk : (k < 5 ∨ 5 < k)) : jf_5 v x k = v k := vfill_row (by omega)

def jf_6 (v : VS) (x : Int) : VS := vfill v 6 9 x
theorem e_jf_6 {X : PX} {d b : Nat} {v : VS} {x : Int} (hX : XI v) (hp_a : 0 ≤ x ∧ x ≤ 99) : EvV X d 20 [.inr (.inr (some 6)), .inl x] b v none b (jf_6 v x) := j_fill (s_6 _) (by decide)
theorem i_jf_6 {v : VS} {x : Int} (hX : XI v) (hp_a : 0 ≤ x ∧ x ≤ 99) : XI (jf_6 v x) := XI_fillN hX (fun j => hp_a)
theorem o_jf_6 {k : Nat} {v : VS} {x : Int} (hk : (k < 6 ∨ 6 < k)) : jf_6 v x k = v k := vfill_row (by omega)

def cl_empty (v : VS)  : VS :=
  (v2 (v2 (v2 (v2 (v2 (v2 (jf_6 (jf_5 (jf_4 (v2 (v2 (v2 (v2 (v2 (v2 v 3 0 0) 3 1 0) 3 2 0) 3 3 0) 3 4 0) 3 5 0) 0) 0) 0) 7 0 0) 12 0 0) 16 0 0) 20 0 0) 24 0 0) 28 0 0)
theorem w_cl_empty {X : PX} {d b : Nat} {v : VS}  (hX : XI v)  {Q : Option PV → Nat → VS → Prop} (hQ : XI (cl_empty v) → (((cl_empty v) 3 2) = 0) → Q none b (cl_empty v)) : WV X (d + 1) 19 0 [some (.inr (.inr (some 3)))] [] b v Q := by
  rw [cl_empty] at hQ
  refine r_ex 2 (pc' := 2) (lo' := [some (.inr (.inr (some 3)))]) (st' := [.inl 0, .inr (.inr (some 3))]) rfl ?_
  refine r_puti2 (j := 0) (pc' := 5) (pc0 := 2) (len := 3) rfl (s_3 _) rfl rfl rfl (Or.inl rfl) rfl rfl ?_
  have hX_1 : XI (v2 v 3 0 0) := XI.put hX (show 0 ≤ 0 ∧ 0 ≤ 9 from (by first | assumption | omega | (unfold R32 at *; omega) | (unfold R64 at *; omega) | (simp only [R32, R64] at *; omega)))
  refine r_ex 2 (pc' := 7) (lo' := [some (.inr (.inr (some 3)))]) (st' := [.inl 0, .inr (.inr (some 3))]) rfl ?_
  refine r_puti2 (j := 1) (pc' := 10) (pc0 := 7) (len := 3) rfl (s_3 _) rfl rfl rfl (Or.inl rfl) rfl rfl ?_
  have hX_2 : XI (v2 (v2 v 3 0 0) 3 1 0) := XI.put hX_1 (show 0 ≤ 0 ∧ 0 ≤ 300 from (by first | assumption | omega | (unfold R32 at *; omega) | (unfold R64 at *; omega) | (simp only [R32, R64] at *; omega)))
  refine r_ex 2 (pc' := 12) (lo' := [some (.inr (.inr (some 3)))]) (st' := [.inl 0, .inr (.inr (some 3))]) rfl ?_
  refine r_puti2 (j := 2) (pc' := 15) (pc0 := 12) (len := 3) rfl (s_3 _) rfl rfl rfl (Or.inl rfl) rfl rfl ?_
  have hX_3 : XI (v2 (v2 (v2 v 3 0 0) 3 1 0) 3 2 0) := XI.put hX_2 (show 0 ≤ 0 ∧ 0 ≤ 2001 from (by first | assumption | omega | (unfold R32 at *; omega) | (unfold R64 at *; omega) | (simp only [R32, R64] at *; omega)))
  refine r_ex 2 (pc' := 17) (lo' := [some (.inr (.inr (some 3)))]) (st' := [.inl 0, .inr (.inr (some 3))]) rfl ?_
  refine r_puti2 (j := 3) (pc' := 20) (pc0 := 17) (len := 3) rfl (s_3 _) rfl rfl rfl (Or.inl rfl) rfl rfl ?_
  have hX_4 : XI (v2 (v2 (v2 (v2 v 3 0 0) 3 1 0) 3 2 0) 3 3 0) := XI.put hX_3 (show 0 ≤ 0 ∧ 0 ≤ 9 from (by first | assumption | omega | (unfold R32 at *; omega) | (unfold R64 at *; omega) | (simp only [R32, R64] at *; omega)))
  refine r_ex 2 (pc' := 22) (lo' := [some (.inr (.inr (some 3)))]) (st' := [.inl 0, .inr (.inr (some 3))]) rfl ?_
  refine r_puti2 (j := 4) (pc' := 25) (pc0 := 22) (len := 3) rfl (s_3 _) rfl rfl rfl (Or.inl rfl) rfl rfl ?_
  have hX_5 : XI (v2 (v2 (v2 (v2 (v2 v 3 0 0) 3 1 0) 3 2 0) 3 3 0) 3 4 0) := XI.put hX_4 (show 0 ≤ 0 ∧ 0 ≤ 511 from (by first | assumption | omega | (unfold R32 at *; omega) | (unfold R64 at *; omega) | (simp only [R32, R64] at *; omega)))
  refine r_ex 2 (pc' := 27) (lo' := [some (.inr (.inr (some 3)))]) (st' := [.inl 0, .inr (.inr (some 3))]) rfl ?_
  refine r_puti2 (j := 5) (pc' := 30) (pc0 := 27) (len := 3) rfl (s_3 _) rfl rfl rfl (Or.inl rfl) rfl rfl ?_
  have hX_6 : XI (v2 (v2 (v2 (v2 (v2 (v2 v 3 0 0) 3 1 0) 3 2 0) 3 3 0) 3 4 0) 3 5 0) := XI.put hX_5 (show 0 ≤ 0 ∧ 0 ≤ 4095 from (by first | assumption | omega | (unfold R32 at *; omega) | (unfold R64 at *; omega) | (simp only [R32, R64] at *; omega)))
  refine r_ex 3 (pc' := 35) (lo' := [some (.inr (.inr (some 3)))]) (st' := [.inl 0, .inr (.inr (some 4))]) rfl ?_
  have hp_7 : 0 ≤ (0 : Int) ∧ (0 : Int) ≤ 2 := (by first | assumption | omega | (unfold R32 at *; omega) | (unfold R64 at *; omega) | (simp only [R32, R64] at *; omega))
  refine r_call (m := 20) (args := [.inr (.inr (some 4)), .inl 0]) (n' := 19) (pc' := 38) (lo' := [some (.inr (.inr (some 3)))]) (st' := []) (I := .invokestatic 20) (pc0 := 35) (len := 3) rfl rfl rfl (e_jf_4 hX_6 hp_7) ?_
  show WV _ _ _ 38 _ [] _ (jf_4 (v2 (v2 (v2 (v2 (v2 (v2 v 3 0 0) 3 1 0) 3 2 0) 3 3 0) 3 4 0) 3 5 0) 0) _
  have hX_8 : XI (jf_4 (v2 (v2 (v2 (v2 (v2 (v2 v 3 0 0) 3 1 0) 3 2 0) 3 3 0) 3 4 0) 3 5 0) 0) := i_jf_4 (v := (v2 (v2 (v2 (v2 (v2 (v2 v 3 0 0) 3 1 0) 3 2 0) 3 3 0) 3 4 0) 3 5 0)) (x := 0) hX_6 hp_7
  have hb_9 : (jf_4 (v2 (v2 (v2 (v2 (v2 (v2 v 3 0 0) 3 1 0) 3 2 0) 3 3 0) 3 4 0) 3 5 0) 0) 3 2 = 0 := by rw [o_jf_4 (by omega)] <;> rfl
  refine r_ex 3 (pc' := 43) (lo' := [some (.inr (.inr (some 3)))]) (st' := [.inl 0, .inr (.inr (some 5))]) rfl ?_
  have hp_10 : 0 ≤ (0 : Int) ∧ (0 : Int) ≤ 60 := (by first | assumption | omega | (unfold R32 at *; omega) | (unfold R64 at *; omega) | (simp only [R32, R64] at *; omega))
  refine r_call (m := 20) (args := [.inr (.inr (some 5)), .inl 0]) (n' := 19) (pc' := 46) (lo' := [some (.inr (.inr (some 3)))]) (st' := []) (I := .invokestatic 20) (pc0 := 43) (len := 3) rfl rfl rfl (e_jf_5 hX_8 hp_10) ?_
  show WV _ _ _ 46 _ [] _ (jf_5 (jf_4 (v2 (v2 (v2 (v2 (v2 (v2 v 3 0 0) 3 1 0) 3 2 0) 3 3 0) 3 4 0) 3 5 0) 0) 0) _
  have hX_11 : XI (jf_5 (jf_4 (v2 (v2 (v2 (v2 (v2 (v2 v 3 0 0) 3 1 0) 3 2 0) 3 3 0) 3 4 0) 3 5 0) 0) 0) := i_jf_5 (v := (jf_4 (v2 (v2 (v2 (v2 (v2 (v2 v 3 0 0) 3 1 0) 3 2 0) 3 3 0) 3 4 0) 3 5 0) 0)) (x := 0) hX_8 hp_10
  have hb_12 : (jf_5 (jf_4 (v2 (v2 (v2 (v2 (v2 (v2 v 3 0 0) 3 1 0) 3 2 0) 3 3 0) 3 4 0) 3 5 0) 0) 0) 3 2 = ((jf_4 (v2 (v2 (v2 (v2 (v2 (v2 v 3 0 0) 3 1 0) 3 2 0) 3 3 0) 3 4 0) 3 5 0) 0) 3 2) := by rw [o_jf_5 (by omega)] <;> rfl
  refine r_ex 3 (pc' := 51) (lo' := [some (.inr (.inr (some 3)))]) (st' := [.inl 0, .inr (.inr (some 6))]) rfl ?_
  have hp_13 : 0 ≤ (0 : Int) ∧ (0 : Int) ≤ 99 := (by first | assumption | omega | (unfold R32 at *; omega) | (unfold R64 at *; omega) | (simp only [R32, R64] at *; omega))
  refine r_call (m := 20) (args := [.inr (.inr (some 6)), .inl 0]) (n' := 19) (pc' := 54) (lo' := [some (.inr (.inr (some 3)))]) (st' := []) (I := .invokestatic 20) (pc0 := 51) (len := 3) rfl rfl rfl (e_jf_6 hX_11 hp_13) ?_
  show WV _ _ _ 54 _ [] _ (jf_6 (jf_5 (jf_4 (v2 (v2 (v2 (v2 (v2 (v2 v 3 0 0) 3 1 0) 3 2 0) 3 3 0) 3 4 0) 3 5 0) 0) 0) 0) _
  have hX_14 : XI (jf_6 (jf_5 (jf_4 (v2 (v2 (v2 (v2 (v2 (v2 v 3 0 0) 3 1 0) 3 2 0) 3 3 0) 3 4 0) 3 5 0) 0) 0) 0) := i_jf_6 (v := (jf_5 (jf_4 (v2 (v2 (v2 (v2 (v2 (v2 v 3 0 0) 3 1 0) 3 2 0) 3 3 0) 3 4 0) 3 5 0) 0) 0)) (x := 0) hX_11 hp_13
  have hb_15 : (jf_6 (jf_5 (jf_4 (v2 (v2 (v2 (v2 (v2 (v2 v 3 0 0) 3 1 0) 3 2 0) 3 3 0) 3 4 0) 3 5 0) 0) 0) 0) 3 2 = ((jf_5 (jf_4 (v2 (v2 (v2 (v2 (v2 (v2 v 3 0 0) 3 1 0) 3 2 0) 3 3 0) 3 4 0) 3 5 0) 0) 0) 3 2) := by rw [o_jf_6 (by omega)] <;> rfl
  refine r_ex 3 (pc' := 59) (lo' := [some (.inr (.inr (some 3)))]) (st' := [.inl 0, .inr (.inr (some 7))]) rfl ?_
  refine r_puti2 (j := 0) (pc' := 62) (pc0 := 59) (len := 3) rfl (s_7 _) rfl rfl rfl (Or.inl rfl) rfl rfl ?_
  have hX_16 : XI (v2 (jf_6 (jf_5 (jf_4 (v2 (v2 (v2 (v2 (v2 (v2 v 3 0 0) 3 1 0) 3 2 0) 3 3 0) 3 4 0) 3 5 0) 0) 0) 0) 7 0 0) := XI.put hX_14 (show 0 ≤ 0 ∧ 0 ≤ 12 from (by first | assumption | omega | (unfold R32 at *; omega) | (unfold R64 at *; omega) | (simp only [R32, R64] at *; omega)))
  refine r_ex 3 (pc' := 67) (lo' := [some (.inr (.inr (some 3)))]) (st' := [.inl 0, .inr (.inr (some 12))]) rfl ?_
  refine r_puti2 (j := 0) (pc' := 70) (pc0 := 67) (len := 3) rfl (s_12 _) rfl rfl rfl (Or.inl rfl) rfl rfl ?_
  have hX_17 : XI (v2 (v2 (jf_6 (jf_5 (jf_4 (v2 (v2 (v2 (v2 (v2 (v2 v 3 0 0) 3 1 0) 3 2 0) 3 3 0) 3 4 0) 3 5 0) 0) 0) 0) 7 0 0) 12 0 0) := XI.put hX_16 (show 0 ≤ 0 ∧ 0 ≤ 4 from (by first | assumption | omega | (unfold R32 at *; omega) | (unfold R64 at *; omega) | (simp only [R32, R64] at *; omega)))
  refine r_ex 3 (pc' := 75) (lo' := [some (.inr (.inr (some 3)))]) (st' := [.inl 0, .inr (.inr (some 16))]) rfl ?_
  refine r_puti2 (j := 0) (pc' := 78) (pc0 := 75) (len := 3) rfl (s_16 _) rfl rfl rfl (Or.inl rfl) rfl rfl ?_
  have hX_18 : XI (v2 (v2 (v2 (jf_6 (jf_5 (jf_4 (v2 (v2 (v2 (v2 (v2 (v2 v 3 0 0) 3 1 0) 3 2 0) 3 3 0) 3 4 0) 3 5 0) 0) 0) 0) 7 0 0) 12 0 0) 16 0 0) := XI.put hX_17 (show 0 ≤ 0 ∧ 0 ≤ 6 from (by first | assumption | omega | (unfold R32 at *; omega) | (unfold R64 at *; omega) | (simp only [R32, R64] at *; omega)))
  refine r_ex 3 (pc' := 83) (lo' := [some (.inr (.inr (some 3)))]) (st' := [.inl 0, .inr (.inr (some 20))]) rfl ?_
  refine r_puti2 (j := 0) (pc' := 86) (pc0 := 83) (len := 3) rfl (s_20 _) rfl rfl rfl (Or.inl rfl) rfl rfl ?_
  have hX_19 : XI (v2 (v2 (v2 (v2 (jf_6 (jf_5 (jf_4 (v2 (v2 (v2 (v2 (v2 (v2 v 3 0 0) 3 1 0) 3 2 0) 3 3 0) 3 4 0) 3 5 0) 0) 0) 0) 7 0 0) 12 0 0) 16 0 0) 20 0 0) := XI.put hX_18 (show 0 ≤ 0 ∧ 0 ≤ 6 from (by first | assumption | omega | (unfold R32 at *; omega) | (unfold R64 at *; omega) | (simp only [R32, R64] at *; omega)))
  refine r_ex 3 (pc' := 91) (lo' := [some (.inr (.inr (some 3)))]) (st' := [.inl 0, .inr (.inr (some 24))]) rfl ?_
  refine r_puti2 (j := 0) (pc' := 94) (pc0 := 91) (len := 3) rfl (s_24 _) rfl rfl rfl (Or.inl rfl) rfl rfl ?_
  have hX_20 : XI (v2 (v2 (v2 (v2 (v2 (jf_6 (jf_5 (jf_4 (v2 (v2 (v2 (v2 (v2 (v2 v 3 0 0) 3 1 0) 3 2 0) 3 3 0) 3 4 0) 3 5 0) 0) 0) 0) 7 0 0) 12 0 0) 16 0 0) 20 0 0) 24 0 0) := XI.put hX_19 (show 0 ≤ 0 ∧ 0 ≤ 6 from (by first | assumption | omega | (unfold R32 at *; omega) | (unfold R64 at *; omega) | (simp only [R32, R64] at *; omega)))
  refine r_ex 3 (pc' := 99) (lo' := [some (.inr (.inr (some 3)))]) (st' := [.inl 0, .inr (.inr (some 28))]) rfl ?_
  refine r_puti2 (j := 0) (pc' := 102) (pc0 := 99) (len := 3) rfl (s_28 _) rfl rfl rfl (Or.inl rfl) rfl rfl ?_
  have hX_21 : XI (v2 (v2 (v2 (v2 (v2 (v2 (jf_6 (jf_5 (jf_4 (v2 (v2 (v2 (v2 (v2 (v2 v 3 0 0) 3 1 0) 3 2 0) 3 3 0) 3 4 0) 3 5 0) 0) 0) 0) 7 0 0) 12 0 0) 16 0 0) 20 0 0) 24 0 0) 28 0 0) := XI.put hX_20 (show 0 ≤ 0 ∧ 0 ≤ 6 from (by first | assumption | omega | (unfold R32 at *; omega) | (unfold R64 at *; omega) | (simp only [R32, R64] at *; omega)))
  refine r_ret (rr := none) (I := .return_) (pc0 := 102) (len := 1) rfl rfl ?_
  exact hQ hX_21 (show ((jf_6 (jf_5 (jf_4 (v2 (v2 (v2 (v2 (v2 (v2 v 3 0 0) 3 1 0) 3 2 0) 3 3 0) 3 4 0) 3 5 0) 0) 0) 0) 3 2) = 0 from (by first | assumption | omega | (unfold R32 at *; omega) | (unfold R64 at *; omega) | (simp only [R32, R64] at *; omega)))

theorem e_cl_empty {X : PX} {d b : Nat} {v : VS}  (hX : XI v)  : EvV X (d + 1) 19 [.inr (.inr (some 3))] b v none b (cl_empty v) := EvV.of (w_cl_empty hX  (fun _ _ => ⟨rfl, rfl, rfl⟩))

theorem i_cl_empty {v : VS}  (hX : XI v)  : XI (cl_empty v) := by
  have q : WV (0, fun _ => 0, none) (0 + 1) 19 0 [some (.inr (.inr (some 3)))] [] 1 v (fun _ _ _ => XI (cl_empty v)) := w_cl_empty (X := (0, fun _ => 0, none)) (d := 0) (b := 1) hX  (fun q _ => q)
  obtain ⟨_, _, _, _, _, _, _, q⟩ := q
  exact q

theorem n_cl_empty {v : VS}  (hX : XI v)  : ((cl_empty v) 3 2) = 0 := by
  have q : WV (0, fun _ => 0, none) (0 + 1) 19 0 [some (.inr (.inr (some 3)))] [] 1 v (fun _ _ _ => ((cl_empty v) 3 2) = 0) := w_cl_empty (X := (0, fun _ => 0, none)) (d := 0) (b := 1) hX  (fun _ q => q)
  obtain ⟨_, _, _, _, _, _, _, q⟩ := q
  exact q

theorem o_cl_empty {rk : Nat} {v : VS}  (hk : (rk < 3 ∨ 7 < rk) ∧ (rk < 12 ∨ 12 < rk) ∧ (rk < 16 ∨ 16 < rk) ∧ (rk < 20 ∨ 20 < rk) ∧ (rk < 24 ∨ 24 < rk) ∧ (rk < 28 ∨ 28 < rk)) : (cl_empty v ) rk = v rk := by
  unfold cl_empty
  all_goals (show (v2 (v2 (v2 (v2 (v2 (v2 (jf_6 (jf_5 (jf_4 (v2 (v2 (v2 (v2 (v2 (v2 v 3 0 0) 3 1 0) 3 2 0) 3 3 0) 3 4 0) 3 5 0) 0) 0) 0) 7 0 0) 12 0 0) 16 0 0) 20 0 0) 24 0 0) 28 0 0) rk = _)
  all_goals (rw [v2_row (by omega), v2_row (by omega), v2_row (by omega), v2_row (by omega), v2_row (by omega), v2_row (by omega), o_jf_6 (by omega), o_jf_5 (by omega), o_jf_4 (by omega), v2_row (by omega), v2_row (by omega), v2_row (by omega), v2_row (by omega), v2_row (by omega), v2_row (by omega)])

def cl_describe (v : VS) (w : Int) (s : Int) (n : Int) : VS :=
  (if (v 3 3) < 9 then (v2 (v2 (v2 (v2 v 4 (((v 3 3)).toNat) w) 5 (((v 3 3)).toNat) s) 6 (((v 3 3)).toNat) n) 3 3 ((v 3 3) + 1)) else v)
theorem w_cl_describe {X : PX} {d b : Nat} {v : VS} {w : Int} {s : Int} {n : Int} (hX : XI v) (hp_a : 0 ≤ w ∧ w ≤ 2) (hp_b : 0 ≤ s ∧ s ≤ 60) (hp_c : 0 ≤ n ∧ n ≤ 99) {Q : Option PV → Nat → VS → Prop} (hQ : XI (cl_describe v w s n) → (((cl_describe v w s n) 3 2) = (v 3 2)) → Q none b (cl_describe v w s n)) : WV X d 44 0 [some (.inr (.inr (some 3))), some (.inl w), some (.inl s), some (.inl n)] [] b v Q := by
  rw [cl_describe] at hQ
  refine r_ex 3 (pc' := 6) (lo' := [some (.inr (.inr (some 3))), some (.inl w), some (.inl s), some (.inl n)]) (st' := [.inl 9, .inl (v 3 3)]) rfl ?_
  have hb_1 : 0 ≤ (v 3 3) ∧ (v 3 3) ≤ 9 := hX 3 3
  refine n_ic_ge (pc0 := 6) (len := 3) (t := 49) rfl (by first | assumption | omega | (unfold R32 at *; omega) | (unfold R64 at *; omega) | (simp only [R32, R64] at *; omega)) (by first | assumption | omega | (unfold R32 at *; omega) | (unfold R64 at *; omega) | (simp only [R32, R64] at *; omega)) (fun h_6 => ?_) (fun h_6 => ?_)
  · show WV _ _ _ 49 _ _ _ _ _
    rw [if_neg h_6] at hQ
    refine r_ret (rr := none) (I := .return_) (pc0 := 49) (len := 1) rfl rfl ?_
    exact hQ hX (show (v 3 2) = (v 3 2) from (by first | assumption | omega | (unfold R32 at *; omega) | (unfold R64 at *; omega) | (simp only [R32, R64] at *; omega)))
  · show WV _ _ _ 9 _ _ _ _ _
    rw [if_pos h_6] at hQ
    refine r_ex 5 (pc' := 18) (lo' := [some (.inr (.inr (some 3))), some (.inl w), some (.inl s), some (.inl n)]) (st' := [.inl w, .inl (v 3 3), .inr (.inr (some 4))]) rfl ?_
    refine r_iast2 (pc' := 19) (pc0 := 18) (len := 1) rfl (s_4 _) (by first | assumption | omega | (unfold R32 at *; omega) | (unfold R64 at *; omega) | (simp only [R32, R64] at *; omega)) (by decide) rfl ?_
    have hX_2 : XI (v2 v 4 (((v 3 3)).toNat) w) := XI.put hX (show 0 ≤ w ∧ w ≤ 2 from (by first | assumption | omega | (unfold R32 at *; omega) | (unfold R64 at *; omega) | (simp only [R32, R64] at *; omega)))
    refine r_ex 5 (pc' := 28) (lo' := [some (.inr (.inr (some 3))), some (.inl w), some (.inl s), some (.inl n)]) (st' := [.inl s, .inl (v 3 3), .inr (.inr (some 5))]) rfl ?_
    have hb_3 : 0 ≤ (v 3 3) ∧ (v 3 3) ≤ 9 := hX_2 3 3
    refine r_iast2 (pc' := 29) (pc0 := 28) (len := 1) rfl (s_5 _) (by first | assumption | omega | (unfold R32 at *; omega) | (unfold R64 at *; omega) | (simp only [R32, R64] at *; omega)) (by decide) rfl ?_
    have hX_4 : XI (v2 (v2 v 4 (((v 3 3)).toNat) w) 5 (((v 3 3)).toNat) s) := XI.put hX_2 (show 0 ≤ s ∧ s ≤ 60 from (by first | assumption | omega | (unfold R32 at *; omega) | (unfold R64 at *; omega) | (simp only [R32, R64] at *; omega)))
    refine r_ex 5 (pc' := 38) (lo' := [some (.inr (.inr (some 3))), some (.inl w), some (.inl s), some (.inl n)]) (st' := [.inl n, .inl (v 3 3), .inr (.inr (some 6))]) rfl ?_
    have hb_5 : 0 ≤ (v 3 3) ∧ (v 3 3) ≤ 9 := hX_4 3 3
    refine r_iast2 (pc' := 39) (pc0 := 38) (len := 1) rfl (s_6 _) (by first | assumption | omega | (unfold R32 at *; omega) | (unfold R64 at *; omega) | (simp only [R32, R64] at *; omega)) (by decide) rfl ?_
    have hX_6 : XI (v2 (v2 (v2 v 4 (((v 3 3)).toNat) w) 5 (((v 3 3)).toNat) s) 6 (((v 3 3)).toNat) n) := XI.put hX_4 (show 0 ≤ n ∧ n ≤ 99 from (by first | assumption | omega | (unfold R32 at *; omega) | (unfold R64 at *; omega) | (simp only [R32, R64] at *; omega)))
    refine r_ex 5 (pc' := 46) (lo' := [some (.inr (.inr (some 3))), some (.inl w), some (.inl s), some (.inl n)]) (st' := [.inl ((v 3 3) + 1), .inr (.inr (some 3))]) rfl ?_
    have hb_7 : 0 ≤ (v 3 3) ∧ (v 3 3) ≤ 9 := hX_6 3 3
    refine r_puti2 (j := 3) (pc' := 49) (pc0 := 46) (len := 3) rfl (s_3 _) rfl rfl rfl (Or.inl rfl) rfl rfl ?_
    have hX_8 : XI (v2 (v2 (v2 (v2 v 4 (((v 3 3)).toNat) w) 5 (((v 3 3)).toNat) s) 6 (((v 3 3)).toNat) n) 3 3 ((v 3 3) + 1)) := XI.put hX_6 (show 0 ≤ ((v 3 3) + 1) ∧ ((v 3 3) + 1) ≤ 9 from (by first | assumption | omega | (unfold R32 at *; omega) | (unfold R64 at *; omega) | (simp only [R32, R64] at *; omega)))
    refine r_ret (rr := none) (I := .return_) (pc0 := 49) (len := 1) rfl rfl ?_
    exact hQ hX_8 (show (v 3 2) = (v 3 2) from (by first | assumption | omega | (unfold R32 at *; omega) | (unfold R64 at *; omega) | (simp only [R32, R64] at *; omega)))

theorem e_cl_describe {X : PX} {d b : Nat} {v : VS} {w : Int} {s : Int} {n : Int} (hX : XI v) (hp_a : 0 ≤ w ∧ w ≤ 2) (hp_b : 0 ≤ s ∧ s ≤ 60) (hp_c : 0 ≤ n ∧ n ≤ 99) : EvV X d 44 [.inr (.inr (some 3)), .inl w, .inl s, .inl n] b v none b (cl_describe v w s n) := EvV.of (w_cl_describe hX hp_a hp_b hp_c (fun _ _ => ⟨rfl, rfl, rfl⟩))

theorem i_cl_describe {v : VS} {w : Int} {s : Int} {n : Int} (hX : XI v) (hp_a : 0 ≤ w ∧ w ≤ 2) (hp_b : 0 ≤ s ∧ s ≤ 60) (hp_c : 0 ≤ n ∧ n ≤ 99) : XI (cl_describe v w s n) := by
  have q : WV (0, fun _ => 0, none) 0 44 0 [some (.inr (.inr (some 3))), some (.inl w), some (.inl s), some (.inl n)] [] 1 v (fun _ _ _ => XI (cl_describe v w s n)) := w_cl_describe (X := (0, fun _ => 0, none)) (d := 0) (b := 1) hX hp_a hp_b hp_c (fun q _ => q)
  obtain ⟨_, _, _, _, _, _, _, q⟩ := q
  exact q

theorem n_cl_describe {v : VS} {w : Int} {s : Int} {n : Int} (hX : XI v) (hp_a : 0 ≤ w ∧ w ≤ 2) (hp_b : 0 ≤ s ∧ s ≤ 60) (hp_c : 0 ≤ n ∧ n ≤ 99) : ((cl_describe v w s n) 3 2) = (v 3 2) := by
  have q : WV (0, fun _ => 0, none) 0 44 0 [some (.inr (.inr (some 3))), some (.inl w), some (.inl s), some (.inl n)] [] 1 v (fun _ _ _ => ((cl_describe v w s n) 3 2) = (v 3 2)) := w_cl_describe (X := (0, fun _ => 0, none)) (d := 0) (b := 1) hX hp_a hp_b hp_c (fun _ q => q)
  obtain ⟨_, _, _, _, _, _, _, q⟩ := q
  exact q

theorem o_cl_describe {rk : Nat} {v : VS} {w : Int} {s : Int} {n : Int} (hk : (rk < 3 ∨ 6 < rk)) : (cl_describe v w s n) rk = v rk := by
  unfold cl_describe
  by_cases hc_ : (v 3 3) < 9
  · rw [if_pos hc_]
    all_goals (show (v2 (v2 (v2 (v2 v 4 (((v 3 3)).toNat) w) 5 (((v 3 3)).toNat) s) 6 (((v 3 3)).toNat) n) 3 3 ((v 3 3) + 1)) rk = _)
    all_goals (rw [v2_row (by omega), v2_row (by omega), v2_row (by omega), v2_row (by omega)])
  · rw [if_neg hc_]
    all_goals (show v rk = _)
    all_goals rfl

def cl_eaAdd (v : VS) (c : Int) (o : Int) (s : Int) (w : Int) : VS :=
  (if (v 7 0) < 12 then (v2 (v2 (v2 (v2 (v2 v 8 (((v 7 0)).toNat) c) 9 (((v 7 0)).toNat) o) 10 (((v 7 0)).toNat) s) 11 (((v 7 0)).toNat) w) 7 0 ((v 7 0) + 1)) else v)
theorem w_cl_eaAdd {X : PX} {d b : Nat} {v : VS} {c : Int} {o : Int} {s : Int} {w : Int} (hX : XI v) (hp_a : 0 ≤ c ∧ c ≤ 8) (hp_b : 0 ≤ o ∧ o ≤ 8) (hp_c : 0 ≤ s ∧ s ≤ 60) (hp_d : 0 ≤ w ∧ w ≤ 2) {Q : Option PV → Nat → VS → Prop} (hQ : XI (cl_eaAdd v c o s w) → Q none b (cl_eaAdd v c o s w)) : WV X d 47 0 [some (.inr (.inr (some 7))), some (.inl c), some (.inl o), some (.inl s), some (.inl w)] [] b v Q := by
  rw [cl_eaAdd] at hQ
  refine r_ex 3 (pc' := 6) (lo' := [some (.inr (.inr (some 7))), some (.inl c), some (.inl o), some (.inl s), some (.inl w)]) (st' := [.inl 12, .inl (v 7 0)]) rfl ?_
  have hb_1 : 0 ≤ (v 7 0) ∧ (v 7 0) ≤ 12 := hX 7 0
  refine n_ic_ge (pc0 := 6) (len := 3) (t := 60) rfl (by first | assumption | omega | (unfold R32 at *; omega) | (unfold R64 at *; omega) | (simp only [R32, R64] at *; omega)) (by first | assumption | omega | (unfold R32 at *; omega) | (unfold R64 at *; omega) | (simp only [R32, R64] at *; omega)) (fun h_6 => ?_) (fun h_6 => ?_)
  · show WV _ _ _ 60 _ _ _ _ _
    rw [if_neg h_6] at hQ
    refine r_ret (rr := none) (I := .return_) (pc0 := 60) (len := 1) rfl rfl ?_
    exact hQ hX 
  · show WV _ _ _ 9 _ _ _ _ _
    rw [if_pos h_6] at hQ
    refine r_ex 5 (pc' := 18) (lo' := [some (.inr (.inr (some 7))), some (.inl c), some (.inl o), some (.inl s), some (.inl w)]) (st' := [.inl c, .inl (v 7 0), .inr (.inr (some 8))]) rfl ?_
    refine r_iast2 (pc' := 19) (pc0 := 18) (len := 1) rfl (s_8 _) (by first | assumption | omega | (unfold R32 at *; omega) | (unfold R64 at *; omega) | (simp only [R32, R64] at *; omega)) (by decide) rfl ?_
    have hX_2 : XI (v2 v 8 (((v 7 0)).toNat) c) := XI.put hX (show 0 ≤ c ∧ c ≤ 8 from (by first | assumption | omega | (unfold R32 at *; omega) | (unfold R64 at *; omega) | (simp only [R32, R64] at *; omega)))
    refine r_ex 5 (pc' := 28) (lo' := [some (.inr (.inr (some 7))), some (.inl c), some (.inl o), some (.inl s), some (.inl w)]) (st' := [.inl o, .inl (v 7 0), .inr (.inr (some 9))]) rfl ?_
    have hb_3 : 0 ≤ (v 7 0) ∧ (v 7 0) ≤ 12 := hX_2 7 0
    refine r_iast2 (pc' := 29) (pc0 := 28) (len := 1) rfl (s_9 _) (by first | assumption | omega | (unfold R32 at *; omega) | (unfold R64 at *; omega) | (simp only [R32, R64] at *; omega)) (by decide) rfl ?_
    have hX_4 : XI (v2 (v2 v 8 (((v 7 0)).toNat) c) 9 (((v 7 0)).toNat) o) := XI.put hX_2 (show 0 ≤ o ∧ o ≤ 8 from (by first | assumption | omega | (unfold R32 at *; omega) | (unfold R64 at *; omega) | (simp only [R32, R64] at *; omega)))
    refine r_ex 5 (pc' := 38) (lo' := [some (.inr (.inr (some 7))), some (.inl c), some (.inl o), some (.inl s), some (.inl w)]) (st' := [.inl s, .inl (v 7 0), .inr (.inr (some 10))]) rfl ?_
    have hb_5 : 0 ≤ (v 7 0) ∧ (v 7 0) ≤ 12 := hX_4 7 0
    refine r_iast2 (pc' := 39) (pc0 := 38) (len := 1) rfl (s_10 _) (by first | assumption | omega | (unfold R32 at *; omega) | (unfold R64 at *; omega) | (simp only [R32, R64] at *; omega)) (by decide) rfl ?_
    have hX_6 : XI (v2 (v2 (v2 v 8 (((v 7 0)).toNat) c) 9 (((v 7 0)).toNat) o) 10 (((v 7 0)).toNat) s) := XI.put hX_4 (show 0 ≤ s ∧ s ≤ 60 from (by first | assumption | omega | (unfold R32 at *; omega) | (unfold R64 at *; omega) | (simp only [R32, R64] at *; omega)))
    refine r_ex 5 (pc' := 49) (lo' := [some (.inr (.inr (some 7))), some (.inl c), some (.inl o), some (.inl s), some (.inl w)]) (st' := [.inl w, .inl (v 7 0), .inr (.inr (some 11))]) rfl ?_
    have hb_7 : 0 ≤ (v 7 0) ∧ (v 7 0) ≤ 12 := hX_6 7 0
    refine r_iast2 (pc' := 50) (pc0 := 49) (len := 1) rfl (s_11 _) (by first | assumption | omega | (unfold R32 at *; omega) | (unfold R64 at *; omega) | (simp only [R32, R64] at *; omega)) (by decide) rfl ?_
    have hX_8 : XI (v2 (v2 (v2 (v2 v 8 (((v 7 0)).toNat) c) 9 (((v 7 0)).toNat) o) 10 (((v 7 0)).toNat) s) 11 (((v 7 0)).toNat) w) := XI.put hX_6 (show 0 ≤ w ∧ w ≤ 2 from (by first | assumption | omega | (unfold R32 at *; omega) | (unfold R64 at *; omega) | (simp only [R32, R64] at *; omega)))
    refine r_ex 5 (pc' := 57) (lo' := [some (.inr (.inr (some 7))), some (.inl c), some (.inl o), some (.inl s), some (.inl w)]) (st' := [.inl ((v 7 0) + 1), .inr (.inr (some 7))]) rfl ?_
    have hb_9 : 0 ≤ (v 7 0) ∧ (v 7 0) ≤ 12 := hX_8 7 0
    refine r_puti2 (j := 0) (pc' := 60) (pc0 := 57) (len := 3) rfl (s_7 _) rfl rfl rfl (Or.inl rfl) rfl rfl ?_
    have hX_10 : XI (v2 (v2 (v2 (v2 (v2 v 8 (((v 7 0)).toNat) c) 9 (((v 7 0)).toNat) o) 10 (((v 7 0)).toNat) s) 11 (((v 7 0)).toNat) w) 7 0 ((v 7 0) + 1)) := XI.put hX_8 (show 0 ≤ ((v 7 0) + 1) ∧ ((v 7 0) + 1) ≤ 12 from (by first | assumption | omega | (unfold R32 at *; omega) | (unfold R64 at *; omega) | (simp only [R32, R64] at *; omega)))
    refine r_ret (rr := none) (I := .return_) (pc0 := 60) (len := 1) rfl rfl ?_
    exact hQ hX_10 

theorem e_cl_eaAdd {X : PX} {d b : Nat} {v : VS} {c : Int} {o : Int} {s : Int} {w : Int} (hX : XI v) (hp_a : 0 ≤ c ∧ c ≤ 8) (hp_b : 0 ≤ o ∧ o ≤ 8) (hp_c : 0 ≤ s ∧ s ≤ 60) (hp_d : 0 ≤ w ∧ w ≤ 2) : EvV X d 47 [.inr (.inr (some 7)), .inl c, .inl o, .inl s, .inl w] b v none b (cl_eaAdd v c o s w) := EvV.of (w_cl_eaAdd hX hp_a hp_b hp_c hp_d (fun _ => ⟨rfl, rfl, rfl⟩))

theorem i_cl_eaAdd {v : VS} {c : Int} {o : Int} {s : Int} {w : Int} (hX : XI v) (hp_a : 0 ≤ c ∧ c ≤ 8) (hp_b : 0 ≤ o ∧ o ≤ 8) (hp_c : 0 ≤ s ∧ s ≤ 60) (hp_d : 0 ≤ w ∧ w ≤ 2) : XI (cl_eaAdd v c o s w) := by
  have q : WV (0, fun _ => 0, none) 0 47 0 [some (.inr (.inr (some 7))), some (.inl c), some (.inl o), some (.inl s), some (.inl w)] [] 1 v (fun _ _ _ => XI (cl_eaAdd v c o s w)) := w_cl_eaAdd (X := (0, fun _ => 0, none)) (d := 0) (b := 1) hX hp_a hp_b hp_c hp_d (fun q => q)
  obtain ⟨_, _, _, _, _, _, _, q⟩ := q
  exact q

theorem o_cl_eaAdd {rk : Nat} {v : VS} {c : Int} {o : Int} {s : Int} {w : Int} (hk : (rk < 7 ∨ 11 < rk)) : (cl_eaAdd v c o s w) rk = v rk := by
  unfold cl_eaAdd
  by_cases hc_ : (v 7 0) < 12
  · rw [if_pos hc_]
    all_goals (show (v2 (v2 (v2 (v2 (v2 v 8 (((v 7 0)).toNat) c) 9 (((v 7 0)).toNat) o) 10 (((v 7 0)).toNat) s) 11 (((v 7 0)).toNat) w) 7 0 ((v 7 0) + 1)) rk = _)
    all_goals (rw [v2_row (by omega), v2_row (by omega), v2_row (by omega), v2_row (by omega), v2_row (by omega)])
  · rw [if_neg hc_]
    all_goals (show v rk = _)
    all_goals rfl

def cl_stAdd12 (v : VS) (c : Int) (s : Int) (h : Int) : VS :=
  (if 4 < (v 12 0) then v else (v2 (v2 (v2 (v2 v 13 (((v 12 0)).toNat) c) 14 (((v 12 0)).toNat) s) 15 (((v 12 0)).toNat) h) 12 0 ((v 12 0) + 1)))
theorem w_cl_stAdd12 {X : PX} {d b : Nat} {v : VS} {c : Int} {s : Int} {h : Int} (hX : XI v) (hp_a : 0 ≤ c ∧ c ≤ 8) (hp_b : 0 ≤ s ∧ s ≤ 299) (hp_c : 0 ≤ h ∧ h ≤ 99) (hp_d : (v 12 0) < 4) {Q : Option PV → Nat → VS → Prop} (hQ : XI (cl_stAdd12 v c s h) → Q none b (cl_stAdd12 v c s h)) : WV X d 52 0 [some (.inr (.inr (some 12))), some (.inl c), some (.inl s), some (.inl h)] [] b v Q := by
  rw [cl_stAdd12] at hQ
  refine r_ex 3 (pc' := 5) (lo' := [some (.inr (.inr (some 12))), some (.inl c), some (.inl s), some (.inl h)]) (st' := [.inl 4, .inl (v 12 0)]) rfl ?_
  have hb_1 : 0 ≤ (v 12 0) ∧ (v 12 0) ≤ 4 := hX 12 0
  refine n_ic_gt (pc0 := 5) (len := 3) (t := 48) rfl (by first | assumption | omega | (unfold R32 at *; omega) | (unfold R64 at *; omega) | (simp only [R32, R64] at *; omega)) (by first | assumption | omega | (unfold R32 at *; omega) | (unfold R64 at *; omega) | (simp only [R32, R64] at *; omega)) (fun h_5 => ?_) (fun h_5 => ?_)
  · show WV _ _ _ 48 _ _ _ _ _
    rw [if_pos h_5] at hQ
    refine r_ret (rr := none) (I := .return_) (pc0 := 48) (len := 1) rfl rfl ?_
    exact hQ hX 
  · show WV _ _ _ 8 _ _ _ _ _
    rw [if_neg h_5] at hQ
    refine r_ex 5 (pc' := 17) (lo' := [some (.inr (.inr (some 12))), some (.inl c), some (.inl s), some (.inl h)]) (st' := [.inl c, .inl (v 12 0), .inr (.inr (some 13))]) rfl ?_
    refine r_iast2 (pc' := 18) (pc0 := 17) (len := 1) rfl (s_13 _) (by first | assumption | omega | (unfold R32 at *; omega) | (unfold R64 at *; omega) | (simp only [R32, R64] at *; omega)) (by decide) rfl ?_
    have hX_2 : XI (v2 v 13 (((v 12 0)).toNat) c) := XI.put hX (show 0 ≤ c ∧ c ≤ 8 from (by first | assumption | omega | (unfold R32 at *; omega) | (unfold R64 at *; omega) | (simp only [R32, R64] at *; omega)))
    refine r_ex 5 (pc' := 27) (lo' := [some (.inr (.inr (some 12))), some (.inl c), some (.inl s), some (.inl h)]) (st' := [.inl s, .inl (v 12 0), .inr (.inr (some 14))]) rfl ?_
    have hb_3 : 0 ≤ (v 12 0) ∧ (v 12 0) ≤ 4 := hX_2 12 0
    refine r_iast2 (pc' := 28) (pc0 := 27) (len := 1) rfl (s_14 _) (by first | assumption | omega | (unfold R32 at *; omega) | (unfold R64 at *; omega) | (simp only [R32, R64] at *; omega)) (by decide) rfl ?_
    have hX_4 : XI (v2 (v2 v 13 (((v 12 0)).toNat) c) 14 (((v 12 0)).toNat) s) := XI.put hX_2 (show 0 ≤ s ∧ s ≤ 299 from (by first | assumption | omega | (unfold R32 at *; omega) | (unfold R64 at *; omega) | (simp only [R32, R64] at *; omega)))
    refine r_ex 5 (pc' := 37) (lo' := [some (.inr (.inr (some 12))), some (.inl c), some (.inl s), some (.inl h)]) (st' := [.inl h, .inl (v 12 0), .inr (.inr (some 15))]) rfl ?_
    have hb_5 : 0 ≤ (v 12 0) ∧ (v 12 0) ≤ 4 := hX_4 12 0
    refine r_iast2 (pc' := 38) (pc0 := 37) (len := 1) rfl (s_15 _) (by first | assumption | omega | (unfold R32 at *; omega) | (unfold R64 at *; omega) | (simp only [R32, R64] at *; omega)) (by decide) rfl ?_
    have hX_6 : XI (v2 (v2 (v2 v 13 (((v 12 0)).toNat) c) 14 (((v 12 0)).toNat) s) 15 (((v 12 0)).toNat) h) := XI.put hX_4 (show 0 ≤ h ∧ h ≤ 99 from (by first | assumption | omega | (unfold R32 at *; omega) | (unfold R64 at *; omega) | (simp only [R32, R64] at *; omega)))
    refine r_ex 5 (pc' := 45) (lo' := [some (.inr (.inr (some 12))), some (.inl c), some (.inl s), some (.inl h)]) (st' := [.inl ((v 12 0) + 1), .inr (.inr (some 12))]) rfl ?_
    have hb_7 : 0 ≤ (v 12 0) ∧ (v 12 0) ≤ 4 := hX_6 12 0
    refine r_puti2 (j := 0) (pc' := 48) (pc0 := 45) (len := 3) rfl (s_12 _) rfl rfl rfl (Or.inl rfl) rfl rfl ?_
    have hX_8 : XI (v2 (v2 (v2 (v2 v 13 (((v 12 0)).toNat) c) 14 (((v 12 0)).toNat) s) 15 (((v 12 0)).toNat) h) 12 0 ((v 12 0) + 1)) := XI.put hX_6 (show 0 ≤ ((v 12 0) + 1) ∧ ((v 12 0) + 1) ≤ 4 from (by first | assumption | omega | (unfold R32 at *; omega) | (unfold R64 at *; omega) | (simp only [R32, R64] at *; omega)))
    refine r_ret (rr := none) (I := .return_) (pc0 := 48) (len := 1) rfl rfl ?_
    exact hQ hX_8 

theorem e_cl_stAdd12 {X : PX} {d b : Nat} {v : VS} {c : Int} {s : Int} {h : Int} (hX : XI v) (hp_a : 0 ≤ c ∧ c ≤ 8) (hp_b : 0 ≤ s ∧ s ≤ 299) (hp_c : 0 ≤ h ∧ h ≤ 99) (hp_d : (v 12 0) < 4) : EvV X d 52 [.inr (.inr (some 12)), .inl c, .inl s, .inl h] b v none b (cl_stAdd12 v c s h) := EvV.of (w_cl_stAdd12 hX hp_a hp_b hp_c hp_d (fun _ => ⟨rfl, rfl, rfl⟩))

theorem i_cl_stAdd12 {v : VS} {c : Int} {s : Int} {h : Int} (hX : XI v) (hp_a : 0 ≤ c ∧ c ≤ 8) (hp_b : 0 ≤ s ∧ s ≤ 299) (hp_c : 0 ≤ h ∧ h ≤ 99) (hp_d : (v 12 0) < 4) : XI (cl_stAdd12 v c s h) := by
  have q : WV (0, fun _ => 0, none) 0 52 0 [some (.inr (.inr (some 12))), some (.inl c), some (.inl s), some (.inl h)] [] 1 v (fun _ _ _ => XI (cl_stAdd12 v c s h)) := w_cl_stAdd12 (X := (0, fun _ => 0, none)) (d := 0) (b := 1) hX hp_a hp_b hp_c hp_d (fun q => q)
  obtain ⟨_, _, _, _, _, _, _, q⟩ := q
  exact q

theorem o_cl_stAdd12 {rk : Nat} {v : VS} {c : Int} {s : Int} {h : Int} (hk : (rk < 12 ∨ 15 < rk)) : (cl_stAdd12 v c s h) rk = v rk := by
  unfold cl_stAdd12
  by_cases hc_ : 4 < (v 12 0)
  · rw [if_pos hc_]
    all_goals (show v rk = _)
    all_goals rfl
  · rw [if_neg hc_]
    all_goals (show (v2 (v2 (v2 (v2 v 13 (((v 12 0)).toNat) c) 14 (((v 12 0)).toNat) s) 15 (((v 12 0)).toNat) h) 12 0 ((v 12 0) + 1)) rk = _)
    all_goals (rw [v2_row (by omega), v2_row (by omega), v2_row (by omega), v2_row (by omega)])

def cl_spAdd16 (v : VS) (c : Int) (s : Int) (n : Int) : VS :=
  (if (v 16 0) < 6 then (v2 (v2 (v2 (v2 v 17 (((v 16 0)).toNat) c) 18 (((v 16 0)).toNat) s) 19 (((v 16 0)).toNat) n) 16 0 ((v 16 0) + 1)) else v)
theorem w_cl_spAdd16 {X : PX} {d b : Nat} {v : VS} {c : Int} {s : Int} {n : Int} (hX : XI v) (hp_a : -20 ≤ c ∧ c ≤ 20) (hp_b : 0 ≤ s ∧ s ≤ 299) (hp_c : 0 ≤ n ∧ n ≤ 299) {Q : Option PV → Nat → VS → Prop} (hQ : XI (cl_spAdd16 v c s n) → Q none b (cl_spAdd16 v c s n)) : WV X d 49 0 [some (.inr (.inr (some 16))), some (.inl c), some (.inl s), some (.inl n)] [] b v Q := by
  rw [cl_spAdd16] at hQ
  refine r_ex 3 (pc' := 6) (lo' := [some (.inr (.inr (some 16))), some (.inl c), some (.inl s), some (.inl n)]) (st' := [.inl 6, .inl (v 16 0)]) rfl ?_
  have hb_1 : 0 ≤ (v 16 0) ∧ (v 16 0) ≤ 6 := hX 16 0
  refine n_ic_ge (pc0 := 6) (len := 3) (t := 49) rfl (by first | assumption | omega | (unfold R32 at *; omega) | (unfold R64 at *; omega) | (simp only [R32, R64] at *; omega)) (by first | assumption | omega | (unfold R32 at *; omega) | (unfold R64 at *; omega) | (simp only [R32, R64] at *; omega)) (fun h_6 => ?_) (fun h_6 => ?_)
  · show WV _ _ _ 49 _ _ _ _ _
    rw [if_neg h_6] at hQ
    refine r_ret (rr := none) (I := .return_) (pc0 := 49) (len := 1) rfl rfl ?_
    exact hQ hX 
  · show WV _ _ _ 9 _ _ _ _ _
    rw [if_pos h_6] at hQ
    refine r_ex 5 (pc' := 18) (lo' := [some (.inr (.inr (some 16))), some (.inl c), some (.inl s), some (.inl n)]) (st' := [.inl c, .inl (v 16 0), .inr (.inr (some 17))]) rfl ?_
    refine r_iast2 (pc' := 19) (pc0 := 18) (len := 1) rfl (s_17 _) (by first | assumption | omega | (unfold R32 at *; omega) | (unfold R64 at *; omega) | (simp only [R32, R64] at *; omega)) (by decide) rfl ?_
    have hX_2 : XI (v2 v 17 (((v 16 0)).toNat) c) := XI.put hX (show -20 ≤ c ∧ c ≤ 20 from (by first | assumption | omega | (unfold R32 at *; omega) | (unfold R64 at *; omega) | (simp only [R32, R64] at *; omega)))
    refine r_ex 5 (pc' := 28) (lo' := [some (.inr (.inr (some 16))), some (.inl c), some (.inl s), some (.inl n)]) (st' := [.inl s, .inl (v 16 0), .inr (.inr (some 18))]) rfl ?_
    have hb_3 : 0 ≤ (v 16 0) ∧ (v 16 0) ≤ 6 := hX_2 16 0
    refine r_iast2 (pc' := 29) (pc0 := 28) (len := 1) rfl (s_18 _) (by first | assumption | omega | (unfold R32 at *; omega) | (unfold R64 at *; omega) | (simp only [R32, R64] at *; omega)) (by decide) rfl ?_
    have hX_4 : XI (v2 (v2 v 17 (((v 16 0)).toNat) c) 18 (((v 16 0)).toNat) s) := XI.put hX_2 (show 0 ≤ s ∧ s ≤ 299 from (by first | assumption | omega | (unfold R32 at *; omega) | (unfold R64 at *; omega) | (simp only [R32, R64] at *; omega)))
    refine r_ex 5 (pc' := 38) (lo' := [some (.inr (.inr (some 16))), some (.inl c), some (.inl s), some (.inl n)]) (st' := [.inl n, .inl (v 16 0), .inr (.inr (some 19))]) rfl ?_
    have hb_5 : 0 ≤ (v 16 0) ∧ (v 16 0) ≤ 6 := hX_4 16 0
    refine r_iast2 (pc' := 39) (pc0 := 38) (len := 1) rfl (s_19 _) (by first | assumption | omega | (unfold R32 at *; omega) | (unfold R64 at *; omega) | (simp only [R32, R64] at *; omega)) (by decide) rfl ?_
    have hX_6 : XI (v2 (v2 (v2 v 17 (((v 16 0)).toNat) c) 18 (((v 16 0)).toNat) s) 19 (((v 16 0)).toNat) n) := XI.put hX_4 (show 0 ≤ n ∧ n ≤ 299 from (by first | assumption | omega | (unfold R32 at *; omega) | (unfold R64 at *; omega) | (simp only [R32, R64] at *; omega)))
    refine r_ex 5 (pc' := 46) (lo' := [some (.inr (.inr (some 16))), some (.inl c), some (.inl s), some (.inl n)]) (st' := [.inl ((v 16 0) + 1), .inr (.inr (some 16))]) rfl ?_
    have hb_7 : 0 ≤ (v 16 0) ∧ (v 16 0) ≤ 6 := hX_6 16 0
    refine r_puti2 (j := 0) (pc' := 49) (pc0 := 46) (len := 3) rfl (s_16 _) rfl rfl rfl (Or.inl rfl) rfl rfl ?_
    have hX_8 : XI (v2 (v2 (v2 (v2 v 17 (((v 16 0)).toNat) c) 18 (((v 16 0)).toNat) s) 19 (((v 16 0)).toNat) n) 16 0 ((v 16 0) + 1)) := XI.put hX_6 (show 0 ≤ ((v 16 0) + 1) ∧ ((v 16 0) + 1) ≤ 6 from (by first | assumption | omega | (unfold R32 at *; omega) | (unfold R64 at *; omega) | (simp only [R32, R64] at *; omega)))
    refine r_ret (rr := none) (I := .return_) (pc0 := 49) (len := 1) rfl rfl ?_
    exact hQ hX_8 

theorem e_cl_spAdd16 {X : PX} {d b : Nat} {v : VS} {c : Int} {s : Int} {n : Int} (hX : XI v) (hp_a : -20 ≤ c ∧ c ≤ 20) (hp_b : 0 ≤ s ∧ s ≤ 299) (hp_c : 0 ≤ n ∧ n ≤ 299) : EvV X d 49 [.inr (.inr (some 16)), .inl c, .inl s, .inl n] b v none b (cl_spAdd16 v c s n) := EvV.of (w_cl_spAdd16 hX hp_a hp_b hp_c (fun _ => ⟨rfl, rfl, rfl⟩))

theorem i_cl_spAdd16 {v : VS} {c : Int} {s : Int} {n : Int} (hX : XI v) (hp_a : -20 ≤ c ∧ c ≤ 20) (hp_b : 0 ≤ s ∧ s ≤ 299) (hp_c : 0 ≤ n ∧ n ≤ 299) : XI (cl_spAdd16 v c s n) := by
  have q : WV (0, fun _ => 0, none) 0 49 0 [some (.inr (.inr (some 16))), some (.inl c), some (.inl s), some (.inl n)] [] 1 v (fun _ _ _ => XI (cl_spAdd16 v c s n)) := w_cl_spAdd16 (X := (0, fun _ => 0, none)) (d := 0) (b := 1) hX hp_a hp_b hp_c (fun q => q)
  obtain ⟨_, _, _, _, _, _, _, q⟩ := q
  exact q

theorem o_cl_spAdd16 {rk : Nat} {v : VS} {c : Int} {s : Int} {n : Int} (hk : (rk < 16 ∨ 19 < rk)) : (cl_spAdd16 v c s n) rk = v rk := by
  unfold cl_spAdd16
  by_cases hc_ : (v 16 0) < 6
  · rw [if_pos hc_]
    all_goals (show (v2 (v2 (v2 (v2 v 17 (((v 16 0)).toNat) c) 18 (((v 16 0)).toNat) s) 19 (((v 16 0)).toNat) n) 16 0 ((v 16 0) + 1)) rk = _)
    all_goals (rw [v2_row (by omega), v2_row (by omega), v2_row (by omega), v2_row (by omega)])
  · rw [if_neg hc_]
    all_goals (show v rk = _)
    all_goals rfl

def cl_spAdd20 (v : VS) (c : Int) (s : Int) (n : Int) : VS :=
  (if (v 20 0) < 6 then (v2 (v2 (v2 (v2 v 21 (((v 20 0)).toNat) c) 22 (((v 20 0)).toNat) s) 23 (((v 20 0)).toNat) n) 20 0 ((v 20 0) + 1)) else v)
theorem w_cl_spAdd20 {X : PX} {d b : Nat} {v : VS} {c : Int} {s : Int} {n : Int} (hX : XI v) (hp_a : 0 ≤ c ∧ c ≤ 11) (hp_b : 0 ≤ s ∧ s ≤ 299) (hp_c : 0 ≤ n ∧ n ≤ 299) {Q : Option PV → Nat → VS → Prop} (hQ : XI (cl_spAdd20 v c s n) → Q none b (cl_spAdd20 v c s n)) : WV X d 49 0 [some (.inr (.inr (some 20))), some (.inl c), some (.inl s), some (.inl n)] [] b v Q := by
  rw [cl_spAdd20] at hQ
  refine r_ex 3 (pc' := 6) (lo' := [some (.inr (.inr (some 20))), some (.inl c), some (.inl s), some (.inl n)]) (st' := [.inl 6, .inl (v 20 0)]) rfl ?_
  have hb_1 : 0 ≤ (v 20 0) ∧ (v 20 0) ≤ 6 := hX 20 0
  refine n_ic_ge (pc0 := 6) (len := 3) (t := 49) rfl (by first | assumption | omega | (unfold R32 at *; omega) | (unfold R64 at *; omega) | (simp only [R32, R64] at *; omega)) (by first | assumption | omega | (unfold R32 at *; omega) | (unfold R64 at *; omega) | (simp only [R32, R64] at *; omega)) (fun h_6 => ?_) (fun h_6 => ?_)
  · show WV _ _ _ 49 _ _ _ _ _
    rw [if_neg h_6] at hQ
    refine r_ret (rr := none) (I := .return_) (pc0 := 49) (len := 1) rfl rfl ?_
    exact hQ hX 
  · show WV _ _ _ 9 _ _ _ _ _
    rw [if_pos h_6] at hQ
    refine r_ex 5 (pc' := 18) (lo' := [some (.inr (.inr (some 20))), some (.inl c), some (.inl s), some (.inl n)]) (st' := [.inl c, .inl (v 20 0), .inr (.inr (some 21))]) rfl ?_
    refine r_iast2 (pc' := 19) (pc0 := 18) (len := 1) rfl (s_21 _) (by first | assumption | omega | (unfold R32 at *; omega) | (unfold R64 at *; omega) | (simp only [R32, R64] at *; omega)) (by decide) rfl ?_
    have hX_2 : XI (v2 v 21 (((v 20 0)).toNat) c) := XI.put hX (show 0 ≤ c ∧ c ≤ 11 from (by first | assumption | omega | (unfold R32 at *; omega) | (unfold R64 at *; omega) | (simp only [R32, R64] at *; omega)))
    refine r_ex 5 (pc' := 28) (lo' := [some (.inr (.inr (some 20))), some (.inl c), some (.inl s), some (.inl n)]) (st' := [.inl s, .inl (v 20 0), .inr (.inr (some 22))]) rfl ?_
    have hb_3 : 0 ≤ (v 20 0) ∧ (v 20 0) ≤ 6 := hX_2 20 0
    refine r_iast2 (pc' := 29) (pc0 := 28) (len := 1) rfl (s_22 _) (by first | assumption | omega | (unfold R32 at *; omega) | (unfold R64 at *; omega) | (simp only [R32, R64] at *; omega)) (by decide) rfl ?_
    have hX_4 : XI (v2 (v2 v 21 (((v 20 0)).toNat) c) 22 (((v 20 0)).toNat) s) := XI.put hX_2 (show 0 ≤ s ∧ s ≤ 299 from (by first | assumption | omega | (unfold R32 at *; omega) | (unfold R64 at *; omega) | (simp only [R32, R64] at *; omega)))
    refine r_ex 5 (pc' := 38) (lo' := [some (.inr (.inr (some 20))), some (.inl c), some (.inl s), some (.inl n)]) (st' := [.inl n, .inl (v 20 0), .inr (.inr (some 23))]) rfl ?_
    have hb_5 : 0 ≤ (v 20 0) ∧ (v 20 0) ≤ 6 := hX_4 20 0
    refine r_iast2 (pc' := 39) (pc0 := 38) (len := 1) rfl (s_23 _) (by first | assumption | omega | (unfold R32 at *; omega) | (unfold R64 at *; omega) | (simp only [R32, R64] at *; omega)) (by decide) rfl ?_
    have hX_6 : XI (v2 (v2 (v2 v 21 (((v 20 0)).toNat) c) 22 (((v 20 0)).toNat) s) 23 (((v 20 0)).toNat) n) := XI.put hX_4 (show 0 ≤ n ∧ n ≤ 299 from (by first | assumption | omega | (unfold R32 at *; omega) | (unfold R64 at *; omega) | (simp only [R32, R64] at *; omega)))
    refine r_ex 5 (pc' := 46) (lo' := [some (.inr (.inr (some 20))), some (.inl c), some (.inl s), some (.inl n)]) (st' := [.inl ((v 20 0) + 1), .inr (.inr (some 20))]) rfl ?_
    have hb_7 : 0 ≤ (v 20 0) ∧ (v 20 0) ≤ 6 := hX_6 20 0
    refine r_puti2 (j := 0) (pc' := 49) (pc0 := 46) (len := 3) rfl (s_20 _) rfl rfl rfl (Or.inl rfl) rfl rfl ?_
    have hX_8 : XI (v2 (v2 (v2 (v2 v 21 (((v 20 0)).toNat) c) 22 (((v 20 0)).toNat) s) 23 (((v 20 0)).toNat) n) 20 0 ((v 20 0) + 1)) := XI.put hX_6 (show 0 ≤ ((v 20 0) + 1) ∧ ((v 20 0) + 1) ≤ 6 from (by first | assumption | omega | (unfold R32 at *; omega) | (unfold R64 at *; omega) | (simp only [R32, R64] at *; omega)))
    refine r_ret (rr := none) (I := .return_) (pc0 := 49) (len := 1) rfl rfl ?_
    exact hQ hX_8 

theorem e_cl_spAdd20 {X : PX} {d b : Nat} {v : VS} {c : Int} {s : Int} {n : Int} (hX : XI v) (hp_a : 0 ≤ c ∧ c ≤ 11) (hp_b : 0 ≤ s ∧ s ≤ 299) (hp_c : 0 ≤ n ∧ n ≤ 299) : EvV X d 49 [.inr (.inr (some 20)), .inl c, .inl s, .inl n] b v none b (cl_spAdd20 v c s n) := EvV.of (w_cl_spAdd20 hX hp_a hp_b hp_c (fun _ => ⟨rfl, rfl, rfl⟩))

theorem i_cl_spAdd20 {v : VS} {c : Int} {s : Int} {n : Int} (hX : XI v) (hp_a : 0 ≤ c ∧ c ≤ 11) (hp_b : 0 ≤ s ∧ s ≤ 299) (hp_c : 0 ≤ n ∧ n ≤ 299) : XI (cl_spAdd20 v c s n) := by
  have q : WV (0, fun _ => 0, none) 0 49 0 [some (.inr (.inr (some 20))), some (.inl c), some (.inl s), some (.inl n)] [] 1 v (fun _ _ _ => XI (cl_spAdd20 v c s n)) := w_cl_spAdd20 (X := (0, fun _ => 0, none)) (d := 0) (b := 1) hX hp_a hp_b hp_c (fun q => q)
  obtain ⟨_, _, _, _, _, _, _, q⟩ := q
  exact q

theorem o_cl_spAdd20 {rk : Nat} {v : VS} {c : Int} {s : Int} {n : Int} (hk : (rk < 20 ∨ 23 < rk)) : (cl_spAdd20 v c s n) rk = v rk := by
  unfold cl_spAdd20
  by_cases hc_ : (v 20 0) < 6
  · rw [if_pos hc_]
    all_goals (show (v2 (v2 (v2 (v2 v 21 (((v 20 0)).toNat) c) 22 (((v 20 0)).toNat) s) 23 (((v 20 0)).toNat) n) 20 0 ((v 20 0) + 1)) rk = _)
    all_goals (rw [v2_row (by omega), v2_row (by omega), v2_row (by omega), v2_row (by omega)])
  · rw [if_neg hc_]
    all_goals (show v rk = _)
    all_goals rfl

def cl_spAdd24 (v : VS) (c : Int) (s : Int) (n : Int) : VS :=
  (if (v 24 0) < 6 then (v2 (v2 (v2 (v2 v 25 (((v 24 0)).toNat) c) 26 (((v 24 0)).toNat) s) 27 (((v 24 0)).toNat) n) 24 0 ((v 24 0) + 1)) else v)
theorem w_cl_spAdd24 {X : PX} {d b : Nat} {v : VS} {c : Int} {s : Int} {n : Int} (hX : XI v) (hp_a : 0 ≤ c ∧ c ≤ 8) (hp_b : 0 ≤ s ∧ s ≤ 299) (hp_c : 0 ≤ n ∧ n ≤ 299) {Q : Option PV → Nat → VS → Prop} (hQ : XI (cl_spAdd24 v c s n) → Q none b (cl_spAdd24 v c s n)) : WV X d 49 0 [some (.inr (.inr (some 24))), some (.inl c), some (.inl s), some (.inl n)] [] b v Q := by
  rw [cl_spAdd24] at hQ
  refine r_ex 3 (pc' := 6) (lo' := [some (.inr (.inr (some 24))), some (.inl c), some (.inl s), some (.inl n)]) (st' := [.inl 6, .inl (v 24 0)]) rfl ?_
  have hb_1 : 0 ≤ (v 24 0) ∧ (v 24 0) ≤ 6 := hX 24 0
  refine n_ic_ge (pc0 := 6) (len := 3) (t := 49) rfl (by first | assumption | omega | (unfold R32 at *; omega) | (unfold R64 at *; omega) | (simp only [R32, R64] at *; omega)) (by first | assumption | omega | (unfold R32 at *; omega) | (unfold R64 at *; omega) | (simp only [R32, R64] at *; omega)) (fun h_6 => ?_) (fun h_6 => ?_)
  · show WV _ _ _ 49 _ _ _ _ _
    rw [if_neg h_6] at hQ
    refine r_ret (rr := none) (I := .return_) (pc0 := 49) (len := 1) rfl rfl ?_
    exact hQ hX 
  · show WV _ _ _ 9 _ _ _ _ _
    rw [if_pos h_6] at hQ
    refine r_ex 5 (pc' := 18) (lo' := [some (.inr (.inr (some 24))), some (.inl c), some (.inl s), some (.inl n)]) (st' := [.inl c, .inl (v 24 0), .inr (.inr (some 25))]) rfl ?_
    refine r_iast2 (pc' := 19) (pc0 := 18) (len := 1) rfl (s_25 _) (by first | assumption | omega | (unfold R32 at *; omega) | (unfold R64 at *; omega) | (simp only [R32, R64] at *; omega)) (by decide) rfl ?_
    have hX_2 : XI (v2 v 25 (((v 24 0)).toNat) c) := XI.put hX (show 0 ≤ c ∧ c ≤ 8 from (by first | assumption | omega | (unfold R32 at *; omega) | (unfold R64 at *; omega) | (simp only [R32, R64] at *; omega)))
    refine r_ex 5 (pc' := 28) (lo' := [some (.inr (.inr (some 24))), some (.inl c), some (.inl s), some (.inl n)]) (st' := [.inl s, .inl (v 24 0), .inr (.inr (some 26))]) rfl ?_
    have hb_3 : 0 ≤ (v 24 0) ∧ (v 24 0) ≤ 6 := hX_2 24 0
    refine r_iast2 (pc' := 29) (pc0 := 28) (len := 1) rfl (s_26 _) (by first | assumption | omega | (unfold R32 at *; omega) | (unfold R64 at *; omega) | (simp only [R32, R64] at *; omega)) (by decide) rfl ?_
    have hX_4 : XI (v2 (v2 v 25 (((v 24 0)).toNat) c) 26 (((v 24 0)).toNat) s) := XI.put hX_2 (show 0 ≤ s ∧ s ≤ 299 from (by first | assumption | omega | (unfold R32 at *; omega) | (unfold R64 at *; omega) | (simp only [R32, R64] at *; omega)))
    refine r_ex 5 (pc' := 38) (lo' := [some (.inr (.inr (some 24))), some (.inl c), some (.inl s), some (.inl n)]) (st' := [.inl n, .inl (v 24 0), .inr (.inr (some 27))]) rfl ?_
    have hb_5 : 0 ≤ (v 24 0) ∧ (v 24 0) ≤ 6 := hX_4 24 0
    refine r_iast2 (pc' := 39) (pc0 := 38) (len := 1) rfl (s_27 _) (by first | assumption | omega | (unfold R32 at *; omega) | (unfold R64 at *; omega) | (simp only [R32, R64] at *; omega)) (by decide) rfl ?_
    have hX_6 : XI (v2 (v2 (v2 v 25 (((v 24 0)).toNat) c) 26 (((v 24 0)).toNat) s) 27 (((v 24 0)).toNat) n) := XI.put hX_4 (show 0 ≤ n ∧ n ≤ 299 from (by first | assumption | omega | (unfold R32 at *; omega) | (unfold R64 at *; omega) | (simp only [R32, R64] at *; omega)))
    refine r_ex 5 (pc' := 46) (lo' := [some (.inr (.inr (some 24))), some (.inl c), some (.inl s), some (.inl n)]) (st' := [.inl ((v 24 0) + 1), .inr (.inr (some 24))]) rfl ?_
    have hb_7 : 0 ≤ (v 24 0) ∧ (v 24 0) ≤ 6 := hX_6 24 0
    refine r_puti2 (j := 0) (pc' := 49) (pc0 := 46) (len := 3) rfl (s_24 _) rfl rfl rfl (Or.inl rfl) rfl rfl ?_
    have hX_8 : XI (v2 (v2 (v2 (v2 v 25 (((v 24 0)).toNat) c) 26 (((v 24 0)).toNat) s) 27 (((v 24 0)).toNat) n) 24 0 ((v 24 0) + 1)) := XI.put hX_6 (show 0 ≤ ((v 24 0) + 1) ∧ ((v 24 0) + 1) ≤ 6 from (by first | assumption | omega | (unfold R32 at *; omega) | (unfold R64 at *; omega) | (simp only [R32, R64] at *; omega)))
    refine r_ret (rr := none) (I := .return_) (pc0 := 49) (len := 1) rfl rfl ?_
    exact hQ hX_8 

theorem e_cl_spAdd24 {X : PX} {d b : Nat} {v : VS} {c : Int} {s : Int} {n : Int} (hX : XI v) (hp_a : 0 ≤ c ∧ c ≤ 8) (hp_b : 0 ≤ s ∧ s ≤ 299) (hp_c : 0 ≤ n ∧ n ≤ 299) : EvV X d 49 [.inr (.inr (some 24)), .inl c, .inl s, .inl n] b v none b (cl_spAdd24 v c s n) := EvV.of (w_cl_spAdd24 hX hp_a hp_b hp_c (fun _ => ⟨rfl, rfl, rfl⟩))

theorem i_cl_spAdd24 {v : VS} {c : Int} {s : Int} {n : Int} (hX : XI v) (hp_a : 0 ≤ c ∧ c ≤ 8) (hp_b : 0 ≤ s ∧ s ≤ 299) (hp_c : 0 ≤ n ∧ n ≤ 299) : XI (cl_spAdd24 v c s n) := by
  have q : WV (0, fun _ => 0, none) 0 49 0 [some (.inr (.inr (some 24))), some (.inl c), some (.inl s), some (.inl n)] [] 1 v (fun _ _ _ => XI (cl_spAdd24 v c s n)) := w_cl_spAdd24 (X := (0, fun _ => 0, none)) (d := 0) (b := 1) hX hp_a hp_b hp_c (fun q => q)
  obtain ⟨_, _, _, _, _, _, _, q⟩ := q
  exact q

theorem o_cl_spAdd24 {rk : Nat} {v : VS} {c : Int} {s : Int} {n : Int} (hk : (rk < 24 ∨ 27 < rk)) : (cl_spAdd24 v c s n) rk = v rk := by
  unfold cl_spAdd24
  by_cases hc_ : (v 24 0) < 6
  · rw [if_pos hc_]
    all_goals (show (v2 (v2 (v2 (v2 v 25 (((v 24 0)).toNat) c) 26 (((v 24 0)).toNat) s) 27 (((v 24 0)).toNat) n) 24 0 ((v 24 0) + 1)) rk = _)
    all_goals (rw [v2_row (by omega), v2_row (by omega), v2_row (by omega), v2_row (by omega)])
  · rw [if_neg hc_]
    all_goals (show v rk = _)
    all_goals rfl

def cl_spAdd28 (v : VS) (c : Int) (s : Int) (n : Int) : VS :=
  (if (v 28 0) < 6 then (v2 (v2 (v2 (v2 v 29 (((v 28 0)).toNat) c) 30 (((v 28 0)).toNat) s) 31 (((v 28 0)).toNat) n) 28 0 ((v 28 0) + 1)) else v)
theorem w_cl_spAdd28 {X : PX} {d b : Nat} {v : VS} {c : Int} {s : Int} {n : Int} (hX : XI v) (hp_a : 0 ≤ c ∧ c ≤ 8) (hp_b : 0 ≤ s ∧ s ≤ 299) (hp_c : 0 ≤ n ∧ n ≤ 299) {Q : Option PV → Nat → VS → Prop} (hQ : XI (cl_spAdd28 v c s n) → Q none b (cl_spAdd28 v c s n)) : WV X d 49 0 [some (.inr (.inr (some 28))), some (.inl c), some (.inl s), some (.inl n)] [] b v Q := by
  rw [cl_spAdd28] at hQ
  refine r_ex 3 (pc' := 6) (lo' := [some (.inr (.inr (some 28))), some (.inl c), some (.inl s), some (.inl n)]) (st' := [.inl 6, .inl (v 28 0)]) rfl ?_
  have hb_1 : 0 ≤ (v 28 0) ∧ (v 28 0) ≤ 6 := hX 28 0
  refine n_ic_ge (pc0 := 6) (len := 3) (t := 49) rfl (by first | assumption | omega | (unfold R32 at *; omega) | (unfold R64 at *; omega) | (simp only [R32, R64] at *; omega)) (by first | assumption | omega | (unfold R32 at *; omega) | (unfold R64 at *; omega) | (simp only [R32, R64] at *; omega)) (fun h_6 => ?_) (fun h_6 => ?_)
  · show WV _ _ _ 49 _ _ _ _ _
    rw [if_neg h_6] at hQ
    refine r_ret (rr := none) (I := .return_) (pc0 := 49) (len := 1) rfl rfl ?_
    exact hQ hX 
  · show WV _ _ _ 9 _ _ _ _ _
    rw [if_pos h_6] at hQ
    refine r_ex 5 (pc' := 18) (lo' := [some (.inr (.inr (some 28))), some (.inl c), some (.inl s), some (.inl n)]) (st' := [.inl c, .inl (v 28 0), .inr (.inr (some 29))]) rfl ?_
    refine r_iast2 (pc' := 19) (pc0 := 18) (len := 1) rfl (s_29 _) (by first | assumption | omega | (unfold R32 at *; omega) | (unfold R64 at *; omega) | (simp only [R32, R64] at *; omega)) (by decide) rfl ?_
    have hX_2 : XI (v2 v 29 (((v 28 0)).toNat) c) := XI.put hX (show 0 ≤ c ∧ c ≤ 8 from (by first | assumption | omega | (unfold R32 at *; omega) | (unfold R64 at *; omega) | (simp only [R32, R64] at *; omega)))
    refine r_ex 5 (pc' := 28) (lo' := [some (.inr (.inr (some 28))), some (.inl c), some (.inl s), some (.inl n)]) (st' := [.inl s, .inl (v 28 0), .inr (.inr (some 30))]) rfl ?_
    have hb_3 : 0 ≤ (v 28 0) ∧ (v 28 0) ≤ 6 := hX_2 28 0
    refine r_iast2 (pc' := 29) (pc0 := 28) (len := 1) rfl (s_30 _) (by first | assumption | omega | (unfold R32 at *; omega) | (unfold R64 at *; omega) | (simp only [R32, R64] at *; omega)) (by decide) rfl ?_
    have hX_4 : XI (v2 (v2 v 29 (((v 28 0)).toNat) c) 30 (((v 28 0)).toNat) s) := XI.put hX_2 (show 0 ≤ s ∧ s ≤ 299 from (by first | assumption | omega | (unfold R32 at *; omega) | (unfold R64 at *; omega) | (simp only [R32, R64] at *; omega)))
    refine r_ex 5 (pc' := 38) (lo' := [some (.inr (.inr (some 28))), some (.inl c), some (.inl s), some (.inl n)]) (st' := [.inl n, .inl (v 28 0), .inr (.inr (some 31))]) rfl ?_
    have hb_5 : 0 ≤ (v 28 0) ∧ (v 28 0) ≤ 6 := hX_4 28 0
    refine r_iast2 (pc' := 39) (pc0 := 38) (len := 1) rfl (s_31 _) (by first | assumption | omega | (unfold R32 at *; omega) | (unfold R64 at *; omega) | (simp only [R32, R64] at *; omega)) (by decide) rfl ?_
    have hX_6 : XI (v2 (v2 (v2 v 29 (((v 28 0)).toNat) c) 30 (((v 28 0)).toNat) s) 31 (((v 28 0)).toNat) n) := XI.put hX_4 (show 0 ≤ n ∧ n ≤ 299 from (by first | assumption | omega | (unfold R32 at *; omega) | (unfold R64 at *; omega) | (simp only [R32, R64] at *; omega)))
    refine r_ex 5 (pc' := 46) (lo' := [some (.inr (.inr (some 28))), some (.inl c), some (.inl s), some (.inl n)]) (st' := [.inl ((v 28 0) + 1), .inr (.inr (some 28))]) rfl ?_
    have hb_7 : 0 ≤ (v 28 0) ∧ (v 28 0) ≤ 6 := hX_6 28 0
    refine r_puti2 (j := 0) (pc' := 49) (pc0 := 46) (len := 3) rfl (s_28 _) rfl rfl rfl (Or.inl rfl) rfl rfl ?_
    have hX_8 : XI (v2 (v2 (v2 (v2 v 29 (((v 28 0)).toNat) c) 30 (((v 28 0)).toNat) s) 31 (((v 28 0)).toNat) n) 28 0 ((v 28 0) + 1)) := XI.put hX_6 (show 0 ≤ ((v 28 0) + 1) ∧ ((v 28 0) + 1) ≤ 6 from (by first | assumption | omega | (unfold R32 at *; omega) | (unfold R64 at *; omega) | (simp only [R32, R64] at *; omega)))
    refine r_ret (rr := none) (I := .return_) (pc0 := 49) (len := 1) rfl rfl ?_
    exact hQ hX_8 

theorem e_cl_spAdd28 {X : PX} {d b : Nat} {v : VS} {c : Int} {s : Int} {n : Int} (hX : XI v) (hp_a : 0 ≤ c ∧ c ≤ 8) (hp_b : 0 ≤ s ∧ s ≤ 299) (hp_c : 0 ≤ n ∧ n ≤ 299) : EvV X d 49 [.inr (.inr (some 28)), .inl c, .inl s, .inl n] b v none b (cl_spAdd28 v c s n) := EvV.of (w_cl_spAdd28 hX hp_a hp_b hp_c (fun _ => ⟨rfl, rfl, rfl⟩))

theorem i_cl_spAdd28 {v : VS} {c : Int} {s : Int} {n : Int} (hX : XI v) (hp_a : 0 ≤ c ∧ c ≤ 8) (hp_b : 0 ≤ s ∧ s ≤ 299) (hp_c : 0 ≤ n ∧ n ≤ 299) : XI (cl_spAdd28 v c s n) := by
  have q : WV (0, fun _ => 0, none) 0 49 0 [some (.inr (.inr (some 28))), some (.inl c), some (.inl s), some (.inl n)] [] 1 v (fun _ _ _ => XI (cl_spAdd28 v c s n)) := w_cl_spAdd28 (X := (0, fun _ => 0, none)) (d := 0) (b := 1) hX hp_a hp_b hp_c (fun q => q)
  obtain ⟨_, _, _, _, _, _, _, q⟩ := q
  exact q

theorem o_cl_spAdd28 {rk : Nat} {v : VS} {c : Int} {s : Int} {n : Int} (hk : (rk < 28 ∨ 31 < rk)) : (cl_spAdd28 v c s n) rk = v rk := by
  unfold cl_spAdd28
  by_cases hc_ : (v 28 0) < 6
  · rw [if_pos hc_]
    all_goals (show (v2 (v2 (v2 (v2 v 29 (((v 28 0)).toNat) c) 30 (((v 28 0)).toNat) s) 31 (((v 28 0)).toNat) n) 28 0 ((v 28 0) + 1)) rk = _)
    all_goals (rw [v2_row (by omega), v2_row (by omega), v2_row (by omega), v2_row (by omega)])
  · rw [if_neg hc_]
    all_goals (show v rk = _)
    all_goals rfl

def cl_eaTake33_3 (v : VS)  : VS :=
  (vcp (vcp (vcp (vcp (v2 v 37 0 (v 7 0)) 8 38 0 0 12) 9 39 0 0 12) 10 40 0 0 12) 11 41 0 0 12)
theorem w_cl_eaTake33_3 {X : PX} {d b : Nat} {v : VS}  (hX : XI v)  {Q : Option PV → Nat → VS → Prop} (hQ : XI (cl_eaTake33_3 v) → Q none b (cl_eaTake33_3 v)) : WV X d 54 0 [some (.inr (.inr (some 37))), some (.inr (.inr (some 7)))] [] b v Q := by
  rw [cl_eaTake33_3] at hQ
  refine r_ex 3 (pc' := 5) (lo' := [some (.inr (.inr (some 37))), some (.inr (.inr (some 7)))]) (st' := [.inl (v 7 0), .inr (.inr (some 37))]) rfl ?_
  have hb_1 : 0 ≤ (v 7 0) ∧ (v 7 0) ≤ 12 := hX 7 0
  refine r_puti2 (j := 0) (pc' := 8) (pc0 := 5) (len := 3) rfl (s_37 _) rfl rfl rfl (Or.inl rfl) rfl rfl ?_
  have hX_2 : XI (v2 v 37 0 (v 7 0)) := XI.put hX (show 0 ≤ (v 7 0) ∧ (v 7 0) ≤ 12 from (by first | assumption | omega | (unfold R32 at *; omega) | (unfold R64 at *; omega) | (simp only [R32, R64] at *; omega)))
  refine r_ex 7 (pc' := 20) (lo' := [some (.inr (.inr (some 37))), some (.inr (.inr (some 7)))]) (st' := [.inl 12, .inl 0, .inr (.inr (some 38)), .inl 0, .inr (.inr (some 8))]) rfl ?_
  refine r_copy2 (pc' := 23) (pc0 := 20) (len := 3) rfl (s_8 _) (s_38 _) (Or.inl rfl) (by omega) (by decide) (by decide) rfl ?_
  have hX_3 : XI (vcp (v2 v 37 0 (v 7 0)) 8 38 0 0 12) := XI.cpy hX_2 (fun x h j => Exists.elim h (fun _ h => h))
  show WV _ _ _ 23 _ _ _ (vcp (v2 v 37 0 (v 7 0)) 8 38 0 0 12) _
  refine r_ex 7 (pc' := 35) (lo' := [some (.inr (.inr (some 37))), some (.inr (.inr (some 7)))]) (st' := [.inl 12, .inl 0, .inr (.inr (some 39)), .inl 0, .inr (.inr (some 9))]) rfl ?_
  refine r_copy2 (pc' := 38) (pc0 := 35) (len := 3) rfl (s_9 _) (s_39 _) (Or.inl rfl) (by omega) (by decide) (by decide) rfl ?_
  have hX_4 : XI (vcp (vcp (v2 v 37 0 (v 7 0)) 8 38 0 0 12) 9 39 0 0 12) := XI.cpy hX_3 (fun x h j => Exists.elim h (fun _ h => h))
  show WV _ _ _ 38 _ _ _ (vcp (vcp (v2 v 37 0 (v 7 0)) 8 38 0 0 12) 9 39 0 0 12) _
  refine r_ex 7 (pc' := 50) (lo' := [some (.inr (.inr (some 37))), some (.inr (.inr (some 7)))]) (st' := [.inl 12, .inl 0, .inr (.inr (some 40)), .inl 0, .inr (.inr (some 10))]) rfl ?_
  refine r_copy2 (pc' := 53) (pc0 := 50) (len := 3) rfl (s_10 _) (s_40 _) (Or.inl rfl) (by omega) (by decide) (by decide) rfl ?_
  have hX_5 : XI (vcp (vcp (vcp (v2 v 37 0 (v 7 0)) 8 38 0 0 12) 9 39 0 0 12) 10 40 0 0 12) := XI.cpy hX_4 (fun x h j => Exists.elim h (fun _ h => h))
  show WV _ _ _ 53 _ _ _ (vcp (vcp (vcp (v2 v 37 0 (v 7 0)) 8 38 0 0 12) 9 39 0 0 12) 10 40 0 0 12) _
  refine r_ex 7 (pc' := 65) (lo' := [some (.inr (.inr (some 37))), some (.inr (.inr (some 7)))]) (st' := [.inl 12, .inl 0, .inr (.inr (some 41)), .inl 0, .inr (.inr (some 11))]) rfl ?_
  refine r_copy2 (pc' := 68) (pc0 := 65) (len := 3) rfl (s_11 _) (s_41 _) (Or.inl rfl) (by omega) (by decide) (by decide) rfl ?_
  have hX_6 : XI (vcp (vcp (vcp (vcp (v2 v 37 0 (v 7 0)) 8 38 0 0 12) 9 39 0 0 12) 10 40 0 0 12) 11 41 0 0 12) := XI.cpy hX_5 (fun x h j => Exists.elim h (fun _ h => h))
  show WV _ _ _ 68 _ _ _ (vcp (vcp (vcp (vcp (v2 v 37 0 (v 7 0)) 8 38 0 0 12) 9 39 0 0 12) 10 40 0 0 12) 11 41 0 0 12) _
  refine r_ret (rr := none) (I := .return_) (pc0 := 68) (len := 1) rfl rfl ?_
  exact hQ hX_6 

theorem e_cl_eaTake33_3 {X : PX} {d b : Nat} {v : VS}  (hX : XI v)  : EvV X d 54 [.inr (.inr (some 37)), .inr (.inr (some 7))] b v none b (cl_eaTake33_3 v) := EvV.of (w_cl_eaTake33_3 hX  (fun _ => ⟨rfl, rfl, rfl⟩))

theorem i_cl_eaTake33_3 {v : VS}  (hX : XI v)  : XI (cl_eaTake33_3 v) := by
  have q : WV (0, fun _ => 0, none) 0 54 0 [some (.inr (.inr (some 37))), some (.inr (.inr (some 7)))] [] 1 v (fun _ _ _ => XI (cl_eaTake33_3 v)) := w_cl_eaTake33_3 (X := (0, fun _ => 0, none)) (d := 0) (b := 1) hX  (fun q => q)
  obtain ⟨_, _, _, _, _, _, _, q⟩ := q
  exact q

theorem o_cl_eaTake33_3 {rk : Nat} {v : VS}  (hk : (rk < 37 ∨ 41 < rk)) : (cl_eaTake33_3 v ) rk = v rk := by
  unfold cl_eaTake33_3
  all_goals (show (vcp (vcp (vcp (vcp (v2 v 37 0 (v 7 0)) 8 38 0 0 12) 9 39 0 0 12) 10 40 0 0 12) 11 41 0 0 12) rk = _)
  all_goals (rw [vcp_row (by omega), vcp_row (by omega), vcp_row (by omega), vcp_row (by omega), v2_row (by omega)])

def cl_stTake33_3 (v : VS)  : VS :=
  (vcp (vcp (vcp (v2 v 42 0 (v 12 0)) 13 43 0 0 5) 14 44 0 0 5) 15 45 0 0 5)
theorem w_cl_stTake33_3 {X : PX} {d b : Nat} {v : VS}  (hX : XI v)  {Q : Option PV → Nat → VS → Prop} (hQ : XI (cl_stTake33_3 v) → Q none b (cl_stTake33_3 v)) : WV X d 55 0 [some (.inr (.inr (some 42))), some (.inr (.inr (some 12)))] [] b v Q := by
  rw [cl_stTake33_3] at hQ
  refine r_ex 3 (pc' := 5) (lo' := [some (.inr (.inr (some 42))), some (.inr (.inr (some 12)))]) (st' := [.inl (v 12 0), .inr (.inr (some 42))]) rfl ?_
  have hb_1 : 0 ≤ (v 12 0) ∧ (v 12 0) ≤ 4 := hX 12 0
  refine r_puti2 (j := 0) (pc' := 8) (pc0 := 5) (len := 3) rfl (s_42 _) rfl rfl rfl (Or.inl rfl) rfl rfl ?_
  have hX_2 : XI (v2 v 42 0 (v 12 0)) := XI.put hX (show 0 ≤ (v 12 0) ∧ (v 12 0) ≤ 4 from (by first | assumption | omega | (unfold R32 at *; omega) | (unfold R64 at *; omega) | (simp only [R32, R64] at *; omega)))
  refine r_ex 7 (pc' := 19) (lo' := [some (.inr (.inr (some 42))), some (.inr (.inr (some 12)))]) (st' := [.inl 5, .inl 0, .inr (.inr (some 43)), .inl 0, .inr (.inr (some 13))]) rfl ?_
  refine r_copy2 (pc' := 22) (pc0 := 19) (len := 3) rfl (s_13 _) (s_43 _) (Or.inl rfl) (by omega) (by decide) (by decide) rfl ?_
  have hX_3 : XI (vcp (v2 v 42 0 (v 12 0)) 13 43 0 0 5) := XI.cpy hX_2 (fun x h j => Exists.elim h (fun _ h => h))
  show WV _ _ _ 22 _ _ _ (vcp (v2 v 42 0 (v 12 0)) 13 43 0 0 5) _
  refine r_ex 7 (pc' := 33) (lo' := [some (.inr (.inr (some 42))), some (.inr (.inr (some 12)))]) (st' := [.inl 5, .inl 0, .inr (.inr (some 44)), .inl 0, .inr (.inr (some 14))]) rfl ?_
  refine r_copy2 (pc' := 36) (pc0 := 33) (len := 3) rfl (s_14 _) (s_44 _) (Or.inl rfl) (by omega) (by decide) (by decide) rfl ?_
  have hX_4 : XI (vcp (vcp (v2 v 42 0 (v 12 0)) 13 43 0 0 5) 14 44 0 0 5) := XI.cpy hX_3 (fun x h j => Exists.elim h (fun _ h => h))
  show WV _ _ _ 36 _ _ _ (vcp (vcp (v2 v 42 0 (v 12 0)) 13 43 0 0 5) 14 44 0 0 5) _
  refine r_ex 7 (pc' := 47) (lo' := [some (.inr (.inr (some 42))), some (.inr (.inr (some 12)))]) (st' := [.inl 5, .inl 0, .inr (.inr (some 45)), .inl 0, .inr (.inr (some 15))]) rfl ?_
  refine r_copy2 (pc' := 50) (pc0 := 47) (len := 3) rfl (s_15 _) (s_45 _) (Or.inl rfl) (by omega) (by decide) (by decide) rfl ?_
  have hX_5 : XI (vcp (vcp (vcp (v2 v 42 0 (v 12 0)) 13 43 0 0 5) 14 44 0 0 5) 15 45 0 0 5) := XI.cpy hX_4 (fun x h j => Exists.elim h (fun _ h => h))
  show WV _ _ _ 50 _ _ _ (vcp (vcp (vcp (v2 v 42 0 (v 12 0)) 13 43 0 0 5) 14 44 0 0 5) 15 45 0 0 5) _
  refine r_ret (rr := none) (I := .return_) (pc0 := 50) (len := 1) rfl rfl ?_
  exact hQ hX_5 

theorem e_cl_stTake33_3 {X : PX} {d b : Nat} {v : VS}  (hX : XI v)  : EvV X d 55 [.inr (.inr (some 42)), .inr (.inr (some 12))] b v none b (cl_stTake33_3 v) := EvV.of (w_cl_stTake33_3 hX  (fun _ => ⟨rfl, rfl, rfl⟩))

theorem i_cl_stTake33_3 {v : VS}  (hX : XI v)  : XI (cl_stTake33_3 v) := by
  have q : WV (0, fun _ => 0, none) 0 55 0 [some (.inr (.inr (some 42))), some (.inr (.inr (some 12)))] [] 1 v (fun _ _ _ => XI (cl_stTake33_3 v)) := w_cl_stTake33_3 (X := (0, fun _ => 0, none)) (d := 0) (b := 1) hX  (fun q => q)
  obtain ⟨_, _, _, _, _, _, _, q⟩ := q
  exact q

theorem o_cl_stTake33_3 {rk : Nat} {v : VS}  (hk : (rk < 42 ∨ 45 < rk)) : (cl_stTake33_3 v ) rk = v rk := by
  unfold cl_stTake33_3
  all_goals (show (vcp (vcp (vcp (v2 v 42 0 (v 12 0)) 13 43 0 0 5) 14 44 0 0 5) 15 45 0 0 5) rk = _)
  all_goals (rw [vcp_row (by omega), vcp_row (by omega), vcp_row (by omega), v2_row (by omega)])

def cl_spTake46_16 (v : VS)  : VS :=
  (vcp (vcp (vcp (v2 v 46 0 (v 16 0)) 17 47 0 0 6) 18 48 0 0 6) 19 49 0 0 6)
theorem w_cl_spTake46_16 {X : PX} {d b : Nat} {v : VS}  (hX : XI v)  {Q : Option PV → Nat → VS → Prop} (hQ : XI (cl_spTake46_16 v) → Q none b (cl_spTake46_16 v)) : WV X d 56 0 [some (.inr (.inr (some 46))), some (.inr (.inr (some 16)))] [] b v Q := by
  rw [cl_spTake46_16] at hQ
  refine r_ex 3 (pc' := 5) (lo' := [some (.inr (.inr (some 46))), some (.inr (.inr (some 16)))]) (st' := [.inl (v 16 0), .inr (.inr (some 46))]) rfl ?_
  have hb_1 : 0 ≤ (v 16 0) ∧ (v 16 0) ≤ 6 := hX 16 0
  refine r_puti2 (j := 0) (pc' := 8) (pc0 := 5) (len := 3) rfl (s_46 _) rfl rfl rfl (Or.inl rfl) rfl rfl ?_
  have hX_2 : XI (v2 v 46 0 (v 16 0)) := XI.put hX (show 0 ≤ (v 16 0) ∧ (v 16 0) ≤ 6 from (by first | assumption | omega | (unfold R32 at *; omega) | (unfold R64 at *; omega) | (simp only [R32, R64] at *; omega)))
  refine r_ex 7 (pc' := 20) (lo' := [some (.inr (.inr (some 46))), some (.inr (.inr (some 16)))]) (st' := [.inl 6, .inl 0, .inr (.inr (some 47)), .inl 0, .inr (.inr (some 17))]) rfl ?_
  refine r_copy2 (pc' := 23) (pc0 := 20) (len := 3) rfl (s_17 _) (s_47 _) (Or.inl rfl) (by omega) (by decide) (by decide) rfl ?_
  have hX_3 : XI (vcp (v2 v 46 0 (v 16 0)) 17 47 0 0 6) := XI.cpy hX_2 (fun x h j => Exists.elim h (fun _ h => h))
  show WV _ _ _ 23 _ _ _ (vcp (v2 v 46 0 (v 16 0)) 17 47 0 0 6) _
  refine r_ex 7 (pc' := 35) (lo' := [some (.inr (.inr (some 46))), some (.inr (.inr (some 16)))]) (st' := [.inl 6, .inl 0, .inr (.inr (some 48)), .inl 0, .inr (.inr (some 18))]) rfl ?_
  refine r_copy2 (pc' := 38) (pc0 := 35) (len := 3) rfl (s_18 _) (s_48 _) (Or.inl rfl) (by omega) (by decide) (by decide) rfl ?_
  have hX_4 : XI (vcp (vcp (v2 v 46 0 (v 16 0)) 17 47 0 0 6) 18 48 0 0 6) := XI.cpy hX_3 (fun x h j => Exists.elim h (fun _ h => h))
  show WV _ _ _ 38 _ _ _ (vcp (vcp (v2 v 46 0 (v 16 0)) 17 47 0 0 6) 18 48 0 0 6) _
  refine r_ex 7 (pc' := 50) (lo' := [some (.inr (.inr (some 46))), some (.inr (.inr (some 16)))]) (st' := [.inl 6, .inl 0, .inr (.inr (some 49)), .inl 0, .inr (.inr (some 19))]) rfl ?_
  refine r_copy2 (pc' := 53) (pc0 := 50) (len := 3) rfl (s_19 _) (s_49 _) (Or.inl rfl) (by omega) (by decide) (by decide) rfl ?_
  have hX_5 : XI (vcp (vcp (vcp (v2 v 46 0 (v 16 0)) 17 47 0 0 6) 18 48 0 0 6) 19 49 0 0 6) := XI.cpy hX_4 (fun x h j => Exists.elim h (fun _ h => h))
  show WV _ _ _ 53 _ _ _ (vcp (vcp (vcp (v2 v 46 0 (v 16 0)) 17 47 0 0 6) 18 48 0 0 6) 19 49 0 0 6) _
  refine r_ret (rr := none) (I := .return_) (pc0 := 53) (len := 1) rfl rfl ?_
  exact hQ hX_5 

theorem e_cl_spTake46_16 {X : PX} {d b : Nat} {v : VS}  (hX : XI v)  : EvV X d 56 [.inr (.inr (some 46)), .inr (.inr (some 16))] b v none b (cl_spTake46_16 v) := EvV.of (w_cl_spTake46_16 hX  (fun _ => ⟨rfl, rfl, rfl⟩))

theorem i_cl_spTake46_16 {v : VS}  (hX : XI v)  : XI (cl_spTake46_16 v) := by
  have q : WV (0, fun _ => 0, none) 0 56 0 [some (.inr (.inr (some 46))), some (.inr (.inr (some 16)))] [] 1 v (fun _ _ _ => XI (cl_spTake46_16 v)) := w_cl_spTake46_16 (X := (0, fun _ => 0, none)) (d := 0) (b := 1) hX  (fun q => q)
  obtain ⟨_, _, _, _, _, _, _, q⟩ := q
  exact q

theorem o_cl_spTake46_16 {rk : Nat} {v : VS}  (hk : (rk < 46 ∨ 49 < rk)) : (cl_spTake46_16 v ) rk = v rk := by
  unfold cl_spTake46_16
  all_goals (show (vcp (vcp (vcp (v2 v 46 0 (v 16 0)) 17 47 0 0 6) 18 48 0 0 6) 19 49 0 0 6) rk = _)
  all_goals (rw [vcp_row (by omega), vcp_row (by omega), vcp_row (by omega), v2_row (by omega)])

def cl_spTake50_20 (v : VS)  : VS :=
  (vcp (vcp (vcp (v2 v 50 0 (v 20 0)) 21 51 0 0 6) 22 52 0 0 6) 23 53 0 0 6)
theorem w_cl_spTake50_20 {X : PX} {d b : Nat} {v : VS}  (hX : XI v)  {Q : Option PV → Nat → VS → Prop} (hQ : XI (cl_spTake50_20 v) → Q none b (cl_spTake50_20 v)) : WV X d 56 0 [some (.inr (.inr (some 50))), some (.inr (.inr (some 20)))] [] b v Q := by
  rw [cl_spTake50_20] at hQ
  refine r_ex 3 (pc' := 5) (lo' := [some (.inr (.inr (some 50))), some (.inr (.inr (some 20)))]) (st' := [.inl (v 20 0), .inr (.inr (some 50))]) rfl ?_
  have hb_1 : 0 ≤ (v 20 0) ∧ (v 20 0) ≤ 6 := hX 20 0
  refine r_puti2 (j := 0) (pc' := 8) (pc0 := 5) (len := 3) rfl (s_50 _) rfl rfl rfl (Or.inl rfl) rfl rfl ?_
  have hX_2 : XI (v2 v 50 0 (v 20 0)) := XI.put hX (show 0 ≤ (v 20 0) ∧ (v 20 0) ≤ 6 from (by first | assumption | omega | (unfold R32 at *; omega) | (unfold R64 at *; omega) | (simp only [R32, R64] at *; omega)))
  refine r_ex 7 (pc' := 20) (lo' := [some (.inr (.inr (some 50))), some (.inr (.inr (some 20)))]) (st' := [.inl 6, .inl 0, .inr (.inr (some 51)), .inl 0, .inr (.inr (some 21))]) rfl ?_
  refine r_copy2 (pc' := 23) (pc0 := 20) (len := 3) rfl (s_21 _) (s_51 _) (Or.inl rfl) (by omega) (by decide) (by decide) rfl ?_
  have hX_3 : XI (vcp (v2 v 50 0 (v 20 0)) 21 51 0 0 6) := XI.cpy hX_2 (fun x h j => Exists.elim h (fun _ h => h))
  show WV _ _ _ 23 _ _ _ (vcp (v2 v 50 0 (v 20 0)) 21 51 0 0 6) _
  refine r_ex 7 (pc' := 35) (lo' := [some (.inr (.inr (some 50))), some (.inr (.inr (some 20)))]) (st' := [.inl 6, .inl 0, .inr (.inr (some 52)), .inl 0, .inr (.inr (some 22))]) rfl ?_
  refine r_copy2 (pc' := 38) (pc0 := 35) (len := 3) rfl (s_22 _) (s_52 _) (Or.inl rfl) (by omega) (by decide) (by decide) rfl ?_
  have hX_4 : XI (vcp (vcp (v2 v 50 0 (v 20 0)) 21 51 0 0 6) 22 52 0 0 6) := XI.cpy hX_3 (fun x h j => Exists.elim h (fun _ h => h))
  show WV _ _ _ 38 _ _ _ (vcp (vcp (v2 v 50 0 (v 20 0)) 21 51 0 0 6) 22 52 0 0 6) _
  refine r_ex 7 (pc' := 50) (lo' := [some (.inr (.inr (some 50))), some (.inr (.inr (some 20)))]) (st' := [.inl 6, .inl 0, .inr (.inr (some 53)), .inl 0, .inr (.inr (some 23))]) rfl ?_
  refine r_copy2 (pc' := 53) (pc0 := 50) (len := 3) rfl (s_23 _) (s_53 _) (Or.inl rfl) (by omega) (by decide) (by decide) rfl ?_
  have hX_5 : XI (vcp (vcp (vcp (v2 v 50 0 (v 20 0)) 21 51 0 0 6) 22 52 0 0 6) 23 53 0 0 6) := XI.cpy hX_4 (fun x h j => Exists.elim h (fun _ h => h))
  show WV _ _ _ 53 _ _ _ (vcp (vcp (vcp (v2 v 50 0 (v 20 0)) 21 51 0 0 6) 22 52 0 0 6) 23 53 0 0 6) _
  refine r_ret (rr := none) (I := .return_) (pc0 := 53) (len := 1) rfl rfl ?_
  exact hQ hX_5 

theorem e_cl_spTake50_20 {X : PX} {d b : Nat} {v : VS}  (hX : XI v)  : EvV X d 56 [.inr (.inr (some 50)), .inr (.inr (some 20))] b v none b (cl_spTake50_20 v) := EvV.of (w_cl_spTake50_20 hX  (fun _ => ⟨rfl, rfl, rfl⟩))

theorem i_cl_spTake50_20 {v : VS}  (hX : XI v)  : XI (cl_spTake50_20 v) := by
  have q : WV (0, fun _ => 0, none) 0 56 0 [some (.inr (.inr (some 50))), some (.inr (.inr (some 20)))] [] 1 v (fun _ _ _ => XI (cl_spTake50_20 v)) := w_cl_spTake50_20 (X := (0, fun _ => 0, none)) (d := 0) (b := 1) hX  (fun q => q)
  obtain ⟨_, _, _, _, _, _, _, q⟩ := q
  exact q

theorem o_cl_spTake50_20 {rk : Nat} {v : VS}  (hk : (rk < 50 ∨ 53 < rk)) : (cl_spTake50_20 v ) rk = v rk := by
  unfold cl_spTake50_20
  all_goals (show (vcp (vcp (vcp (v2 v 50 0 (v 20 0)) 21 51 0 0 6) 22 52 0 0 6) 23 53 0 0 6) rk = _)
  all_goals (rw [vcp_row (by omega), vcp_row (by omega), vcp_row (by omega), v2_row (by omega)])

def cl_spTake54_24 (v : VS)  : VS :=
  (vcp (vcp (vcp (v2 v 54 0 (v 24 0)) 25 55 0 0 6) 26 56 0 0 6) 27 57 0 0 6)
theorem w_cl_spTake54_24 {X : PX} {d b : Nat} {v : VS}  (hX : XI v)  {Q : Option PV → Nat → VS → Prop} (hQ : XI (cl_spTake54_24 v) → Q none b (cl_spTake54_24 v)) : WV X d 56 0 [some (.inr (.inr (some 54))), some (.inr (.inr (some 24)))] [] b v Q := by
  rw [cl_spTake54_24] at hQ
  refine r_ex 3 (pc' := 5) (lo' := [some (.inr (.inr (some 54))), some (.inr (.inr (some 24)))]) (st' := [.inl (v 24 0), .inr (.inr (some 54))]) rfl ?_
  have hb_1 : 0 ≤ (v 24 0) ∧ (v 24 0) ≤ 6 := hX 24 0
  refine r_puti2 (j := 0) (pc' := 8) (pc0 := 5) (len := 3) rfl (s_54 _) rfl rfl rfl (Or.inl rfl) rfl rfl ?_
  have hX_2 : XI (v2 v 54 0 (v 24 0)) := XI.put hX (show 0 ≤ (v 24 0) ∧ (v 24 0) ≤ 6 from (by first | assumption | omega | (unfold R32 at *; omega) | (unfold R64 at *; omega) | (simp only [R32, R64] at *; omega)))
  refine r_ex 7 (pc' := 20) (lo' := [some (.inr (.inr (some 54))), some (.inr (.inr (some 24)))]) (st' := [.inl 6, .inl 0, .inr (.inr (some 55)), .inl 0, .inr (.inr (some 25))]) rfl ?_
  refine r_copy2 (pc' := 23) (pc0 := 20) (len := 3) rfl (s_25 _) (s_55 _) (Or.inl rfl) (by omega) (by decide) (by decide) rfl ?_
  have hX_3 : XI (vcp (v2 v 54 0 (v 24 0)) 25 55 0 0 6) := XI.cpy hX_2 (fun x h j => Exists.elim h (fun _ h => h))
  show WV _ _ _ 23 _ _ _ (vcp (v2 v 54 0 (v 24 0)) 25 55 0 0 6) _
  refine r_ex 7 (pc' := 35) (lo' := [some (.inr (.inr (some 54))), some (.inr (.inr (some 24)))]) (st' := [.inl 6, .inl 0, .inr (.inr (some 56)), .inl 0, .inr (.inr (some 26))]) rfl ?_
  refine r_copy2 (pc' := 38) (pc0 := 35) (len := 3) rfl (s_26 _) (s_56 _) (Or.inl rfl) (by omega) (by decide) (by decide) rfl ?_
  have hX_4 : XI (vcp (vcp (v2 v 54 0 (v 24 0)) 25 55 0 0 6) 26 56 0 0 6) := XI.cpy hX_3 (fun x h j => Exists.elim h (fun _ h => h))
  show WV _ _ _ 38 _ _ _ (vcp (vcp (v2 v 54 0 (v 24 0)) 25 55 0 0 6) 26 56 0 0 6) _
  refine r_ex 7 (pc' := 50) (lo' := [some (.inr (.inr (some 54))), some (.inr (.inr (some 24)))]) (st' := [.inl 6, .inl 0, .inr (.inr (some 57)), .inl 0, .inr (.inr (some 27))]) rfl ?_
  refine r_copy2 (pc' := 53) (pc0 := 50) (len := 3) rfl (s_27 _) (s_57 _) (Or.inl rfl) (by omega) (by decide) (by decide) rfl ?_
  have hX_5 : XI (vcp (vcp (vcp (v2 v 54 0 (v 24 0)) 25 55 0 0 6) 26 56 0 0 6) 27 57 0 0 6) := XI.cpy hX_4 (fun x h j => Exists.elim h (fun _ h => h))
  show WV _ _ _ 53 _ _ _ (vcp (vcp (vcp (v2 v 54 0 (v 24 0)) 25 55 0 0 6) 26 56 0 0 6) 27 57 0 0 6) _
  refine r_ret (rr := none) (I := .return_) (pc0 := 53) (len := 1) rfl rfl ?_
  exact hQ hX_5 

theorem e_cl_spTake54_24 {X : PX} {d b : Nat} {v : VS}  (hX : XI v)  : EvV X d 56 [.inr (.inr (some 54)), .inr (.inr (some 24))] b v none b (cl_spTake54_24 v) := EvV.of (w_cl_spTake54_24 hX  (fun _ => ⟨rfl, rfl, rfl⟩))

theorem i_cl_spTake54_24 {v : VS}  (hX : XI v)  : XI (cl_spTake54_24 v) := by
  have q : WV (0, fun _ => 0, none) 0 56 0 [some (.inr (.inr (some 54))), some (.inr (.inr (some 24)))] [] 1 v (fun _ _ _ => XI (cl_spTake54_24 v)) := w_cl_spTake54_24 (X := (0, fun _ => 0, none)) (d := 0) (b := 1) hX  (fun q => q)
  obtain ⟨_, _, _, _, _, _, _, q⟩ := q
  exact q

theorem o_cl_spTake54_24 {rk : Nat} {v : VS}  (hk : (rk < 54 ∨ 57 < rk)) : (cl_spTake54_24 v ) rk = v rk := by
  unfold cl_spTake54_24
  all_goals (show (vcp (vcp (vcp (v2 v 54 0 (v 24 0)) 25 55 0 0 6) 26 56 0 0 6) 27 57 0 0 6) rk = _)
  all_goals (rw [vcp_row (by omega), vcp_row (by omega), vcp_row (by omega), v2_row (by omega)])

def cl_spTake58_28 (v : VS)  : VS :=
  (vcp (vcp (vcp (v2 v 58 0 (v 28 0)) 29 59 0 0 6) 30 60 0 0 6) 31 61 0 0 6)
theorem w_cl_spTake58_28 {X : PX} {d b : Nat} {v : VS}  (hX : XI v)  {Q : Option PV → Nat → VS → Prop} (hQ : XI (cl_spTake58_28 v) → Q none b (cl_spTake58_28 v)) : WV X d 56 0 [some (.inr (.inr (some 58))), some (.inr (.inr (some 28)))] [] b v Q := by
  rw [cl_spTake58_28] at hQ
  refine r_ex 3 (pc' := 5) (lo' := [some (.inr (.inr (some 58))), some (.inr (.inr (some 28)))]) (st' := [.inl (v 28 0), .inr (.inr (some 58))]) rfl ?_
  have hb_1 : 0 ≤ (v 28 0) ∧ (v 28 0) ≤ 6 := hX 28 0
  refine r_puti2 (j := 0) (pc' := 8) (pc0 := 5) (len := 3) rfl (s_58 _) rfl rfl rfl (Or.inl rfl) rfl rfl ?_
  have hX_2 : XI (v2 v 58 0 (v 28 0)) := XI.put hX (show 0 ≤ (v 28 0) ∧ (v 28 0) ≤ 6 from (by first | assumption | omega | (unfold R32 at *; omega) | (unfold R64 at *; omega) | (simp only [R32, R64] at *; omega)))
  refine r_ex 7 (pc' := 20) (lo' := [some (.inr (.inr (some 58))), some (.inr (.inr (some 28)))]) (st' := [.inl 6, .inl 0, .inr (.inr (some 59)), .inl 0, .inr (.inr (some 29))]) rfl ?_
  refine r_copy2 (pc' := 23) (pc0 := 20) (len := 3) rfl (s_29 _) (s_59 _) (Or.inl rfl) (by omega) (by decide) (by decide) rfl ?_
  have hX_3 : XI (vcp (v2 v 58 0 (v 28 0)) 29 59 0 0 6) := XI.cpy hX_2 (fun x h j => Exists.elim h (fun _ h => h))
  show WV _ _ _ 23 _ _ _ (vcp (v2 v 58 0 (v 28 0)) 29 59 0 0 6) _
  refine r_ex 7 (pc' := 35) (lo' := [some (.inr (.inr (some 58))), some (.inr (.inr (some 28)))]) (st' := [.inl 6, .inl 0, .inr (.inr (some 60)), .inl 0, .inr (.inr (some 30))]) rfl ?_
  refine r_copy2 (pc' := 38) (pc0 := 35) (len := 3) rfl (s_30 _) (s_60 _) (Or.inl rfl) (by omega) (by decide) (by decide) rfl ?_
  have hX_4 : XI (vcp (vcp (v2 v 58 0 (v 28 0)) 29 59 0 0 6) 30 60 0 0 6) := XI.cpy hX_3 (fun x h j => Exists.elim h (fun _ h => h))
  show WV _ _ _ 38 _ _ _ (vcp (vcp (v2 v 58 0 (v 28 0)) 29 59 0 0 6) 30 60 0 0 6) _
  refine r_ex 7 (pc' := 50) (lo' := [some (.inr (.inr (some 58))), some (.inr (.inr (some 28)))]) (st' := [.inl 6, .inl 0, .inr (.inr (some 61)), .inl 0, .inr (.inr (some 31))]) rfl ?_
  refine r_copy2 (pc' := 53) (pc0 := 50) (len := 3) rfl (s_31 _) (s_61 _) (Or.inl rfl) (by omega) (by decide) (by decide) rfl ?_
  have hX_5 : XI (vcp (vcp (vcp (v2 v 58 0 (v 28 0)) 29 59 0 0 6) 30 60 0 0 6) 31 61 0 0 6) := XI.cpy hX_4 (fun x h j => Exists.elim h (fun _ h => h))
  show WV _ _ _ 53 _ _ _ (vcp (vcp (vcp (v2 v 58 0 (v 28 0)) 29 59 0 0 6) 30 60 0 0 6) 31 61 0 0 6) _
  refine r_ret (rr := none) (I := .return_) (pc0 := 53) (len := 1) rfl rfl ?_
  exact hQ hX_5 

theorem e_cl_spTake58_28 {X : PX} {d b : Nat} {v : VS}  (hX : XI v)  : EvV X d 56 [.inr (.inr (some 58)), .inr (.inr (some 28))] b v none b (cl_spTake58_28 v) := EvV.of (w_cl_spTake58_28 hX  (fun _ => ⟨rfl, rfl, rfl⟩))

theorem i_cl_spTake58_28 {v : VS}  (hX : XI v)  : XI (cl_spTake58_28 v) := by
  have q : WV (0, fun _ => 0, none) 0 56 0 [some (.inr (.inr (some 58))), some (.inr (.inr (some 28)))] [] 1 v (fun _ _ _ => XI (cl_spTake58_28 v)) := w_cl_spTake58_28 (X := (0, fun _ => 0, none)) (d := 0) (b := 1) hX  (fun q => q)
  obtain ⟨_, _, _, _, _, _, _, q⟩ := q
  exact q

theorem o_cl_spTake58_28 {rk : Nat} {v : VS}  (hk : (rk < 58 ∨ 61 < rk)) : (cl_spTake58_28 v ) rk = v rk := by
  unfold cl_spTake58_28
  all_goals (show (vcp (vcp (vcp (v2 v 58 0 (v 28 0)) 29 59 0 0 6) 30 60 0 0 6) 31 61 0 0 6) rk = _)
  all_goals (rw [vcp_row (by omega), vcp_row (by omega), vcp_row (by omega), v2_row (by omega)])

def cl_copy33_3 (v : VS)  : VS :=
  (cl_spTake58_28 (cl_spTake54_24 (cl_spTake50_20 (cl_spTake46_16 (cl_stTake33_3 (cl_eaTake33_3 (vcp (vcp (vcp (v2 (v2 (v2 (v2 (v2 (v2 v 33 0 (v 3 0)) 33 1 (v 3 1)) 33 2 (v 3 2)) 33 3 (v 3 3)) 33 4 (v 3 4)) 33 5 (v 3 5)) 4 34 0 0 9) 5 35 0 0 9) 6 36 0 0 9)))))))
theorem w_cl_copy33_3 {X : PX} {d b : Nat} {v : VS}  (hX : XI v)  {Q : Option PV → Nat → VS → Prop} (hQ : XI (cl_copy33_3 v) → Q none b (cl_copy33_3 v)) : WV X (d + 1) 53 0 [some (.inr (.inr (some 33))), some (.inr (.inr (some 3)))] [] b v Q := by
  rw [cl_copy33_3] at hQ
  refine r_ex 3 (pc' := 5) (lo' := [some (.inr (.inr (some 33))), some (.inr (.inr (some 3)))]) (st' := [.inl (v 3 0), .inr (.inr (some 33))]) rfl ?_
  have hb_1 : 0 ≤ (v 3 0) ∧ (v 3 0) ≤ 9 := hX 3 0
  refine r_puti2 (j := 0) (pc' := 8) (pc0 := 5) (len := 3) rfl (s_33 _) rfl rfl rfl (Or.inl rfl) rfl rfl ?_
  have hX_2 : XI (v2 v 33 0 (v 3 0)) := XI.put hX (show 0 ≤ (v 3 0) ∧ (v 3 0) ≤ 9 from (by first | assumption | omega | (unfold R32 at *; omega) | (unfold R64 at *; omega) | (simp only [R32, R64] at *; omega)))
  refine r_ex 3 (pc' := 13) (lo' := [some (.inr (.inr (some 33))), some (.inr (.inr (some 3)))]) (st' := [.inl (v 3 1), .inr (.inr (some 33))]) rfl ?_
  have hb_3 : 0 ≤ (v 3 1) ∧ (v 3 1) ≤ 300 := hX_2 3 1
  refine r_puti2 (j := 1) (pc' := 16) (pc0 := 13) (len := 3) rfl (s_33 _) rfl rfl rfl (Or.inl rfl) rfl rfl ?_
  have hX_4 : XI (v2 (v2 v 33 0 (v 3 0)) 33 1 (v 3 1)) := XI.put hX_2 (show 0 ≤ (v 3 1) ∧ (v 3 1) ≤ 300 from (by first | assumption | omega | (unfold R32 at *; omega) | (unfold R64 at *; omega) | (simp only [R32, R64] at *; omega)))
  refine r_ex 3 (pc' := 21) (lo' := [some (.inr (.inr (some 33))), some (.inr (.inr (some 3)))]) (st' := [.inl (v 3 2), .inr (.inr (some 33))]) rfl ?_
  have hb_5 : 0 ≤ (v 3 2) ∧ (v 3 2) ≤ 2001 := hX_4 3 2
  refine r_puti2 (j := 2) (pc' := 24) (pc0 := 21) (len := 3) rfl (s_33 _) rfl rfl rfl (Or.inl rfl) rfl rfl ?_
  have hX_6 : XI (v2 (v2 (v2 v 33 0 (v 3 0)) 33 1 (v 3 1)) 33 2 (v 3 2)) := XI.put hX_4 (show 0 ≤ (v 3 2) ∧ (v 3 2) ≤ 2001 from (by first | assumption | omega | (unfold R32 at *; omega) | (unfold R64 at *; omega) | (simp only [R32, R64] at *; omega)))
  refine r_ex 3 (pc' := 29) (lo' := [some (.inr (.inr (some 33))), some (.inr (.inr (some 3)))]) (st' := [.inl (v 3 3), .inr (.inr (some 33))]) rfl ?_
  have hb_7 : 0 ≤ (v 3 3) ∧ (v 3 3) ≤ 9 := hX_6 3 3
  refine r_puti2 (j := 3) (pc' := 32) (pc0 := 29) (len := 3) rfl (s_33 _) rfl rfl rfl (Or.inl rfl) rfl rfl ?_
  have hX_8 : XI (v2 (v2 (v2 (v2 v 33 0 (v 3 0)) 33 1 (v 3 1)) 33 2 (v 3 2)) 33 3 (v 3 3)) := XI.put hX_6 (show 0 ≤ (v 3 3) ∧ (v 3 3) ≤ 9 from (by first | assumption | omega | (unfold R32 at *; omega) | (unfold R64 at *; omega) | (simp only [R32, R64] at *; omega)))
  refine r_ex 3 (pc' := 37) (lo' := [some (.inr (.inr (some 33))), some (.inr (.inr (some 3)))]) (st' := [.inl (v 3 4), .inr (.inr (some 33))]) rfl ?_
  have hb_9 : 0 ≤ (v 3 4) ∧ (v 3 4) ≤ 511 := hX_8 3 4
  refine r_puti2 (j := 4) (pc' := 40) (pc0 := 37) (len := 3) rfl (s_33 _) rfl rfl rfl (Or.inl rfl) rfl rfl ?_
  have hX_10 : XI (v2 (v2 (v2 (v2 (v2 v 33 0 (v 3 0)) 33 1 (v 3 1)) 33 2 (v 3 2)) 33 3 (v 3 3)) 33 4 (v 3 4)) := XI.put hX_8 (show 0 ≤ (v 3 4) ∧ (v 3 4) ≤ 511 from (by first | assumption | omega | (unfold R32 at *; omega) | (unfold R64 at *; omega) | (simp only [R32, R64] at *; omega)))
  refine r_ex 3 (pc' := 45) (lo' := [some (.inr (.inr (some 33))), some (.inr (.inr (some 3)))]) (st' := [.inl (v 3 5), .inr (.inr (some 33))]) rfl ?_
  have hb_11 : 0 ≤ (v 3 5) ∧ (v 3 5) ≤ 4095 := hX_10 3 5
  refine r_puti2 (j := 5) (pc' := 48) (pc0 := 45) (len := 3) rfl (s_33 _) rfl rfl rfl (Or.inl rfl) rfl rfl ?_
  have hX_12 : XI (v2 (v2 (v2 (v2 (v2 (v2 v 33 0 (v 3 0)) 33 1 (v 3 1)) 33 2 (v 3 2)) 33 3 (v 3 3)) 33 4 (v 3 4)) 33 5 (v 3 5)) := XI.put hX_10 (show 0 ≤ (v 3 5) ∧ (v 3 5) ≤ 4095 from (by first | assumption | omega | (unfold R32 at *; omega) | (unfold R64 at *; omega) | (simp only [R32, R64] at *; omega)))
  refine r_ex 7 (pc' := 60) (lo' := [some (.inr (.inr (some 33))), some (.inr (.inr (some 3)))]) (st' := [.inl 9, .inl 0, .inr (.inr (some 34)), .inl 0, .inr (.inr (some 4))]) rfl ?_
  refine r_copy2 (pc' := 63) (pc0 := 60) (len := 3) rfl (s_4 _) (s_34 _) (Or.inl rfl) (by omega) (by decide) (by decide) rfl ?_
  have hX_13 : XI (vcp (v2 (v2 (v2 (v2 (v2 (v2 v 33 0 (v 3 0)) 33 1 (v 3 1)) 33 2 (v 3 2)) 33 3 (v 3 3)) 33 4 (v 3 4)) 33 5 (v 3 5)) 4 34 0 0 9) := XI.cpy hX_12 (fun x h j => Exists.elim h (fun _ h => h))
  show WV _ _ _ 63 _ _ _ (vcp (v2 (v2 (v2 (v2 (v2 (v2 v 33 0 (v 3 0)) 33 1 (v 3 1)) 33 2 (v 3 2)) 33 3 (v 3 3)) 33 4 (v 3 4)) 33 5 (v 3 5)) 4 34 0 0 9) _
  refine r_ex 7 (pc' := 75) (lo' := [some (.inr (.inr (some 33))), some (.inr (.inr (some 3)))]) (st' := [.inl 9, .inl 0, .inr (.inr (some 35)), .inl 0, .inr (.inr (some 5))]) rfl ?_
  refine r_copy2 (pc' := 78) (pc0 := 75) (len := 3) rfl (s_5 _) (s_35 _) (Or.inl rfl) (by omega) (by decide) (by decide) rfl ?_
  have hX_14 : XI (vcp (vcp (v2 (v2 (v2 (v2 (v2 (v2 v 33 0 (v 3 0)) 33 1 (v 3 1)) 33 2 (v 3 2)) 33 3 (v 3 3)) 33 4 (v 3 4)) 33 5 (v 3 5)) 4 34 0 0 9) 5 35 0 0 9) := XI.cpy hX_13 (fun x h j => Exists.elim h (fun _ h => h))
  show WV _ _ _ 78 _ _ _ (vcp (vcp (v2 (v2 (v2 (v2 (v2 (v2 v 33 0 (v 3 0)) 33 1 (v 3 1)) 33 2 (v 3 2)) 33 3 (v 3 3)) 33 4 (v 3 4)) 33 5 (v 3 5)) 4 34 0 0 9) 5 35 0 0 9) _
  refine r_ex 7 (pc' := 90) (lo' := [some (.inr (.inr (some 33))), some (.inr (.inr (some 3)))]) (st' := [.inl 9, .inl 0, .inr (.inr (some 36)), .inl 0, .inr (.inr (some 6))]) rfl ?_
  refine r_copy2 (pc' := 93) (pc0 := 90) (len := 3) rfl (s_6 _) (s_36 _) (Or.inl rfl) (by omega) (by decide) (by decide) rfl ?_
  have hX_15 : XI (vcp (vcp (vcp (v2 (v2 (v2 (v2 (v2 (v2 v 33 0 (v 3 0)) 33 1 (v 3 1)) 33 2 (v 3 2)) 33 3 (v 3 3)) 33 4 (v 3 4)) 33 5 (v 3 5)) 4 34 0 0 9) 5 35 0 0 9) 6 36 0 0 9) := XI.cpy hX_14 (fun x h j => Exists.elim h (fun _ h => h))
  show WV _ _ _ 93 _ _ _ (vcp (vcp (vcp (v2 (v2 (v2 (v2 (v2 (v2 v 33 0 (v 3 0)) 33 1 (v 3 1)) 33 2 (v 3 2)) 33 3 (v 3 3)) 33 4 (v 3 4)) 33 5 (v 3 5)) 4 34 0 0 9) 5 35 0 0 9) 6 36 0 0 9) _
  refine r_ex 4 (pc' := 101) (lo' := [some (.inr (.inr (some 33))), some (.inr (.inr (some 3)))]) (st' := [.inr (.inr (some 7)), .inr (.inr (some 37))]) rfl ?_
  refine r_call (m := 54) (args := [.inr (.inr (some 37)), .inr (.inr (some 7))]) (n' := 53) (pc' := 104) (lo' := [some (.inr (.inr (some 33))), some (.inr (.inr (some 3)))]) (st' := []) (I := .invokevirtual 54) (pc0 := 101) (len := 3) rfl rfl rfl (e_cl_eaTake33_3 hX_15) ?_
  show WV _ _ _ 104 _ [] _ (cl_eaTake33_3 (vcp (vcp (vcp (v2 (v2 (v2 (v2 (v2 (v2 v 33 0 (v 3 0)) 33 1 (v 3 1)) 33 2 (v 3 2)) 33 3 (v 3 3)) 33 4 (v 3 4)) 33 5 (v 3 5)) 4 34 0 0 9) 5 35 0 0 9) 6 36 0 0 9)) _
  have hX_16 : XI (cl_eaTake33_3 (vcp (vcp (vcp (v2 (v2 (v2 (v2 (v2 (v2 v 33 0 (v 3 0)) 33 1 (v 3 1)) 33 2 (v 3 2)) 33 3 (v 3 3)) 33 4 (v 3 4)) 33 5 (v 3 5)) 4 34 0 0 9) 5 35 0 0 9) 6 36 0 0 9)) := i_cl_eaTake33_3 (v := (vcp (vcp (vcp (v2 (v2 (v2 (v2 (v2 (v2 v 33 0 (v 3 0)) 33 1 (v 3 1)) 33 2 (v 3 2)) 33 3 (v 3 3)) 33 4 (v 3 4)) 33 5 (v 3 5)) 4 34 0 0 9) 5 35 0 0 9) 6 36 0 0 9)) hX_15
  refine r_ex 4 (pc' := 112) (lo' := [some (.inr (.inr (some 33))), some (.inr (.inr (some 3)))]) (st' := [.inr (.inr (some 12)), .inr (.inr (some 42))]) rfl ?_
  refine r_call (m := 55) (args := [.inr (.inr (some 42)), .inr (.inr (some 12))]) (n' := 53) (pc' := 115) (lo' := [some (.inr (.inr (some 33))), some (.inr (.inr (some 3)))]) (st' := []) (I := .invokevirtual 55) (pc0 := 112) (len := 3) rfl rfl rfl (e_cl_stTake33_3 hX_16) ?_
  show WV _ _ _ 115 _ [] _ (cl_stTake33_3 (cl_eaTake33_3 (vcp (vcp (vcp (v2 (v2 (v2 (v2 (v2 (v2 v 33 0 (v 3 0)) 33 1 (v 3 1)) 33 2 (v 3 2)) 33 3 (v 3 3)) 33 4 (v 3 4)) 33 5 (v 3 5)) 4 34 0 0 9) 5 35 0 0 9) 6 36 0 0 9))) _
  have hX_17 : XI (cl_stTake33_3 (cl_eaTake33_3 (vcp (vcp (vcp (v2 (v2 (v2 (v2 (v2 (v2 v 33 0 (v 3 0)) 33 1 (v 3 1)) 33 2 (v 3 2)) 33 3 (v 3 3)) 33 4 (v 3 4)) 33 5 (v 3 5)) 4 34 0 0 9) 5 35 0 0 9) 6 36 0 0 9))) := i_cl_stTake33_3 (v := (cl_eaTake33_3 (vcp (vcp (vcp (v2 (v2 (v2 (v2 (v2 (v2 v 33 0 (v 3 0)) 33 1 (v 3 1)) 33 2 (v 3 2)) 33 3 (v 3 3)) 33 4 (v 3 4)) 33 5 (v 3 5)) 4 34 0 0 9) 5 35 0 0 9) 6 36 0 0 9))) hX_16
  refine r_ex 4 (pc' := 123) (lo' := [some (.inr (.inr (some 33))), some (.inr (.inr (some 3)))]) (st' := [.inr (.inr (some 16)), .inr (.inr (some 46))]) rfl ?_
  refine r_call (m := 56) (args := [.inr (.inr (some 46)), .inr (.inr (some 16))]) (n' := 53) (pc' := 126) (lo' := [some (.inr (.inr (some 33))), some (.inr (.inr (some 3)))]) (st' := []) (I := .invokevirtual 56) (pc0 := 123) (len := 3) rfl rfl rfl (e_cl_spTake46_16 hX_17) ?_
  show WV _ _ _ 126 _ [] _ (cl_spTake46_16 (cl_stTake33_3 (cl_eaTake33_3 (vcp (vcp (vcp (v2 (v2 (v2 (v2 (v2 (v2 v 33 0 (v 3 0)) 33 1 (v 3 1)) 33 2 (v 3 2)) 33 3 (v 3 3)) 33 4 (v 3 4)) 33 5 (v 3 5)) 4 34 0 0 9) 5 35 0 0 9) 6 36 0 0 9)))) _
  have hX_18 : XI (cl_spTake46_16 (cl_stTake33_3 (cl_eaTake33_3 (vcp (vcp (vcp (v2 (v2 (v2 (v2 (v2 (v2 v 33 0 (v 3 0)) 33 1 (v 3 1)) 33 2 (v 3 2)) 33 3 (v 3 3)) 33 4 (v 3 4)) 33 5 (v 3 5)) 4 34 0 0 9) 5 35 0 0 9) 6 36 0 0 9)))) := i_cl_spTake46_16 (v := (cl_stTake33_3 (cl_eaTake33_3 (vcp (vcp (vcp (v2 (v2 (v2 (v2 (v2 (v2 v 33 0 (v 3 0)) 33 1 (v 3 1)) 33 2 (v 3 2)) 33 3 (v 3 3)) 33 4 (v 3 4)) 33 5 (v 3 5)) 4 34 0 0 9) 5 35 0 0 9) 6 36 0 0 9)))) hX_17
  refine r_ex 4 (pc' := 134) (lo' := [some (.inr (.inr (some 33))), some (.inr (.inr (some 3)))]) (st' := [.inr (.inr (some 20)), .inr (.inr (some 50))]) rfl ?_
  refine r_call (m := 56) (args := [.inr (.inr (some 50)), .inr (.inr (some 20))]) (n' := 53) (pc' := 137) (lo' := [some (.inr (.inr (some 33))), some (.inr (.inr (some 3)))]) (st' := []) (I := .invokevirtual 56) (pc0 := 134) (len := 3) rfl rfl rfl (e_cl_spTake50_20 hX_18) ?_
  show WV _ _ _ 137 _ [] _ (cl_spTake50_20 (cl_spTake46_16 (cl_stTake33_3 (cl_eaTake33_3 (vcp (vcp (vcp (v2 (v2 (v2 (v2 (v2 (v2 v 33 0 (v 3 0)) 33 1 (v 3 1)) 33 2 (v 3 2)) 33 3 (v 3 3)) 33 4 (v 3 4)) 33 5 (v 3 5)) 4 34 0 0 9) 5 35 0 0 9) 6 36 0 0 9))))) _
  have hX_19 : XI (cl_spTake50_20 (cl_spTake46_16 (cl_stTake33_3 (cl_eaTake33_3 (vcp (vcp (vcp (v2 (v2 (v2 (v2 (v2 (v2 v 33 0 (v 3 0)) 33 1 (v 3 1)) 33 2 (v 3 2)) 33 3 (v 3 3)) 33 4 (v 3 4)) 33 5 (v 3 5)) 4 34 0 0 9) 5 35 0 0 9) 6 36 0 0 9))))) := i_cl_spTake50_20 (v := (cl_spTake46_16 (cl_stTake33_3 (cl_eaTake33_3 (vcp (vcp (vcp (v2 (v2 (v2 (v2 (v2 (v2 v 33 0 (v 3 0)) 33 1 (v 3 1)) 33 2 (v 3 2)) 33 3 (v 3 3)) 33 4 (v 3 4)) 33 5 (v 3 5)) 4 34 0 0 9) 5 35 0 0 9) 6 36 0 0 9))))) hX_18
  refine r_ex 4 (pc' := 145) (lo' := [some (.inr (.inr (some 33))), some (.inr (.inr (some 3)))]) (st' := [.inr (.inr (some 24)), .inr (.inr (some 54))]) rfl ?_
  refine r_call (m := 56) (args := [.inr (.inr (some 54)), .inr (.inr (some 24))]) (n' := 53) (pc' := 148) (lo' := [some (.inr (.inr (some 33))), some (.inr (.inr (some 3)))]) (st' := []) (I := .invokevirtual 56) (pc0 := 145) (len := 3) rfl rfl rfl (e_cl_spTake54_24 hX_19) ?_
  show WV _ _ _ 148 _ [] _ (cl_spTake54_24 (cl_spTake50_20 (cl_spTake46_16 (cl_stTake33_3 (cl_eaTake33_3 (vcp (vcp (vcp (v2 (v2 (v2 (v2 (v2 (v2 v 33 0 (v 3 0)) 33 1 (v 3 1)) 33 2 (v 3 2)) 33 3 (v 3 3)) 33 4 (v 3 4)) 33 5 (v 3 5)) 4 34 0 0 9) 5 35 0 0 9) 6 36 0 0 9)))))) _
  have hX_20 : XI (cl_spTake54_24 (cl_spTake50_20 (cl_spTake46_16 (cl_stTake33_3 (cl_eaTake33_3 (vcp (vcp (vcp (v2 (v2 (v2 (v2 (v2 (v2 v 33 0 (v 3 0)) 33 1 (v 3 1)) 33 2 (v 3 2)) 33 3 (v 3 3)) 33 4 (v 3 4)) 33 5 (v 3 5)) 4 34 0 0 9) 5 35 0 0 9) 6 36 0 0 9)))))) := i_cl_spTake54_24 (v := (cl_spTake50_20 (cl_spTake46_16 (cl_stTake33_3 (cl_eaTake33_3 (vcp (vcp (vcp (v2 (v2 (v2 (v2 (v2 (v2 v 33 0 (v 3 0)) 33 1 (v 3 1)) 33 2 (v 3 2)) 33 3 (v 3 3)) 33 4 (v 3 4)) 33 5 (v 3 5)) 4 34 0 0 9) 5 35 0 0 9) 6 36 0 0 9)))))) hX_19
  refine r_ex 4 (pc' := 156) (lo' := [some (.inr (.inr (some 33))), some (.inr (.inr (some 3)))]) (st' := [.inr (.inr (some 28)), .inr (.inr (some 58))]) rfl ?_
  refine r_call (m := 56) (args := [.inr (.inr (some 58)), .inr (.inr (some 28))]) (n' := 53) (pc' := 159) (lo' := [some (.inr (.inr (some 33))), some (.inr (.inr (some 3)))]) (st' := []) (I := .invokevirtual 56) (pc0 := 156) (len := 3) rfl rfl rfl (e_cl_spTake58_28 hX_20) ?_
  show WV _ _ _ 159 _ [] _ (cl_spTake58_28 (cl_spTake54_24 (cl_spTake50_20 (cl_spTake46_16 (cl_stTake33_3 (cl_eaTake33_3 (vcp (vcp (vcp (v2 (v2 (v2 (v2 (v2 (v2 v 33 0 (v 3 0)) 33 1 (v 3 1)) 33 2 (v 3 2)) 33 3 (v 3 3)) 33 4 (v 3 4)) 33 5 (v 3 5)) 4 34 0 0 9) 5 35 0 0 9) 6 36 0 0 9))))))) _
  have hX_21 : XI (cl_spTake58_28 (cl_spTake54_24 (cl_spTake50_20 (cl_spTake46_16 (cl_stTake33_3 (cl_eaTake33_3 (vcp (vcp (vcp (v2 (v2 (v2 (v2 (v2 (v2 v 33 0 (v 3 0)) 33 1 (v 3 1)) 33 2 (v 3 2)) 33 3 (v 3 3)) 33 4 (v 3 4)) 33 5 (v 3 5)) 4 34 0 0 9) 5 35 0 0 9) 6 36 0 0 9))))))) := i_cl_spTake58_28 (v := (cl_spTake54_24 (cl_spTake50_20 (cl_spTake46_16 (cl_stTake33_3 (cl_eaTake33_3 (vcp (vcp (vcp (v2 (v2 (v2 (v2 (v2 (v2 v 33 0 (v 3 0)) 33 1 (v 3 1)) 33 2 (v 3 2)) 33 3 (v 3 3)) 33 4 (v 3 4)) 33 5 (v 3 5)) 4 34 0 0 9) 5 35 0 0 9) 6 36 0 0 9))))))) hX_20
  refine r_ret (rr := none) (I := .return_) (pc0 := 159) (len := 1) rfl rfl ?_
  exact hQ hX_21 

theorem e_cl_copy33_3 {X : PX} {d b : Nat} {v : VS}  (hX : XI v)  : EvV X (d + 1) 53 [.inr (.inr (some 33)), .inr (.inr (some 3))] b v none b (cl_copy33_3 v) := EvV.of (w_cl_copy33_3 hX  (fun _ => ⟨rfl, rfl, rfl⟩))

theorem i_cl_copy33_3 {v : VS}  (hX : XI v)  : XI (cl_copy33_3 v) := by
  have q : WV (0, fun _ => 0, none) (0 + 1) 53 0 [some (.inr (.inr (some 33))), some (.inr (.inr (some 3)))] [] 1 v (fun _ _ _ => XI (cl_copy33_3 v)) := w_cl_copy33_3 (X := (0, fun _ => 0, none)) (d := 0) (b := 1) hX  (fun q => q)
  obtain ⟨_, _, _, _, _, _, _, q⟩ := q
  exact q

theorem o_cl_copy33_3 {rk : Nat} {v : VS}  (hk : (rk < 33 ∨ 61 < rk)) : (cl_copy33_3 v ) rk = v rk := by
  unfold cl_copy33_3
  all_goals (show (cl_spTake58_28 (cl_spTake54_24 (cl_spTake50_20 (cl_spTake46_16 (cl_stTake33_3 (cl_eaTake33_3 (vcp (vcp (vcp (v2 (v2 (v2 (v2 (v2 (v2 v 33 0 (v 3 0)) 33 1 (v 3 1)) 33 2 (v 3 2)) 33 3 (v 3 3)) 33 4 (v 3 4)) 33 5 (v 3 5)) 4 34 0 0 9) 5 35 0 0 9) 6 36 0 0 9))))))) rk = _)
  all_goals (rw [o_cl_spTake58_28 (by omega), o_cl_spTake54_24 (by omega), o_cl_spTake50_20 (by omega), o_cl_spTake46_16 (by omega), o_cl_stTake33_3 (by omega), o_cl_eaTake33_3 (by omega), vcp_row (by omega), vcp_row (by omega), vcp_row (by omega), v2_row (by omega), v2_row (by omega), v2_row (by omega), v2_row (by omega), v2_row (by omega), v2_row (by omega)])

def cl_eaTake33_116 (v : VS)  : VS :=
  (vcp (vcp (vcp (vcp (v2 v 37 0 (v 120 0)) 121 38 0 0 12) 122 39 0 0 12) 123 40 0 0 12) 124 41 0 0 12)
theorem w_cl_eaTake33_116 {X : PX} {d b : Nat} {v : VS}  (hX : XI v)  {Q : Option PV → Nat → VS → Prop} (hQ : XI (cl_eaTake33_116 v) → Q none b (cl_eaTake33_116 v)) : WV X d 54 0 [some (.inr (.inr (some 37))), some (.inr (.inr (some 120)))] [] b v Q := by
  rw [cl_eaTake33_116] at hQ
  refine r_ex 3 (pc' := 5) (lo' := [some (.inr (.inr (some 37))), some (.inr (.inr (some 120)))]) (st' := [.inl (v 120 0), .inr (.inr (some 37))]) rfl ?_
  have hb_1 : 0 ≤ (v 120 0) ∧ (v 120 0) ≤ 12 := hX 120 0
  refine r_puti2 (j := 0) (pc' := 8) (pc0 := 5) (len := 3) rfl (s_37 _) rfl rfl rfl (Or.inl rfl) rfl rfl ?_
  have hX_2 : XI (v2 v 37 0 (v 120 0)) := XI.put hX (show 0 ≤ (v 120 0) ∧ (v 120 0) ≤ 12 from (by first | assumption | omega | (unfold R32 at *; omega) | (unfold R64 at *; omega) | (simp only [R32, R64] at *; omega)))
  refine r_ex 7 (pc' := 20) (lo' := [some (.inr (.inr (some 37))), some (.inr (.inr (some 120)))]) (st' := [.inl 12, .inl 0, .inr (.inr (some 38)), .inl 0, .inr (.inr (some 121))]) rfl ?_
  refine r_copy2 (pc' := 23) (pc0 := 20) (len := 3) rfl (s_121 _) (s_38 _) (Or.inl rfl) (by omega) (by decide) (by decide) rfl ?_
  have hX_3 : XI (vcp (v2 v 37 0 (v 120 0)) 121 38 0 0 12) := XI.cpy hX_2 (fun x h j => Exists.elim h (fun _ h => h))
  show WV _ _ _ 23 _ _ _ (vcp (v2 v 37 0 (v 120 0)) 121 38 0 0 12) _
  refine r_ex 7 (pc' := 35) (lo' := [some (.inr (.inr (some 37))), some (.inr (.inr (some 120)))]) (st' := [.inl 12, .inl 0, .inr (.inr (some 39)), .inl 0, .inr (.inr (some 122))]) rfl ?_
  refine r_copy2 (pc' := 38) (pc0 := 35) (len := 3) rfl (s_122 _) (s_39 _) (Or.inl rfl) (by omega) (by decide) (by decide) rfl ?_
  have hX_4 : XI (vcp (vcp (v2 v 37 0 (v 120 0)) 121 38 0 0 12) 122 39 0 0 12) := XI.cpy hX_3 (fun x h j => Exists.elim h (fun _ h => h))
  show WV _ _ _ 38 _ _ _ (vcp (vcp (v2 v 37 0 (v 120 0)) 121 38 0 0 12) 122 39 0 0 12) _
  refine r_ex 7 (pc' := 50) (lo' := [some (.inr (.inr (some 37))), some (.inr (.inr (some 120)))]) (st' := [.inl 12, .inl 0, .inr (.inr (some 40)), .inl 0, .inr (.inr (some 123))]) rfl ?_
  refine r_copy2 (pc' := 53) (pc0 := 50) (len := 3) rfl (s_123 _) (s_40 _) (Or.inl rfl) (by omega) (by decide) (by decide) rfl ?_
  have hX_5 : XI (vcp (vcp (vcp (v2 v 37 0 (v 120 0)) 121 38 0 0 12) 122 39 0 0 12) 123 40 0 0 12) := XI.cpy hX_4 (fun x h j => Exists.elim h (fun _ h => h))
  show WV _ _ _ 53 _ _ _ (vcp (vcp (vcp (v2 v 37 0 (v 120 0)) 121 38 0 0 12) 122 39 0 0 12) 123 40 0 0 12) _
  refine r_ex 7 (pc' := 65) (lo' := [some (.inr (.inr (some 37))), some (.inr (.inr (some 120)))]) (st' := [.inl 12, .inl 0, .inr (.inr (some 41)), .inl 0, .inr (.inr (some 124))]) rfl ?_
  refine r_copy2 (pc' := 68) (pc0 := 65) (len := 3) rfl (s_124 _) (s_41 _) (Or.inl rfl) (by omega) (by decide) (by decide) rfl ?_
  have hX_6 : XI (vcp (vcp (vcp (vcp (v2 v 37 0 (v 120 0)) 121 38 0 0 12) 122 39 0 0 12) 123 40 0 0 12) 124 41 0 0 12) := XI.cpy hX_5 (fun x h j => Exists.elim h (fun _ h => h))
  show WV _ _ _ 68 _ _ _ (vcp (vcp (vcp (vcp (v2 v 37 0 (v 120 0)) 121 38 0 0 12) 122 39 0 0 12) 123 40 0 0 12) 124 41 0 0 12) _
  refine r_ret (rr := none) (I := .return_) (pc0 := 68) (len := 1) rfl rfl ?_
  exact hQ hX_6 

theorem e_cl_eaTake33_116 {X : PX} {d b : Nat} {v : VS}  (hX : XI v)  : EvV X d 54 [.inr (.inr (some 37)), .inr (.inr (some 120))] b v none b (cl_eaTake33_116 v) := EvV.of (w_cl_eaTake33_116 hX  (fun _ => ⟨rfl, rfl, rfl⟩))

theorem i_cl_eaTake33_116 {v : VS}  (hX : XI v)  : XI (cl_eaTake33_116 v) := by
  have q : WV (0, fun _ => 0, none) 0 54 0 [some (.inr (.inr (some 37))), some (.inr (.inr (some 120)))] [] 1 v (fun _ _ _ => XI (cl_eaTake33_116 v)) := w_cl_eaTake33_116 (X := (0, fun _ => 0, none)) (d := 0) (b := 1) hX  (fun q => q)
  obtain ⟨_, _, _, _, _, _, _, q⟩ := q
  exact q

theorem o_cl_eaTake33_116 {rk : Nat} {v : VS}  (hk : (rk < 37 ∨ 41 < rk)) : (cl_eaTake33_116 v ) rk = v rk := by
  unfold cl_eaTake33_116
  all_goals (show (vcp (vcp (vcp (vcp (v2 v 37 0 (v 120 0)) 121 38 0 0 12) 122 39 0 0 12) 123 40 0 0 12) 124 41 0 0 12) rk = _)
  all_goals (rw [vcp_row (by omega), vcp_row (by omega), vcp_row (by omega), vcp_row (by omega), v2_row (by omega)])

def cl_stTake33_116 (v : VS)  : VS :=
  (vcp (vcp (vcp (v2 v 42 0 (v 125 0)) 126 43 0 0 5) 127 44 0 0 5) 128 45 0 0 5)
theorem w_cl_stTake33_116 {X : PX} {d b : Nat} {v : VS}  (hX : XI v)  {Q : Option PV → Nat → VS → Prop} (hQ : XI (cl_stTake33_116 v) → Q none b (cl_stTake33_116 v)) : WV X d 55 0 [some (.inr (.inr (some 42))), some (.inr (.inr (some 125)))] [] b v Q := by
  rw [cl_stTake33_116] at hQ
  refine r_ex 3 (pc' := 5) (lo' := [some (.inr (.inr (some 42))), some (.inr (.inr (some 125)))]) (st' := [.inl (v 125 0), .inr (.inr (some 42))]) rfl ?_
  have hb_1 : 0 ≤ (v 125 0) ∧ (v 125 0) ≤ 4 := hX 125 0
  refine r_puti2 (j := 0) (pc' := 8) (pc0 := 5) (len := 3) rfl (s_42 _) rfl rfl rfl (Or.inl rfl) rfl rfl ?_
  have hX_2 : XI (v2 v 42 0 (v 125 0)) := XI.put hX (show 0 ≤ (v 125 0) ∧ (v 125 0) ≤ 4 from (by first | assumption | omega | (unfold R32 at *; omega) | (unfold R64 at *; omega) | (simp only [R32, R64] at *; omega)))
  refine r_ex 7 (pc' := 19) (lo' := [some (.inr (.inr (some 42))), some (.inr (.inr (some 125)))]) (st' := [.inl 5, .inl 0, .inr (.inr (some 43)), .inl 0, .inr (.inr (some 126))]) rfl ?_
  refine r_copy2 (pc' := 22) (pc0 := 19) (len := 3) rfl (s_126 _) (s_43 _) (Or.inl rfl) (by omega) (by decide) (by decide) rfl ?_
  have hX_3 : XI (vcp (v2 v 42 0 (v 125 0)) 126 43 0 0 5) := XI.cpy hX_2 (fun x h j => Exists.elim h (fun _ h => h))
  show WV _ _ _ 22 _ _ _ (vcp (v2 v 42 0 (v 125 0)) 126 43 0 0 5) _
  refine r_ex 7 (pc' := 33) (lo' := [some (.inr (.inr (some 42))), some (.inr (.inr (some 125)))]) (st' := [.inl 5, .inl 0, .inr (.inr (some 44)), .inl 0, .inr (.inr (some 127))]) rfl ?_
  refine r_copy2 (pc' := 36) (pc0 := 33) (len := 3) rfl (s_127 _) (s_44 _) (Or.inl rfl) (by omega) (by decide) (by decide) rfl ?_
  have hX_4 : XI (vcp (vcp (v2 v 42 0 (v 125 0)) 126 43 0 0 5) 127 44 0 0 5) := XI.cpy hX_3 (fun x h j => Exists.elim h (fun _ h => h))
  show WV _ _ _ 36 _ _ _ (vcp (vcp (v2 v 42 0 (v 125 0)) 126 43 0 0 5) 127 44 0 0 5) _
  refine r_ex 7 (pc' := 47) (lo' := [some (.inr (.inr (some 42))), some (.inr (.inr (some 125)))]) (st' := [.inl 5, .inl 0, .inr (.inr (some 45)), .inl 0, .inr (.inr (some 128))]) rfl ?_
  refine r_copy2 (pc' := 50) (pc0 := 47) (len := 3) rfl (s_128 _) (s_45 _) (Or.inl rfl) (by omega) (by decide) (by decide) rfl ?_
  have hX_5 : XI (vcp (vcp (vcp (v2 v 42 0 (v 125 0)) 126 43 0 0 5) 127 44 0 0 5) 128 45 0 0 5) := XI.cpy hX_4 (fun x h j => Exists.elim h (fun _ h => h))
  show WV _ _ _ 50 _ _ _ (vcp (vcp (vcp (v2 v 42 0 (v 125 0)) 126 43 0 0 5) 127 44 0 0 5) 128 45 0 0 5) _
  refine r_ret (rr := none) (I := .return_) (pc0 := 50) (len := 1) rfl rfl ?_
  exact hQ hX_5 

theorem e_cl_stTake33_116 {X : PX} {d b : Nat} {v : VS}  (hX : XI v)  : EvV X d 55 [.inr (.inr (some 42)), .inr (.inr (some 125))] b v none b (cl_stTake33_116 v) := EvV.of (w_cl_stTake33_116 hX  (fun _ => ⟨rfl, rfl, rfl⟩))

theorem i_cl_stTake33_116 {v : VS}  (hX : XI v)  : XI (cl_stTake33_116 v) := by
  have q : WV (0, fun _ => 0, none) 0 55 0 [some (.inr (.inr (some 42))), some (.inr (.inr (some 125)))] [] 1 v (fun _ _ _ => XI (cl_stTake33_116 v)) := w_cl_stTake33_116 (X := (0, fun _ => 0, none)) (d := 0) (b := 1) hX  (fun q => q)
  obtain ⟨_, _, _, _, _, _, _, q⟩ := q
  exact q

theorem o_cl_stTake33_116 {rk : Nat} {v : VS}  (hk : (rk < 42 ∨ 45 < rk)) : (cl_stTake33_116 v ) rk = v rk := by
  unfold cl_stTake33_116
  all_goals (show (vcp (vcp (vcp (v2 v 42 0 (v 125 0)) 126 43 0 0 5) 127 44 0 0 5) 128 45 0 0 5) rk = _)
  all_goals (rw [vcp_row (by omega), vcp_row (by omega), vcp_row (by omega), v2_row (by omega)])

def cl_spTake46_129 (v : VS)  : VS :=
  (vcp (vcp (vcp (v2 v 46 0 (v 129 0)) 130 47 0 0 6) 131 48 0 0 6) 132 49 0 0 6)
theorem w_cl_spTake46_129 {X : PX} {d b : Nat} {v : VS}  (hX : XI v)  {Q : Option PV → Nat → VS → Prop} (hQ : XI (cl_spTake46_129 v) → Q none b (cl_spTake46_129 v)) : WV X d 56 0 [some (.inr (.inr (some 46))), some (.inr (.inr (some 129)))] [] b v Q := by
  rw [cl_spTake46_129] at hQ
  refine r_ex 3 (pc' := 5) (lo' := [some (.inr (.inr (some 46))), some (.inr (.inr (some 129)))]) (st' := [.inl (v 129 0), .inr (.inr (some 46))]) rfl ?_
  have hb_1 : 0 ≤ (v 129 0) ∧ (v 129 0) ≤ 6 := hX 129 0
  refine r_puti2 (j := 0) (pc' := 8) (pc0 := 5) (len := 3) rfl (s_46 _) rfl rfl rfl (Or.inl rfl) rfl rfl ?_
  have hX_2 : XI (v2 v 46 0 (v 129 0)) := XI.put hX (show 0 ≤ (v 129 0) ∧ (v 129 0) ≤ 6 from (by first | assumption | omega | (unfold R32 at *; omega) | (unfold R64 at *; omega) | (simp only [R32, R64] at *; omega)))
  refine r_ex 7 (pc' := 20) (lo' := [some (.inr (.inr (some 46))), some (.inr (.inr (some 129)))]) (st' := [.inl 6, .inl 0, .inr (.inr (some 47)), .inl 0, .inr (.inr (some 130))]) rfl ?_
  refine r_copy2 (pc' := 23) (pc0 := 20) (len := 3) rfl (s_130 _) (s_47 _) (Or.inl rfl) (by omega) (by decide) (by decide) rfl ?_
  have hX_3 : XI (vcp (v2 v 46 0 (v 129 0)) 130 47 0 0 6) := XI.cpy hX_2 (fun x h j => Exists.elim h (fun _ h => h))
  show WV _ _ _ 23 _ _ _ (vcp (v2 v 46 0 (v 129 0)) 130 47 0 0 6) _
  refine r_ex 7 (pc' := 35) (lo' := [some (.inr (.inr (some 46))), some (.inr (.inr (some 129)))]) (st' := [.inl 6, .inl 0, .inr (.inr (some 48)), .inl 0, .inr (.inr (some 131))]) rfl ?_
  refine r_copy2 (pc' := 38) (pc0 := 35) (len := 3) rfl (s_131 _) (s_48 _) (Or.inl rfl) (by omega) (by decide) (by decide) rfl ?_
  have hX_4 : XI (vcp (vcp (v2 v 46 0 (v 129 0)) 130 47 0 0 6) 131 48 0 0 6) := XI.cpy hX_3 (fun x h j => Exists.elim h (fun _ h => h))
  show WV _ _ _ 38 _ _ _ (vcp (vcp (v2 v 46 0 (v 129 0)) 130 47 0 0 6) 131 48 0 0 6) _
  refine r_ex 7 (pc' := 50) (lo' := [some (.inr (.inr (some 46))), some (.inr (.inr (some 129)))]) (st' := [.inl 6, .inl 0, .inr (.inr (some 49)), .inl 0, .inr (.inr (some 132))]) rfl ?_
  refine r_copy2 (pc' := 53) (pc0 := 50) (len := 3) rfl (s_132 _) (s_49 _) (Or.inl rfl) (by omega) (by decide) (by decide) rfl ?_
  have hX_5 : XI (vcp (vcp (vcp (v2 v 46 0 (v 129 0)) 130 47 0 0 6) 131 48 0 0 6) 132 49 0 0 6) := XI.cpy hX_4 (fun x h j => Exists.elim h (fun _ h => h))
  show WV _ _ _ 53 _ _ _ (vcp (vcp (vcp (v2 v 46 0 (v 129 0)) 130 47 0 0 6) 131 48 0 0 6) 132 49 0 0 6) _
  refine r_ret (rr := none) (I := .return_) (pc0 := 53) (len := 1) rfl rfl ?_
  exact hQ hX_5 

theorem e_cl_spTake46_129 {X : PX} {d b : Nat} {v : VS}  (hX : XI v)  : EvV X d 56 [.inr (.inr (some 46)), .inr (.inr (some 129))] b v none b (cl_spTake46_129 v) := EvV.of (w_cl_spTake46_129 hX  (fun _ => ⟨rfl, rfl, rfl⟩))

theorem i_cl_spTake46_129 {v : VS}  (hX : XI v)  : XI (cl_spTake46_129 v) := by
  have q : WV (0, fun _ => 0, none) 0 56 0 [some (.inr (.inr (some 46))), some (.inr (.inr (some 129)))] [] 1 v (fun _ _ _ => XI (cl_spTake46_129 v)) := w_cl_spTake46_129 (X := (0, fun _ => 0, none)) (d := 0) (b := 1) hX  (fun q => q)
  obtain ⟨_, _, _, _, _, _, _, q⟩ := q
  exact q

theorem o_cl_spTake46_129 {rk : Nat} {v : VS}  (hk : (rk < 46 ∨ 49 < rk)) : (cl_spTake46_129 v ) rk = v rk := by
  unfold cl_spTake46_129
  all_goals (show (vcp (vcp (vcp (v2 v 46 0 (v 129 0)) 130 47 0 0 6) 131 48 0 0 6) 132 49 0 0 6) rk = _)
  all_goals (rw [vcp_row (by omega), vcp_row (by omega), vcp_row (by omega), v2_row (by omega)])

def cl_spTake50_133 (v : VS)  : VS :=
  (vcp (vcp (vcp (v2 v 50 0 (v 133 0)) 134 51 0 0 6) 135 52 0 0 6) 136 53 0 0 6)
theorem w_cl_spTake50_133 {X : PX} {d b : Nat} {v : VS}  (hX : XI v)  {Q : Option PV → Nat → VS → Prop} (hQ : XI (cl_spTake50_133 v) → Q none b (cl_spTake50_133 v)) : WV X d 56 0 [some (.inr (.inr (some 50))), some (.inr (.inr (some 133)))] [] b v Q := by
  rw [cl_spTake50_133] at hQ
  refine r_ex 3 (pc' := 5) (lo' := [some (.inr (.inr (some 50))), some (.inr (.inr (some 133)))]) (st' := [.inl (v 133 0), .inr (.inr (some 50))]) rfl ?_
  have hb_1 : 0 ≤ (v 133 0) ∧ (v 133 0) ≤ 6 := hX 133 0
  refine r_puti2 (j := 0) (pc' := 8) (pc0 := 5) (len := 3) rfl (s_50 _) rfl rfl rfl (Or.inl rfl) rfl rfl ?_
  have hX_2 : XI (v2 v 50 0 (v 133 0)) := XI.put hX (show 0 ≤ (v 133 0) ∧ (v 133 0) ≤ 6 from (by first | assumption | omega | (unfold R32 at *; omega) | (unfold R64 at *; omega) | (simp only [R32, R64] at *; omega)))
  refine r_ex 7 (pc' := 20) (lo' := [some (.inr (.inr (some 50))), some (.inr (.inr (some 133)))]) (st' := [.inl 6, .inl 0, .inr (.inr (some 51)), .inl 0, .inr (.inr (some 134))]) rfl ?_
  refine r_copy2 (pc' := 23) (pc0 := 20) (len := 3) rfl (s_134 _) (s_51 _) (Or.inl rfl) (by omega) (by decide) (by decide) rfl ?_
  have hX_3 : XI (vcp (v2 v 50 0 (v 133 0)) 134 51 0 0 6) := XI.cpy hX_2 (fun x h j => Exists.elim h (fun _ h => h))
  show WV _ _ _ 23 _ _ _ (vcp (v2 v 50 0 (v 133 0)) 134 51 0 0 6) _
  refine r_ex 7 (pc' := 35) (lo' := [some (.inr (.inr (some 50))), some (.inr (.inr (some 133)))]) (st' := [.inl 6, .inl 0, .inr (.inr (some 52)), .inl 0, .inr (.inr (some 135))]) rfl ?_
  refine r_copy2 (pc' := 38) (pc0 := 35) (len := 3) rfl (s_135 _) (s_52 _) (Or.inl rfl) (by omega) (by decide) (by decide) rfl ?_
  have hX_4 : XI (vcp (vcp (v2 v 50 0 (v 133 0)) 134 51 0 0 6) 135 52 0 0 6) := XI.cpy hX_3 (fun x h j => Exists.elim h (fun _ h => h))
  show WV _ _ _ 38 _ _ _ (vcp (vcp (v2 v 50 0 (v 133 0)) 134 51 0 0 6) 135 52 0 0 6) _
  refine r_ex 7 (pc' := 50) (lo' := [some (.inr (.inr (some 50))), some (.inr (.inr (some 133)))]) (st' := [.inl 6, .inl 0, .inr (.inr (some 53)), .inl 0, .inr (.inr (some 136))]) rfl ?_
  refine r_copy2 (pc' := 53) (pc0 := 50) (len := 3) rfl (s_136 _) (s_53 _) (Or.inl rfl) (by omega) (by decide) (by decide) rfl ?_
  have hX_5 : XI (vcp (vcp (vcp (v2 v 50 0 (v 133 0)) 134 51 0 0 6) 135 52 0 0 6) 136 53 0 0 6) := XI.cpy hX_4 (fun x h j => Exists.elim h (fun _ h => h))
  show WV _ _ _ 53 _ _ _ (vcp (vcp (vcp (v2 v 50 0 (v 133 0)) 134 51 0 0 6) 135 52 0 0 6) 136 53 0 0 6) _
  refine r_ret (rr := none) (I := .return_) (pc0 := 53) (len := 1) rfl rfl ?_
  exact hQ hX_5 

theorem e_cl_spTake50_133 {X : PX} {d b : Nat} {v : VS}  (hX : XI v)  : EvV X d 56 [.inr (.inr (some 50)), .inr (.inr (some 133))] b v none b (cl_spTake50_133 v) := EvV.of (w_cl_spTake50_133 hX  (fun _ => ⟨rfl, rfl, rfl⟩))

theorem i_cl_spTake50_133 {v : VS}  (hX : XI v)  : XI (cl_spTake50_133 v) := by
  have q : WV (0, fun _ => 0, none) 0 56 0 [some (.inr (.inr (some 50))), some (.inr (.inr (some 133)))] [] 1 v (fun _ _ _ => XI (cl_spTake50_133 v)) := w_cl_spTake50_133 (X := (0, fun _ => 0, none)) (d := 0) (b := 1) hX  (fun q => q)
  obtain ⟨_, _, _, _, _, _, _, q⟩ := q
  exact q

theorem o_cl_spTake50_133 {rk : Nat} {v : VS}  (hk : (rk < 50 ∨ 53 < rk)) : (cl_spTake50_133 v ) rk = v rk := by
  unfold cl_spTake50_133
  all_goals (show (vcp (vcp (vcp (v2 v 50 0 (v 133 0)) 134 51 0 0 6) 135 52 0 0 6) 136 53 0 0 6) rk = _)
  all_goals (rw [vcp_row (by omega), vcp_row (by omega), vcp_row (by omega), v2_row (by omega)])

def cl_spTake54_137 (v : VS)  : VS :=
  (vcp (vcp (vcp (v2 v 54 0 (v 137 0)) 138 55 0 0 6) 139 56 0 0 6) 140 57 0 0 6)
theorem w_cl_spTake54_137 {X : PX} {d b : Nat} {v : VS}  (hX : XI v)  {Q : Option PV → Nat → VS → Prop} (hQ : XI (cl_spTake54_137 v) → Q none b (cl_spTake54_137 v)) : WV X d 56 0 [some (.inr (.inr (some 54))), some (.inr (.inr (some 137)))] [] b v Q := by
  rw [cl_spTake54_137] at hQ
  refine r_ex 3 (pc' := 5) (lo' := [some (.inr (.inr (some 54))), some (.inr (.inr (some 137)))]) (st' := [.inl (v 137 0), .inr (.inr (some 54))]) rfl ?_
  have hb_1 : 0 ≤ (v 137 0) ∧ (v 137 0) ≤ 6 := hX 137 0
  refine r_puti2 (j := 0) (pc' := 8) (pc0 := 5) (len := 3) rfl (s_54 _) rfl rfl rfl (Or.inl rfl) rfl rfl ?_
  have hX_2 : XI (v2 v 54 0 (v 137 0)) := XI.put hX (show 0 ≤ (v 137 0) ∧ (v 137 0) ≤ 6 from (by first | assumption | omega | (unfold R32 at *; omega) | (unfold R64 at *; omega) | (simp only [R32, R64] at *; omega)))
  refine r_ex 7 (pc' := 20) (lo' := [some (.inr (.inr (some 54))), some (.inr (.inr (some 137)))]) (st' := [.inl 6, .inl 0, .inr (.inr (some 55)), .inl 0, .inr (.inr (some 138))]) rfl ?_
  refine r_copy2 (pc' := 23) (pc0 := 20) (len := 3) rfl (s_138 _) (s_55 _) (Or.inl rfl) (by omega) (by decide) (by decide) rfl ?_
  have hX_3 : XI (vcp (v2 v 54 0 (v 137 0)) 138 55 0 0 6) := XI.cpy hX_2 (fun x h j => Exists.elim h (fun _ h => h))
  show WV _ _ _ 23 _ _ _ (vcp (v2 v 54 0 (v 137 0)) 138 55 0 0 6) _
  refine r_ex 7 (pc' := 35) (lo' := [some (.inr (.inr (some 54))), some (.inr (.inr (some 137)))]) (st' := [.inl 6, .inl 0, .inr (.inr (some 56)), .inl 0, .inr (.inr (some 139))]) rfl ?_
  refine r_copy2 (pc' := 38) (pc0 := 35) (len := 3) rfl (s_139 _) (s_56 _) (Or.inl rfl) (by omega) (by decide) (by decide) rfl ?_
  have hX_4 : XI (vcp (vcp (v2 v 54 0 (v 137 0)) 138 55 0 0 6) 139 56 0 0 6) := XI.cpy hX_3 (fun x h j => Exists.elim h (fun _ h => h))
  show WV _ _ _ 38 _ _ _ (vcp (vcp (v2 v 54 0 (v 137 0)) 138 55 0 0 6) 139 56 0 0 6) _
  refine r_ex 7 (pc' := 50) (lo' := [some (.inr (.inr (some 54))), some (.inr (.inr (some 137)))]) (st' := [.inl 6, .inl 0, .inr (.inr (some 57)), .inl 0, .inr (.inr (some 140))]) rfl ?_
  refine r_copy2 (pc' := 53) (pc0 := 50) (len := 3) rfl (s_140 _) (s_57 _) (Or.inl rfl) (by omega) (by decide) (by decide) rfl ?_
  have hX_5 : XI (vcp (vcp (vcp (v2 v 54 0 (v 137 0)) 138 55 0 0 6) 139 56 0 0 6) 140 57 0 0 6) := XI.cpy hX_4 (fun x h j => Exists.elim h (fun _ h => h))
  show WV _ _ _ 53 _ _ _ (vcp (vcp (vcp (v2 v 54 0 (v 137 0)) 138 55 0 0 6) 139 56 0 0 6) 140 57 0 0 6) _
  refine r_ret (rr := none) (I := .return_) (pc0 := 53) (len := 1) rfl rfl ?_
  exact hQ hX_5 

theorem e_cl_spTake54_137 {X : PX} {d b : Nat} {v : VS}  (hX : XI v)  : EvV X d 56 [.inr (.inr (some 54)), .inr (.inr (some 137))] b v none b (cl_spTake54_137 v) := EvV.of (w_cl_spTake54_137 hX  (fun _ => ⟨rfl, rfl, rfl⟩))

theorem i_cl_spTake54_137 {v : VS}  (hX : XI v)  : XI (cl_spTake54_137 v) := by
  have q : WV (0, fun _ => 0, none) 0 56 0 [some (.inr (.inr (some 54))), some (.inr (.inr (some 137)))] [] 1 v (fun _ _ _ => XI (cl_spTake54_137 v)) := w_cl_spTake54_137 (X := (0, fun _ => 0, none)) (d := 0) (b := 1) hX  (fun q => q)
  obtain ⟨_, _, _, _, _, _, _, q⟩ := q
  exact q

theorem o_cl_spTake54_137 {rk : Nat} {v : VS}  (hk : (rk < 54 ∨ 57 < rk)) : (cl_spTake54_137 v ) rk = v rk := by
  unfold cl_spTake54_137
  all_goals (show (vcp (vcp (vcp (v2 v 54 0 (v 137 0)) 138 55 0 0 6) 139 56 0 0 6) 140 57 0 0 6) rk = _)
  all_goals (rw [vcp_row (by omega), vcp_row (by omega), vcp_row (by omega), v2_row (by omega)])

def cl_spTake58_141 (v : VS)  : VS :=
  (vcp (vcp (vcp (v2 v 58 0 (v 141 0)) 142 59 0 0 6) 143 60 0 0 6) 144 61 0 0 6)
theorem w_cl_spTake58_141 {X : PX} {d b : Nat} {v : VS}  (hX : XI v)  {Q : Option PV → Nat → VS → Prop} (hQ : XI (cl_spTake58_141 v) → Q none b (cl_spTake58_141 v)) : WV X d 56 0 [some (.inr (.inr (some 58))), some (.inr (.inr (some 141)))] [] b v Q := by
  rw [cl_spTake58_141] at hQ
  refine r_ex 3 (pc' := 5) (lo' := [some (.inr (.inr (some 58))), some (.inr (.inr (some 141)))]) (st' := [.inl (v 141 0), .inr (.inr (some 58))]) rfl ?_
  have hb_1 : 0 ≤ (v 141 0) ∧ (v 141 0) ≤ 6 := hX 141 0
  refine r_puti2 (j := 0) (pc' := 8) (pc0 := 5) (len := 3) rfl (s_58 _) rfl rfl rfl (Or.inl rfl) rfl rfl ?_
  have hX_2 : XI (v2 v 58 0 (v 141 0)) := XI.put hX (show 0 ≤ (v 141 0) ∧ (v 141 0) ≤ 6 from (by first | assumption | omega | (unfold R32 at *; omega) | (unfold R64 at *; omega) | (simp only [R32, R64] at *; omega)))
  refine r_ex 7 (pc' := 20) (lo' := [some (.inr (.inr (some 58))), some (.inr (.inr (some 141)))]) (st' := [.inl 6, .inl 0, .inr (.inr (some 59)), .inl 0, .inr (.inr (some 142))]) rfl ?_
  refine r_copy2 (pc' := 23) (pc0 := 20) (len := 3) rfl (s_142 _) (s_59 _) (Or.inl rfl) (by omega) (by decide) (by decide) rfl ?_
  have hX_3 : XI (vcp (v2 v 58 0 (v 141 0)) 142 59 0 0 6) := XI.cpy hX_2 (fun x h j => Exists.elim h (fun _ h => h))
  show WV _ _ _ 23 _ _ _ (vcp (v2 v 58 0 (v 141 0)) 142 59 0 0 6) _
  refine r_ex 7 (pc' := 35) (lo' := [some (.inr (.inr (some 58))), some (.inr (.inr (some 141)))]) (st' := [.inl 6, .inl 0, .inr (.inr (some 60)), .inl 0, .inr (.inr (some 143))]) rfl ?_
  refine r_copy2 (pc' := 38) (pc0 := 35) (len := 3) rfl (s_143 _) (s_60 _) (Or.inl rfl) (by omega) (by decide) (by decide) rfl ?_
  have hX_4 : XI (vcp (vcp (v2 v 58 0 (v 141 0)) 142 59 0 0 6) 143 60 0 0 6) := XI.cpy hX_3 (fun x h j => Exists.elim h (fun _ h => h))
  show WV _ _ _ 38 _ _ _ (vcp (vcp (v2 v 58 0 (v 141 0)) 142 59 0 0 6) 143 60 0 0 6) _
  refine r_ex 7 (pc' := 50) (lo' := [some (.inr (.inr (some 58))), some (.inr (.inr (some 141)))]) (st' := [.inl 6, .inl 0, .inr (.inr (some 61)), .inl 0, .inr (.inr (some 144))]) rfl ?_
  refine r_copy2 (pc' := 53) (pc0 := 50) (len := 3) rfl (s_144 _) (s_61 _) (Or.inl rfl) (by omega) (by decide) (by decide) rfl ?_
  have hX_5 : XI (vcp (vcp (vcp (v2 v 58 0 (v 141 0)) 142 59 0 0 6) 143 60 0 0 6) 144 61 0 0 6) := XI.cpy hX_4 (fun x h j => Exists.elim h (fun _ h => h))
  show WV _ _ _ 53 _ _ _ (vcp (vcp (vcp (v2 v 58 0 (v 141 0)) 142 59 0 0 6) 143 60 0 0 6) 144 61 0 0 6) _
  refine r_ret (rr := none) (I := .return_) (pc0 := 53) (len := 1) rfl rfl ?_
  exact hQ hX_5 

theorem e_cl_spTake58_141 {X : PX} {d b : Nat} {v : VS}  (hX : XI v)  : EvV X d 56 [.inr (.inr (some 58)), .inr (.inr (some 141))] b v none b (cl_spTake58_141 v) := EvV.of (w_cl_spTake58_141 hX  (fun _ => ⟨rfl, rfl, rfl⟩))

theorem i_cl_spTake58_141 {v : VS}  (hX : XI v)  : XI (cl_spTake58_141 v) := by
  have q : WV (0, fun _ => 0, none) 0 56 0 [some (.inr (.inr (some 58))), some (.inr (.inr (some 141)))] [] 1 v (fun _ _ _ => XI (cl_spTake58_141 v)) := w_cl_spTake58_141 (X := (0, fun _ => 0, none)) (d := 0) (b := 1) hX  (fun q => q)
  obtain ⟨_, _, _, _, _, _, _, q⟩ := q
  exact q

theorem o_cl_spTake58_141 {rk : Nat} {v : VS}  (hk : (rk < 58 ∨ 61 < rk)) : (cl_spTake58_141 v ) rk = v rk := by
  unfold cl_spTake58_141
  all_goals (show (vcp (vcp (vcp (v2 v 58 0 (v 141 0)) 142 59 0 0 6) 143 60 0 0 6) 144 61 0 0 6) rk = _)
  all_goals (rw [vcp_row (by omega), vcp_row (by omega), vcp_row (by omega), v2_row (by omega)])

def cl_copy33_116 (v : VS)  : VS :=
  (cl_spTake58_141 (cl_spTake54_137 (cl_spTake50_133 (cl_spTake46_129 (cl_stTake33_116 (cl_eaTake33_116 (vcp (vcp (vcp (v2 (v2 (v2 (v2 (v2 (v2 v 33 0 (v 116 0)) 33 1 (v 116 1)) 33 2 (v 116 2)) 33 3 (v 116 3)) 33 4 (v 116 4)) 33 5 (v 116 5)) 117 34 0 0 9) 118 35 0 0 9) 119 36 0 0 9)))))))
theorem w_cl_copy33_116 {X : PX} {d b : Nat} {v : VS}  (hX : XI v)  {Q : Option PV → Nat → VS → Prop} (hQ : XI (cl_copy33_116 v) → Q none b (cl_copy33_116 v)) : WV X (d + 1) 53 0 [some (.inr (.inr (some 33))), some (.inr (.inr (some 116)))] [] b v Q := by
  rw [cl_copy33_116] at hQ
  refine r_ex 3 (pc' := 5) (lo' := [some (.inr (.inr (some 33))), some (.inr (.inr (some 116)))]) (st' := [.inl (v 116 0), .inr (.inr (some 33))]) rfl ?_
  have hb_1 : 0 ≤ (v 116 0) ∧ (v 116 0) ≤ 9 := hX 116 0
  refine r_puti2 (j := 0) (pc' := 8) (pc0 := 5) (len := 3) rfl (s_33 _) rfl rfl rfl (Or.inl rfl) rfl rfl ?_
  have hX_2 : XI (v2 v 33 0 (v 116 0)) := XI.put hX (show 0 ≤ (v 116 0) ∧ (v 116 0) ≤ 9 from (by first | assumption | omega | (unfold R32 at *; omega) | (unfold R64 at *; omega) | (simp only [R32, R64] at *; omega)))
  refine r_ex 3 (pc' := 13) (lo' := [some (.inr (.inr (some 33))), some (.inr (.inr (some 116)))]) (st' := [.inl (v 116 1), .inr (.inr (some 33))]) rfl ?_
  have hb_3 : 0 ≤ (v 116 1) ∧ (v 116 1) ≤ 300 := hX_2 116 1
  refine r_puti2 (j := 1) (pc' := 16) (pc0 := 13) (len := 3) rfl (s_33 _) rfl rfl rfl (Or.inl rfl) rfl rfl ?_
  have hX_4 : XI (v2 (v2 v 33 0 (v 116 0)) 33 1 (v 116 1)) := XI.put hX_2 (show 0 ≤ (v 116 1) ∧ (v 116 1) ≤ 300 from (by first | assumption | omega | (unfold R32 at *; omega) | (unfold R64 at *; omega) | (simp only [R32, R64] at *; omega)))
  refine r_ex 3 (pc' := 21) (lo' := [some (.inr (.inr (some 33))), some (.inr (.inr (some 116)))]) (st' := [.inl (v 116 2), .inr (.inr (some 33))]) rfl ?_
  have hb_5 : 0 ≤ (v 116 2) ∧ (v 116 2) ≤ 2001 := hX_4 116 2
  refine r_puti2 (j := 2) (pc' := 24) (pc0 := 21) (len := 3) rfl (s_33 _) rfl rfl rfl (Or.inl rfl) rfl rfl ?_
  have hX_6 : XI (v2 (v2 (v2 v 33 0 (v 116 0)) 33 1 (v 116 1)) 33 2 (v 116 2)) := XI.put hX_4 (show 0 ≤ (v 116 2) ∧ (v 116 2) ≤ 2001 from (by first | assumption | omega | (unfold R32 at *; omega) | (unfold R64 at *; omega) | (simp only [R32, R64] at *; omega)))
  refine r_ex 3 (pc' := 29) (lo' := [some (.inr (.inr (some 33))), some (.inr (.inr (some 116)))]) (st' := [.inl (v 116 3), .inr (.inr (some 33))]) rfl ?_
  have hb_7 : 0 ≤ (v 116 3) ∧ (v 116 3) ≤ 9 := hX_6 116 3
  refine r_puti2 (j := 3) (pc' := 32) (pc0 := 29) (len := 3) rfl (s_33 _) rfl rfl rfl (Or.inl rfl) rfl rfl ?_
  have hX_8 : XI (v2 (v2 (v2 (v2 v 33 0 (v 116 0)) 33 1 (v 116 1)) 33 2 (v 116 2)) 33 3 (v 116 3)) := XI.put hX_6 (show 0 ≤ (v 116 3) ∧ (v 116 3) ≤ 9 from (by first | assumption | omega | (unfold R32 at *; omega) | (unfold R64 at *; omega) | (simp only [R32, R64] at *; omega)))
  refine r_ex 3 (pc' := 37) (lo' := [some (.inr (.inr (some 33))), some (.inr (.inr (some 116)))]) (st' := [.inl (v 116 4), .inr (.inr (some 33))]) rfl ?_
  have hb_9 : 0 ≤ (v 116 4) ∧ (v 116 4) ≤ 511 := hX_8 116 4
  refine r_puti2 (j := 4) (pc' := 40) (pc0 := 37) (len := 3) rfl (s_33 _) rfl rfl rfl (Or.inl rfl) rfl rfl ?_
  have hX_10 : XI (v2 (v2 (v2 (v2 (v2 v 33 0 (v 116 0)) 33 1 (v 116 1)) 33 2 (v 116 2)) 33 3 (v 116 3)) 33 4 (v 116 4)) := XI.put hX_8 (show 0 ≤ (v 116 4) ∧ (v 116 4) ≤ 511 from (by first | assumption | omega | (unfold R32 at *; omega) | (unfold R64 at *; omega) | (simp only [R32, R64] at *; omega)))
  refine r_ex 3 (pc' := 45) (lo' := [some (.inr (.inr (some 33))), some (.inr (.inr (some 116)))]) (st' := [.inl (v 116 5), .inr (.inr (some 33))]) rfl ?_
  have hb_11 : 0 ≤ (v 116 5) ∧ (v 116 5) ≤ 4095 := hX_10 116 5
  refine r_puti2 (j := 5) (pc' := 48) (pc0 := 45) (len := 3) rfl (s_33 _) rfl rfl rfl (Or.inl rfl) rfl rfl ?_
  have hX_12 : XI (v2 (v2 (v2 (v2 (v2 (v2 v 33 0 (v 116 0)) 33 1 (v 116 1)) 33 2 (v 116 2)) 33 3 (v 116 3)) 33 4 (v 116 4)) 33 5 (v 116 5)) := XI.put hX_10 (show 0 ≤ (v 116 5) ∧ (v 116 5) ≤ 4095 from (by first | assumption | omega | (unfold R32 at *; omega) | (unfold R64 at *; omega) | (simp only [R32, R64] at *; omega)))
  refine r_ex 7 (pc' := 60) (lo' := [some (.inr (.inr (some 33))), some (.inr (.inr (some 116)))]) (st' := [.inl 9, .inl 0, .inr (.inr (some 34)), .inl 0, .inr (.inr (some 117))]) rfl ?_
  refine r_copy2 (pc' := 63) (pc0 := 60) (len := 3) rfl (s_117 _) (s_34 _) (Or.inl rfl) (by omega) (by decide) (by decide) rfl ?_
  have hX_13 : XI (vcp (v2 (v2 (v2 (v2 (v2 (v2 v 33 0 (v 116 0)) 33 1 (v 116 1)) 33 2 (v 116 2)) 33 3 (v 116 3)) 33 4 (v 116 4)) 33 5 (v 116 5)) 117 34 0 0 9) := XI.cpy hX_12 (fun x h j => Exists.elim h (fun _ h => h))
  show WV _ _ _ 63 _ _ _ (vcp (v2 (v2 (v2 (v2 (v2 (v2 v 33 0 (v 116 0)) 33 1 (v 116 1)) 33 2 (v 116 2)) 33 3 (v 116 3)) 33 4 (v 116 4)) 33 5 (v 116 5)) 117 34 0 0 9) _
  refine r_ex 7 (pc' := 75) (lo' := [some (.inr (.inr (some 33))), some (.inr (.inr (some 116)))]) (st' := [.inl 9, .inl 0, .inr (.inr (some 35)), .inl 0, .inr (.inr (some 118))]) rfl ?_
  refine r_copy2 (pc' := 78) (pc0 := 75) (len := 3) rfl (s_118 _) (s_35 _) (Or.inl rfl) (by omega) (by decide) (by decide) rfl ?_
  have hX_14 : XI (vcp (vcp (v2 (v2 (v2 (v2 (v2 (v2 v 33 0 (v 116 0)) 33 1 (v 116 1)) 33 2 (v 116 2)) 33 3 (v 116 3)) 33 4 (v 116 4)) 33 5 (v 116 5)) 117 34 0 0 9) 118 35 0 0 9) := XI.cpy hX_13 (fun x h j => Exists.elim h (fun _ h => h))
  show WV _ _ _ 78 _ _ _ (vcp (vcp (v2 (v2 (v2 (v2 (v2 (v2 v 33 0 (v 116 0)) 33 1 (v 116 1)) 33 2 (v 116 2)) 33 3 (v 116 3)) 33 4 (v 116 4)) 33 5 (v 116 5)) 117 34 0 0 9) 118 35 0 0 9) _
  refine r_ex 7 (pc' := 90) (lo' := [some (.inr (.inr (some 33))), some (.inr (.inr (some 116)))]) (st' := [.inl 9, .inl 0, .inr (.inr (some 36)), .inl 0, .inr (.inr (some 119))]) rfl ?_
  refine r_copy2 (pc' := 93) (pc0 := 90) (len := 3) rfl (s_119 _) (s_36 _) (Or.inl rfl) (by omega) (by decide) (by decide) rfl ?_
  have hX_15 : XI (vcp (vcp (vcp (v2 (v2 (v2 (v2 (v2 (v2 v 33 0 (v 116 0)) 33 1 (v 116 1)) 33 2 (v 116 2)) 33 3 (v 116 3)) 33 4 (v 116 4)) 33 5 (v 116 5)) 117 34 0 0 9) 118 35 0 0 9) 119 36 0 0 9) := XI.cpy hX_14 (fun x h j => Exists.elim h (fun _ h => h))
  show WV _ _ _ 93 _ _ _ (vcp (vcp (vcp (v2 (v2 (v2 (v2 (v2 (v2 v 33 0 (v 116 0)) 33 1 (v 116 1)) 33 2 (v 116 2)) 33 3 (v 116 3)) 33 4 (v 116 4)) 33 5 (v 116 5)) 117 34 0 0 9) 118 35 0 0 9) 119 36 0 0 9) _
  refine r_ex 4 (pc' := 101) (lo' := [some (.inr (.inr (some 33))), some (.inr (.inr (some 116)))]) (st' := [.inr (.inr (some 120)), .inr (.inr (some 37))]) rfl ?_
  refine r_call (m := 54) (args := [.inr (.inr (some 37)), .inr (.inr (some 120))]) (n' := 53) (pc' := 104) (lo' := [some (.inr (.inr (some 33))), some (.inr (.inr (some 116)))]) (st' := []) (I := .invokevirtual 54) (pc0 := 101) (len := 3) rfl rfl rfl (e_cl_eaTake33_116 hX_15) ?_
  show WV _ _ _ 104 _ [] _ (cl_eaTake33_116 (vcp (vcp (vcp (v2 (v2 (v2 (v2 (v2 (v2 v 33 0 (v 116 0)) 33 1 (v 116 1)) 33 2 (v 116 2)) 33 3 (v 116 3)) 33 4 (v 116 4)) 33 5 (v 116 5)) 117 34 0 0 9) 118 35 0 0 9) 119 36 0 0 9)) _
  have hX_16 : XI (cl_eaTake33_116 (vcp (vcp (vcp (v2 (v2 (v2 (v2 (v2 (v2 v 33 0 (v 116 0)) 33 1 (v 116 1)) 33 2 (v 116 2)) 33 3 (v 116 3)) 33 4 (v 116 4)) 33 5 (v 116 5)) 117 34 0 0 9) 118 35 0 0 9) 119 36 0 0 9)) := i_cl_eaTake33_116 (v := (vcp (vcp (vcp (v2 (v2 (v2 (v2 (v2 (v2 v 33 0 (v 116 0)) 33 1 (v 116 1)) 33 2 (v 116 2)) 33 3 (v 116 3)) 33 4 (v 116 4)) 33 5 (v 116 5)) 117 34 0 0 9) 118 35 0 0 9) 119 36 0 0 9)) hX_15
  refine r_ex 4 (pc' := 112) (lo' := [some (.inr (.inr (some 33))), some (.inr (.inr (some 116)))]) (st' := [.inr (.inr (some 125)), .inr (.inr (some 42))]) rfl ?_
  refine r_call (m := 55) (args := [.inr (.inr (some 42)), .inr (.inr (some 125))]) (n' := 53) (pc' := 115) (lo' := [some (.inr (.inr (some 33))), some (.inr (.inr (some 116)))]) (st' := []) (I := .invokevirtual 55) (pc0 := 112) (len := 3) rfl rfl rfl (e_cl_stTake33_116 hX_16) ?_
  show WV _ _ _ 115 _ [] _ (cl_stTake33_116 (cl_eaTake33_116 (vcp (vcp (vcp (v2 (v2 (v2 (v2 (v2 (v2 v 33 0 (v 116 0)) 33 1 (v 116 1)) 33 2 (v 116 2)) 33 3 (v 116 3)) 33 4 (v 116 4)) 33 5 (v 116 5)) 117 34 0 0 9) 118 35 0 0 9) 119 36 0 0 9))) _
  have hX_17 : XI (cl_stTake33_116 (cl_eaTake33_116 (vcp (vcp (vcp (v2 (v2 (v2 (v2 (v2 (v2 v 33 0 (v 116 0)) 33 1 (v 116 1)) 33 2 (v 116 2)) 33 3 (v 116 3)) 33 4 (v 116 4)) 33 5 (v 116 5)) 117 34 0 0 9) 118 35 0 0 9) 119 36 0 0 9))) := i_cl_stTake33_116 (v := (cl_eaTake33_116 (vcp (vcp (vcp (v2 (v2 (v2 (v2 (v2 (v2 v 33 0 (v 116 0)) 33 1 (v 116 1)) 33 2 (v 116 2)) 33 3 (v 116 3)) 33 4 (v 116 4)) 33 5 (v 116 5)) 117 34 0 0 9) 118 35 0 0 9) 119 36 0 0 9))) hX_16
  refine r_ex 4 (pc' := 123) (lo' := [some (.inr (.inr (some 33))), some (.inr (.inr (some 116)))]) (st' := [.inr (.inr (some 129)), .inr (.inr (some 46))]) rfl ?_
  refine r_call (m := 56) (args := [.inr (.inr (some 46)), .inr (.inr (some 129))]) (n' := 53) (pc' := 126) (lo' := [some (.inr (.inr (some 33))), some (.inr (.inr (some 116)))]) (st' := []) (I := .invokevirtual 56) (pc0 := 123) (len := 3) rfl rfl rfl (e_cl_spTake46_129 hX_17) ?_
  show WV _ _ _ 126 _ [] _ (cl_spTake46_129 (cl_stTake33_116 (cl_eaTake33_116 (vcp (vcp (vcp (v2 (v2 (v2 (v2 (v2 (v2 v 33 0 (v 116 0)) 33 1 (v 116 1)) 33 2 (v 116 2)) 33 3 (v 116 3)) 33 4 (v 116 4)) 33 5 (v 116 5)) 117 34 0 0 9) 118 35 0 0 9) 119 36 0 0 9)))) _
  have hX_18 : XI (cl_spTake46_129 (cl_stTake33_116 (cl_eaTake33_116 (vcp (vcp (vcp (v2 (v2 (v2 (v2 (v2 (v2 v 33 0 (v 116 0)) 33 1 (v 116 1)) 33 2 (v 116 2)) 33 3 (v 116 3)) 33 4 (v 116 4)) 33 5 (v 116 5)) 117 34 0 0 9) 118 35 0 0 9) 119 36 0 0 9)))) := i_cl_spTake46_129 (v := (cl_stTake33_116 (cl_eaTake33_116 (vcp (vcp (vcp (v2 (v2 (v2 (v2 (v2 (v2 v 33 0 (v 116 0)) 33 1 (v 116 1)) 33 2 (v 116 2)) 33 3 (v 116 3)) 33 4 (v 116 4)) 33 5 (v 116 5)) 117 34 0 0 9) 118 35 0 0 9) 119 36 0 0 9)))) hX_17
  refine r_ex 4 (pc' := 134) (lo' := [some (.inr (.inr (some 33))), some (.inr (.inr (some 116)))]) (st' := [.inr (.inr (some 133)), .inr (.inr (some 50))]) rfl ?_
  refine r_call (m := 56) (args := [.inr (.inr (some 50)), .inr (.inr (some 133))]) (n' := 53) (pc' := 137) (lo' := [some (.inr (.inr (some 33))), some (.inr (.inr (some 116)))]) (st' := []) (I := .invokevirtual 56) (pc0 := 134) (len := 3) rfl rfl rfl (e_cl_spTake50_133 hX_18) ?_
  show WV _ _ _ 137 _ [] _ (cl_spTake50_133 (cl_spTake46_129 (cl_stTake33_116 (cl_eaTake33_116 (vcp (vcp (vcp (v2 (v2 (v2 (v2 (v2 (v2 v 33 0 (v 116 0)) 33 1 (v 116 1)) 33 2 (v 116 2)) 33 3 (v 116 3)) 33 4 (v 116 4)) 33 5 (v 116 5)) 117 34 0 0 9) 118 35 0 0 9) 119 36 0 0 9))))) _
  have hX_19 : XI (cl_spTake50_133 (cl_spTake46_129 (cl_stTake33_116 (cl_eaTake33_116 (vcp (vcp (vcp (v2 (v2 (v2 (v2 (v2 (v2 v 33 0 (v 116 0)) 33 1 (v 116 1)) 33 2 (v 116 2)) 33 3 (v 116 3)) 33 4 (v 116 4)) 33 5 (v 116 5)) 117 34 0 0 9) 118 35 0 0 9) 119 36 0 0 9))))) := i_cl_spTake50_133 (v := (cl_spTake46_129 (cl_stTake33_116 (cl_eaTake33_116 (vcp (vcp (vcp (v2 (v2 (v2 (v2 (v2 (v2 v 33 0 (v 116 0)) 33 1 (v 116 1)) 33 2 (v 116 2)) 33 3 (v 116 3)) 33 4 (v 116 4)) 33 5 (v 116 5)) 117 34 0 0 9) 118 35 0 0 9) 119 36 0 0 9))))) hX_18
  refine r_ex 4 (pc' := 145) (lo' := [some (.inr (.inr (some 33))), some (.inr (.inr (some 116)))]) (st' := [.inr (.inr (some 137)), .inr (.inr (some 54))]) rfl ?_
  refine r_call (m := 56) (args := [.inr (.inr (some 54)), .inr (.inr (some 137))]) (n' := 53) (pc' := 148) (lo' := [some (.inr (.inr (some 33))), some (.inr (.inr (some 116)))]) (st' := []) (I := .invokevirtual 56) (pc0 := 145) (len := 3) rfl rfl rfl (e_cl_spTake54_137 hX_19) ?_
  show WV _ _ _ 148 _ [] _ (cl_spTake54_137 (cl_spTake50_133 (cl_spTake46_129 (cl_stTake33_116 (cl_eaTake33_116 (vcp (vcp (vcp (v2 (v2 (v2 (v2 (v2 (v2 v 33 0 (v 116 0)) 33 1 (v 116 1)) 33 2 (v 116 2)) 33 3 (v 116 3)) 33 4 (v 116 4)) 33 5 (v 116 5)) 117 34 0 0 9) 118 35 0 0 9) 119 36 0 0 9)))))) _
  have hX_20 : XI (cl_spTake54_137 (cl_spTake50_133 (cl_spTake46_129 (cl_stTake33_116 (cl_eaTake33_116 (vcp (vcp (vcp (v2 (v2 (v2 (v2 (v2 (v2 v 33 0 (v 116 0)) 33 1 (v 116 1)) 33 2 (v 116 2)) 33 3 (v 116 3)) 33 4 (v 116 4)) 33 5 (v 116 5)) 117 34 0 0 9) 118 35 0 0 9) 119 36 0 0 9)))))) := i_cl_spTake54_137 (v := (cl_spTake50_133 (cl_spTake46_129 (cl_stTake33_116 (cl_eaTake33_116 (vcp (vcp (vcp (v2 (v2 (v2 (v2 (v2 (v2 v 33 0 (v 116 0)) 33 1 (v 116 1)) 33 2 (v 116 2)) 33 3 (v 116 3)) 33 4 (v 116 4)) 33 5 (v 116 5)) 117 34 0 0 9) 118 35 0 0 9) 119 36 0 0 9)))))) hX_19
  refine r_ex 4 (pc' := 156) (lo' := [some (.inr (.inr (some 33))), some (.inr (.inr (some 116)))]) (st' := [.inr (.inr (some 141)), .inr (.inr (some 58))]) rfl ?_
  refine r_call (m := 56) (args := [.inr (.inr (some 58)), .inr (.inr (some 141))]) (n' := 53) (pc' := 159) (lo' := [some (.inr (.inr (some 33))), some (.inr (.inr (some 116)))]) (st' := []) (I := .invokevirtual 56) (pc0 := 156) (len := 3) rfl rfl rfl (e_cl_spTake58_141 hX_20) ?_
  show WV _ _ _ 159 _ [] _ (cl_spTake58_141 (cl_spTake54_137 (cl_spTake50_133 (cl_spTake46_129 (cl_stTake33_116 (cl_eaTake33_116 (vcp (vcp (vcp (v2 (v2 (v2 (v2 (v2 (v2 v 33 0 (v 116 0)) 33 1 (v 116 1)) 33 2 (v 116 2)) 33 3 (v 116 3)) 33 4 (v 116 4)) 33 5 (v 116 5)) 117 34 0 0 9) 118 35 0 0 9) 119 36 0 0 9))))))) _
  have hX_21 : XI (cl_spTake58_141 (cl_spTake54_137 (cl_spTake50_133 (cl_spTake46_129 (cl_stTake33_116 (cl_eaTake33_116 (vcp (vcp (vcp (v2 (v2 (v2 (v2 (v2 (v2 v 33 0 (v 116 0)) 33 1 (v 116 1)) 33 2 (v 116 2)) 33 3 (v 116 3)) 33 4 (v 116 4)) 33 5 (v 116 5)) 117 34 0 0 9) 118 35 0 0 9) 119 36 0 0 9))))))) := i_cl_spTake58_141 (v := (cl_spTake54_137 (cl_spTake50_133 (cl_spTake46_129 (cl_stTake33_116 (cl_eaTake33_116 (vcp (vcp (vcp (v2 (v2 (v2 (v2 (v2 (v2 v 33 0 (v 116 0)) 33 1 (v 116 1)) 33 2 (v 116 2)) 33 3 (v 116 3)) 33 4 (v 116 4)) 33 5 (v 116 5)) 117 34 0 0 9) 118 35 0 0 9) 119 36 0 0 9))))))) hX_20
  refine r_ret (rr := none) (I := .return_) (pc0 := 159) (len := 1) rfl rfl ?_
  exact hQ hX_21 

theorem e_cl_copy33_116 {X : PX} {d b : Nat} {v : VS}  (hX : XI v)  : EvV X (d + 1) 53 [.inr (.inr (some 33)), .inr (.inr (some 116))] b v none b (cl_copy33_116 v) := EvV.of (w_cl_copy33_116 hX  (fun _ => ⟨rfl, rfl, rfl⟩))

theorem i_cl_copy33_116 {v : VS}  (hX : XI v)  : XI (cl_copy33_116 v) := by
  have q : WV (0, fun _ => 0, none) (0 + 1) 53 0 [some (.inr (.inr (some 33))), some (.inr (.inr (some 116)))] [] 1 v (fun _ _ _ => XI (cl_copy33_116 v)) := w_cl_copy33_116 (X := (0, fun _ => 0, none)) (d := 0) (b := 1) hX  (fun q => q)
  obtain ⟨_, _, _, _, _, _, _, q⟩ := q
  exact q

theorem o_cl_copy33_116 {rk : Nat} {v : VS}  (hk : (rk < 33 ∨ 61 < rk)) : (cl_copy33_116 v ) rk = v rk := by
  unfold cl_copy33_116
  all_goals (show (cl_spTake58_141 (cl_spTake54_137 (cl_spTake50_133 (cl_spTake46_129 (cl_stTake33_116 (cl_eaTake33_116 (vcp (vcp (vcp (v2 (v2 (v2 (v2 (v2 (v2 v 33 0 (v 116 0)) 33 1 (v 116 1)) 33 2 (v 116 2)) 33 3 (v 116 3)) 33 4 (v 116 4)) 33 5 (v 116 5)) 117 34 0 0 9) 118 35 0 0 9) 119 36 0 0 9))))))) rk = _)
  all_goals (rw [o_cl_spTake58_141 (by omega), o_cl_spTake54_137 (by omega), o_cl_spTake50_133 (by omega), o_cl_spTake46_129 (by omega), o_cl_stTake33_116 (by omega), o_cl_eaTake33_116 (by omega), vcp_row (by omega), vcp_row (by omega), vcp_row (by omega), v2_row (by omega), v2_row (by omega), v2_row (by omega), v2_row (by omega), v2_row (by omega), v2_row (by omega)])

def cl_eaTake33_145 (v : VS)  : VS :=
  (vcp (vcp (vcp (vcp (v2 v 37 0 (v 149 0)) 150 38 0 0 12) 151 39 0 0 12) 152 40 0 0 12) 153 41 0 0 12)
theorem w_cl_eaTake33_145 {X : PX} {d b : Nat} {v : VS}  (hX : XI v)  {Q : Option PV → Nat → VS → Prop} (hQ : XI (cl_eaTake33_145 v) → Q none b (cl_eaTake33_145 v)) : WV X d 54 0 [some (.inr (.inr (some 37))), some (.inr (.inr (some 149)))] [] b v Q := by
  rw [cl_eaTake33_145] at hQ
  refine r_ex 3 (pc' := 5) (lo' := [some (.inr (.inr (some 37))), some (.inr (.inr (some 149)))]) (st' := [.inl (v 149 0), .inr (.inr (some 37))]) rfl ?_
  have hb_1 : 0 ≤ (v 149 0) ∧ (v 149 0) ≤ 12 := hX 149 0
  refine r_puti2 (j := 0) (pc' := 8) (pc0 := 5) (len := 3) rfl (s_37 _) rfl rfl rfl (Or.inl rfl) rfl rfl ?_
  have hX_2 : XI (v2 v 37 0 (v 149 0)) := XI.put hX (show 0 ≤ (v 149 0) ∧ (v 149 0) ≤ 12 from (by first | assumption | omega | (unfold R32 at *; omega) | (unfold R64 at *; omega) | (simp only [R32, R64] at *; omega)))
  refine r_ex 7 (pc' := 20) (lo' := [some (.inr (.inr (some 37))), some (.inr (.inr (some 149)))]) (st' := [.inl 12, .inl 0, .inr (.inr (some 38)), .inl 0, .inr (.inr (some 150))]) rfl ?_
  refine r_copy2 (pc' := 23) (pc0 := 20) (len := 3) rfl (s_150 _) (s_38 _) (Or.inl rfl) (by omega) (by decide) (by decide) rfl ?_
  have hX_3 : XI (vcp (v2 v 37 0 (v 149 0)) 150 38 0 0 12) := XI.cpy hX_2 (fun x h j => Exists.elim h (fun _ h => h))
  show WV _ _ _ 23 _ _ _ (vcp (v2 v 37 0 (v 149 0)) 150 38 0 0 12) _
  refine r_ex 7 (pc' := 35) (lo' := [some (.inr (.inr (some 37))), some (.inr (.inr (some 149)))]) (st' := [.inl 12, .inl 0, .inr (.inr (some 39)), .inl 0, .inr (.inr (some 151))]) rfl ?_
  refine r_copy2 (pc' := 38) (pc0 := 35) (len := 3) rfl (s_151 _) (s_39 _) (Or.inl rfl) (by omega) (by decide) (by decide) rfl ?_
  have hX_4 : XI (vcp (vcp (v2 v 37 0 (v 149 0)) 150 38 0 0 12) 151 39 0 0 12) := XI.cpy hX_3 (fun x h j => Exists.elim h (fun _ h => h))
  show WV _ _ _ 38 _ _ _ (vcp (vcp (v2 v 37 0 (v 149 0)) 150 38 0 0 12) 151 39 0 0 12) _
  refine r_ex 7 (pc' := 50) (lo' := [some (.inr (.inr (some 37))), some (.inr (.inr (some 149)))]) (st' := [.inl 12, .inl 0, .inr (.inr (some 40)), .inl 0, .inr (.inr (some 152))]) rfl ?_
  refine r_copy2 (pc' := 53) (pc0 := 50) (len := 3) rfl (s_152 _) (s_40 _) (Or.inl rfl) (by omega) (by decide) (by decide) rfl ?_
  have hX_5 : XI (vcp (vcp (vcp (v2 v 37 0 (v 149 0)) 150 38 0 0 12) 151 39 0 0 12) 152 40 0 0 12) := XI.cpy hX_4 (fun x h j => Exists.elim h (fun _ h => h))
  show WV _ _ _ 53 _ _ _ (vcp (vcp (vcp (v2 v 37 0 (v 149 0)) 150 38 0 0 12) 151 39 0 0 12) 152 40 0 0 12) _
  refine r_ex 7 (pc' := 65) (lo' := [some (.inr (.inr (some 37))), some (.inr (.inr (some 149)))]) (st' := [.inl 12, .inl 0, .inr (.inr (some 41)), .inl 0, .inr (.inr (some 153))]) rfl ?_
  refine r_copy2 (pc' := 68) (pc0 := 65) (len := 3) rfl (s_153 _) (s_41 _) (Or.inl rfl) (by omega) (by decide) (by decide) rfl ?_
  have hX_6 : XI (vcp (vcp (vcp (vcp (v2 v 37 0 (v 149 0)) 150 38 0 0 12) 151 39 0 0 12) 152 40 0 0 12) 153 41 0 0 12) := XI.cpy hX_5 (fun x h j => Exists.elim h (fun _ h => h))
  show WV _ _ _ 68 _ _ _ (vcp (vcp (vcp (vcp (v2 v 37 0 (v 149 0)) 150 38 0 0 12) 151 39 0 0 12) 152 40 0 0 12) 153 41 0 0 12) _
  refine r_ret (rr := none) (I := .return_) (pc0 := 68) (len := 1) rfl rfl ?_
  exact hQ hX_6 

theorem e_cl_eaTake33_145 {X : PX} {d b : Nat} {v : VS}  (hX : XI v)  : EvV X d 54 [.inr (.inr (some 37)), .inr (.inr (some 149))] b v none b (cl_eaTake33_145 v) := EvV.of (w_cl_eaTake33_145 hX  (fun _ => ⟨rfl, rfl, rfl⟩))

theorem i_cl_eaTake33_145 {v : VS}  (hX : XI v)  : XI (cl_eaTake33_145 v) := by
  have q : WV (0, fun _ => 0, none) 0 54 0 [some (.inr (.inr (some 37))), some (.inr (.inr (some 149)))] [] 1 v (fun _ _ _ => XI (cl_eaTake33_145 v)) := w_cl_eaTake33_145 (X := (0, fun _ => 0, none)) (d := 0) (b := 1) hX  (fun q => q)
  obtain ⟨_, _, _, _, _, _, _, q⟩ := q
  exact q

theorem o_cl_eaTake33_145 {rk : Nat} {v : VS}  (hk : (rk < 37 ∨ 41 < rk)) : (cl_eaTake33_145 v ) rk = v rk := by
  unfold cl_eaTake33_145
  all_goals (show (vcp (vcp (vcp (vcp (v2 v 37 0 (v 149 0)) 150 38 0 0 12) 151 39 0 0 12) 152 40 0 0 12) 153 41 0 0 12) rk = _)
  all_goals (rw [vcp_row (by omega), vcp_row (by omega), vcp_row (by omega), vcp_row (by omega), v2_row (by omega)])

def cl_stTake33_145 (v : VS)  : VS :=
  (vcp (vcp (vcp (v2 v 42 0 (v 154 0)) 155 43 0 0 5) 156 44 0 0 5) 157 45 0 0 5)
theorem w_cl_stTake33_145 {X : PX} {d b : Nat} {v : VS}  (hX : XI v)  {Q : Option PV → Nat → VS → Prop} (hQ : XI (cl_stTake33_145 v) → Q none b (cl_stTake33_145 v)) : WV X d 55 0 [some (.inr (.inr (some 42))), some (.inr (.inr (some 154)))] [] b v Q := by
  rw [cl_stTake33_145] at hQ
  refine r_ex 3 (pc' := 5) (lo' := [some (.inr (.inr (some 42))), some (.inr (.inr (some 154)))]) (st' := [.inl (v 154 0), .inr (.inr (some 42))]) rfl ?_
  have hb_1 : 0 ≤ (v 154 0) ∧ (v 154 0) ≤ 4 := hX 154 0
  refine r_puti2 (j := 0) (pc' := 8) (pc0 := 5) (len := 3) rfl (s_42 _) rfl rfl rfl (Or.inl rfl) rfl rfl ?_
  have hX_2 : XI (v2 v 42 0 (v 154 0)) := XI.put hX (show 0 ≤ (v 154 0) ∧ (v 154 0) ≤ 4 from (by first | assumption | omega | (unfold R32 at *; omega) | (unfold R64 at *; omega) | (simp only [R32, R64] at *; omega)))
  refine r_ex 7 (pc' := 19) (lo' := [some (.inr (.inr (some 42))), some (.inr (.inr (some 154)))]) (st' := [.inl 5, .inl 0, .inr (.inr (some 43)), .inl 0, .inr (.inr (some 155))]) rfl ?_
  refine r_copy2 (pc' := 22) (pc0 := 19) (len := 3) rfl (s_155 _) (s_43 _) (Or.inl rfl) (by omega) (by decide) (by decide) rfl ?_
  have hX_3 : XI (vcp (v2 v 42 0 (v 154 0)) 155 43 0 0 5) := XI.cpy hX_2 (fun x h j => Exists.elim h (fun _ h => h))
  show WV _ _ _ 22 _ _ _ (vcp (v2 v 42 0 (v 154 0)) 155 43 0 0 5) _
  refine r_ex 7 (pc' := 33) (lo' := [some (.inr (.inr (some 42))), some (.inr (.inr (some 154)))]) (st' := [.inl 5, .inl 0, .inr (.inr (some 44)), .inl 0, .inr (.inr (some 156))]) rfl ?_
  refine r_copy2 (pc' := 36) (pc0 := 33) (len := 3) rfl (s_156 _) (s_44 _) (Or.inl rfl) (by omega) (by decide) (by decide) rfl ?_
  have hX_4 : XI (vcp (vcp (v2 v 42 0 (v 154 0)) 155 43 0 0 5) 156 44 0 0 5) := XI.cpy hX_3 (fun x h j => Exists.elim h (fun _ h => h))
  show WV _ _ _ 36 _ _ _ (vcp (vcp (v2 v 42 0 (v 154 0)) 155 43 0 0 5) 156 44 0 0 5) _
  refine r_ex 7 (pc' := 47) (lo' := [some (.inr (.inr (some 42))), some (.inr (.inr (some 154)))]) (st' := [.inl 5, .inl 0, .inr (.inr (some 45)), .inl 0, .inr (.inr (some 157))]) rfl ?_
  refine r_copy2 (pc' := 50) (pc0 := 47) (len := 3) rfl (s_157 _) (s_45 _) (Or.inl rfl) (by omega) (by decide) (by decide) rfl ?_
  have hX_5 : XI (vcp (vcp (vcp (v2 v 42 0 (v 154 0)) 155 43 0 0 5) 156 44 0 0 5) 157 45 0 0 5) := XI.cpy hX_4 (fun x h j => Exists.elim h (fun _ h => h))
  show WV _ _ _ 50 _ _ _ (vcp (vcp (vcp (v2 v 42 0 (v 154 0)) 155 43 0 0 5) 156 44 0 0 5) 157 45 0 0 5) _
  refine r_ret (rr := none) (I := .return_) (pc0 := 50) (len := 1) rfl rfl ?_
  exact hQ hX_5 

theorem e_cl_stTake33_145 {X : PX} {d b : Nat} {v : VS}  (hX : XI v)  : EvV X d 55 [.inr (.inr (some 42)), .inr (.inr (some 154))] b v none b (cl_stTake33_145 v) := EvV.of (w_cl_stTake33_145 hX  (fun _ => ⟨rfl, rfl, rfl⟩))

theorem i_cl_stTake33_145 {v : VS}  (hX : XI v)  : XI (cl_stTake33_145 v) := by
  have q : WV (0, fun _ => 0, none) 0 55 0 [some (.inr (.inr (some 42))), some (.inr (.inr (some 154)))] [] 1 v (fun _ _ _ => XI (cl_stTake33_145 v)) := w_cl_stTake33_145 (X := (0, fun _ => 0, none)) (d := 0) (b := 1) hX  (fun q => q)
  obtain ⟨_, _, _, _, _, _, _, q⟩ := q
  exact q

theorem o_cl_stTake33_145 {rk : Nat} {v : VS}  (hk : (rk < 42 ∨ 45 < rk)) : (cl_stTake33_145 v ) rk = v rk := by
  unfold cl_stTake33_145
  all_goals (show (vcp (vcp (vcp (v2 v 42 0 (v 154 0)) 155 43 0 0 5) 156 44 0 0 5) 157 45 0 0 5) rk = _)
  all_goals (rw [vcp_row (by omega), vcp_row (by omega), vcp_row (by omega), v2_row (by omega)])

def cl_spTake46_158 (v : VS)  : VS :=
  (vcp (vcp (vcp (v2 v 46 0 (v 158 0)) 159 47 0 0 6) 160 48 0 0 6) 161 49 0 0 6)
theorem w_cl_spTake46_158 {X : PX} {d b : Nat} {v : VS}  (hX : XI v)  {Q : Option PV → Nat → VS → Prop} (hQ : XI (cl_spTake46_158 v) → Q none b (cl_spTake46_158 v)) : WV X d 56 0 [some (.inr (.inr (some 46))), some (.inr (.inr (some 158)))] [] b v Q := by
  rw [cl_spTake46_158] at hQ
  refine r_ex 3 (pc' := 5) (lo' := [some (.inr (.inr (some 46))), some (.inr (.inr (some 158)))]) (st' := [.inl (v 158 0), .inr (.inr (some 46))]) rfl ?_
  have hb_1 : 0 ≤ (v 158 0) ∧ (v 158 0) ≤ 6 := hX 158 0
  refine r_puti2 (j := 0) (pc' := 8) (pc0 := 5) (len := 3) rfl (s_46 _) rfl rfl rfl (Or.inl rfl) rfl rfl ?_
  have hX_2 : XI (v2 v 46 0 (v 158 0)) := XI.put hX (show 0 ≤ (v 158 0) ∧ (v 158 0) ≤ 6 from (by first | assumption | omega | (unfold R32 at *; omega) | (unfold R64 at *; omega) | (simp only [R32, R64] at *; omega)))
  refine r_ex 7 (pc' := 20) (lo' := [some (.inr (.inr (some 46))), some (.inr (.inr (some 158)))]) (st' := [.inl 6, .inl 0, .inr (.inr (some 47)), .inl 0, .inr (.inr (some 159))]) rfl ?_
  refine r_copy2 (pc' := 23) (pc0 := 20) (len := 3) rfl (s_159 _) (s_47 _) (Or.inl rfl) (by omega) (by decide) (by decide) rfl ?_
  have hX_3 : XI (vcp (v2 v 46 0 (v 158 0)) 159 47 0 0 6) := XI.cpy hX_2 (fun x h j => Exists.elim h (fun _ h => h))
  show WV _ _ _ 23 _ _ _ (vcp (v2 v 46 0 (v 158 0)) 159 47 0 0 6) _
  refine r_ex 7 (pc' := 35) (lo' := [some (.inr (.inr (some 46))), some (.inr (.inr (some 158)))]) (st' := [.inl 6, .inl 0, .inr (.inr (some 48)), .inl 0, .inr (.inr (some 160))]) rfl ?_
  refine r_copy2 (pc' := 38) (pc0 := 35) (len := 3) rfl (s_160 _) (s_48 _) (Or.inl rfl) (by omega) (by decide) (by decide) rfl ?_
  have hX_4 : XI (vcp (vcp (v2 v 46 0 (v 158 0)) 159 47 0 0 6) 160 48 0 0 6) := XI.cpy hX_3 (fun x h j => Exists.elim h (fun _ h => h))
  show WV _ _ _ 38 _ _ _ (vcp (vcp (v2 v 46 0 (v 158 0)) 159 47 0 0 6) 160 48 0 0 6) _
  refine r_ex 7 (pc' := 50) (lo' := [some (.inr (.inr (some 46))), some (.inr (.inr (some 158)))]) (st' := [.inl 6, .inl 0, .inr (.inr (some 49)), .inl 0, .inr (.inr (some 161))]) rfl ?_
  refine r_copy2 (pc' := 53) (pc0 := 50) (len := 3) rfl (s_161 _) (s_49 _) (Or.inl rfl) (by omega) (by decide) (by decide) rfl ?_
  have hX_5 : XI (vcp (vcp (vcp (v2 v 46 0 (v 158 0)) 159 47 0 0 6) 160 48 0 0 6) 161 49 0 0 6) := XI.cpy hX_4 (fun x h j => Exists.elim h (fun _ h => h))
  show WV _ _ _ 53 _ _ _ (vcp (vcp (vcp (v2 v 46 0 (v 158 0)) 159 47 0 0 6) 160 48 0 0 6) 161 49 0 0 6) _
  refine r_ret (rr := none) (I := .return_) (pc0 := 53) (len := 1) rfl rfl ?_
  exact hQ hX_5 

theorem e_cl_spTake46_158 {X : PX} {d b : Nat} {v : VS}  (hX : XI v)  : EvV X d 56 [.inr (.inr (some 46)), .inr (.inr (some 158))] b v none b (cl_spTake46_158 v) := EvV.of (w_cl_spTake46_158 hX  (fun _ => ⟨rfl, rfl, rfl⟩))

theorem i_cl_spTake46_158 {v : VS}  (hX : XI v)  : XI (cl_spTake46_158 v) := by
  have q : WV (0, fun _ => 0, none) 0 56 0 [some (.inr (.inr (some 46))), some (.inr (.inr (some 158)))] [] 1 v (fun _ _ _ => XI (cl_spTake46_158 v)) := w_cl_spTake46_158 (X := (0, fun _ => 0, none)) (d := 0) (b := 1) hX  (fun q => q)
  obtain ⟨_, _, _, _, _, _, _, q⟩ := q
  exact q

theorem o_cl_spTake46_158 {rk : Nat} {v : VS}  (hk : (rk < 46 ∨ 49 < rk)) : (cl_spTake46_158 v ) rk = v rk := by
  unfold cl_spTake46_158
  all_goals (show (vcp (vcp (vcp (v2 v 46 0 (v 158 0)) 159 47 0 0 6) 160 48 0 0 6) 161 49 0 0 6) rk = _)
  all_goals (rw [vcp_row (by omega), vcp_row (by omega), vcp_row (by omega), v2_row (by omega)])

def cl_spTake50_162 (v : VS)  : VS :=
  (vcp (vcp (vcp (v2 v 50 0 (v 162 0)) 163 51 0 0 6) 164 52 0 0 6) 165 53 0 0 6)
theorem w_cl_spTake50_162 {X : PX} {d b : Nat} {v : VS}  (hX : XI v)  {Q : Option PV → Nat → VS → Prop} (hQ : XI (cl_spTake50_162 v) → Q none b (cl_spTake50_162 v)) : WV X d 56 0 [some (.inr (.inr (some 50))), some (.inr (.inr (some 162)))] [] b v Q := by
  rw [cl_spTake50_162] at hQ
  refine r_ex 3 (pc' := 5) (lo' := [some (.inr (.inr (some 50))), some (.inr (.inr (some 162)))]) (st' := [.inl (v 162 0), .inr (.inr (some 50))]) rfl ?_
  have hb_1 : 0 ≤ (v 162 0) ∧ (v 162 0) ≤ 6 := hX 162 0
  refine r_puti2 (j := 0) (pc' := 8) (pc0 := 5) (len := 3) rfl (s_50 _) rfl rfl rfl (Or.inl rfl) rfl rfl ?_
  have hX_2 : XI (v2 v 50 0 (v 162 0)) := XI.put hX (show 0 ≤ (v 162 0) ∧ (v 162 0) ≤ 6 from (by first | assumption | omega | (unfold R32 at *; omega) | (unfold R64 at *; omega) | (simp only [R32, R64] at *; omega)))
  refine r_ex 7 (pc' := 20) (lo' := [some (.inr (.inr (some 50))), some (.inr (.inr (some 162)))]) (st' := [.inl 6, .inl 0, .inr (.inr (some 51)), .inl 0, .inr (.inr (some 163))]) rfl ?_
  refine r_copy2 (pc' := 23) (pc0 := 20) (len := 3) rfl (s_163 _) (s_51 _) (Or.inl rfl) (by omega) (by decide) (by decide) rfl ?_
  have hX_3 : XI (vcp (v2 v 50 0 (v 162 0)) 163 51 0 0 6) := XI.cpy hX_2 (fun x h j => Exists.elim h (fun _ h => h))
  show WV _ _ _ 23 _ _ _ (vcp (v2 v 50 0 (v 162 0)) 163 51 0 0 6) _
  refine r_ex 7 (pc' := 35) (lo' := [some (.inr (.inr (some 50))), some (.inr (.inr (some 162)))]) (st' := [.inl 6, .inl 0, .inr (.inr (some 52)), .inl 0, .inr (.inr (some 164))]) rfl ?_
  refine r_copy2 (pc' := 38) (pc0 := 35) (len := 3) rfl (s_164 _) (s_52 _) (Or.inl rfl) (by omega) (by decide) (by decide) rfl ?_
  have hX_4 : XI (vcp (vcp (v2 v 50 0 (v 162 0)) 163 51 0 0 6) 164 52 0 0 6) := XI.cpy hX_3 (fun x h j => Exists.elim h (fun _ h => h))
  show WV _ _ _ 38 _ _ _ (vcp (vcp (v2 v 50 0 (v 162 0)) 163 51 0 0 6) 164 52 0 0 6) _
  refine r_ex 7 (pc' := 50) (lo' := [some (.inr (.inr (some 50))), some (.inr (.inr (some 162)))]) (st' := [.inl 6, .inl 0, .inr (.inr (some 53)), .inl 0, .inr (.inr (some 165))]) rfl ?_
  refine r_copy2 (pc' := 53) (pc0 := 50) (len := 3) rfl (s_165 _) (s_53 _) (Or.inl rfl) (by omega) (by decide) (by decide) rfl ?_
  have hX_5 : XI (vcp (vcp (vcp (v2 v 50 0 (v 162 0)) 163 51 0 0 6) 164 52 0 0 6) 165 53 0 0 6) := XI.cpy hX_4 (fun x h j => Exists.elim h (fun _ h => h))
  show WV _ _ _ 53 _ _ _ (vcp (vcp (vcp (v2 v 50 0 (v 162 0)) 163 51 0 0 6) 164 52 0 0 6) 165 53 0 0 6) _
  refine r_ret (rr := none) (I := .return_) (pc0 := 53) (len := 1) rfl rfl ?_
  exact hQ hX_5 

theorem e_cl_spTake50_162 {X : PX} {d b : Nat} {v : VS}  (hX : XI v)  : EvV X d 56 [.inr (.inr (some 50)), .inr (.inr (some 162))] b v none b (cl_spTake50_162 v) := EvV.of (w_cl_spTake50_162 hX  (fun _ => ⟨rfl, rfl, rfl⟩))

theorem i_cl_spTake50_162 {v : VS}  (hX : XI v)  : XI (cl_spTake50_162 v) := by
  have q : WV (0, fun _ => 0, none) 0 56 0 [some (.inr (.inr (some 50))), some (.inr (.inr (some 162)))] [] 1 v (fun _ _ _ => XI (cl_spTake50_162 v)) := w_cl_spTake50_162 (X := (0, fun _ => 0, none)) (d := 0) (b := 1) hX  (fun q => q)
  obtain ⟨_, _, _, _, _, _, _, q⟩ := q
  exact q

theorem o_cl_spTake50_162 {rk : Nat} {v : VS}  (hk : (rk < 50 ∨ 53 < rk)) : (cl_spTake50_162 v ) rk = v rk := by
  unfold cl_spTake50_162
  all_goals (show (vcp (vcp (vcp (v2 v 50 0 (v 162 0)) 163 51 0 0 6) 164 52 0 0 6) 165 53 0 0 6) rk = _)
  all_goals (rw [vcp_row (by omega), vcp_row (by omega), vcp_row (by omega), v2_row (by omega)])

def cl_spTake54_166 (v : VS)  : VS :=
  (vcp (vcp (vcp (v2 v 54 0 (v 166 0)) 167 55 0 0 6) 168 56 0 0 6) 169 57 0 0 6)
theorem w_cl_spTake54_166 {X : PX} {d b : Nat} {v : VS}  (hX : XI v)  {Q : Option PV → Nat → VS → Prop} (hQ : XI (cl_spTake54_166 v) → Q none b (cl_spTake54_166 v)) : WV X d 56 0 [some (.inr (.inr (some 54))), some (.inr (.inr (some 166)))] [] b v Q := by
  rw [cl_spTake54_166] at hQ
  refine r_ex 3 (pc' := 5) (lo' := [some (.inr (.inr (some 54))), some (.inr (.inr (some 166)))]) (st' := [.inl (v 166 0), .inr (.inr (some 54))]) rfl ?_
  have hb_1 : 0 ≤ (v 166 0) ∧ (v 166 0) ≤ 6 := hX 166 0
  refine r_puti2 (j := 0) (pc' := 8) (pc0 := 5) (len := 3) rfl (s_54 _) rfl rfl rfl (Or.inl rfl) rfl rfl ?_
  have hX_2 : XI (v2 v 54 0 (v 166 0)) := XI.put hX (show 0 ≤ (v 166 0) ∧ (v 166 0) ≤ 6 from (by first | assumption | omega | (unfold R32 at *; omega) | (unfold R64 at *; omega) | (simp only [R32, R64] at *; omega)))
  refine r_ex 7 (pc' := 20) (lo' := [some (.inr (.inr (some 54))), some (.inr (.inr (some 166)))]) (st' := [.inl 6, .inl 0, .inr (.inr (some 55)), .inl 0, .inr (.inr (some 167))]) rfl ?_
  refine r_copy2 (pc' := 23) (pc0 := 20) (len := 3) rfl (s_167 _) (s_55 _) (Or.inl rfl) (by omega) (by decide) (by decide) rfl ?_
  have hX_3 : XI (vcp (v2 v 54 0 (v 166 0)) 167 55 0 0 6) := XI.cpy hX_2 (fun x h j => Exists.elim h (fun _ h => h))
  show WV _ _ _ 23 _ _ _ (vcp (v2 v 54 0 (v 166 0)) 167 55 0 0 6) _
  refine r_ex 7 (pc' := 35) (lo' := [some (.inr (.inr (some 54))), some (.inr (.inr (some 166)))]) (st' := [.inl 6, .inl 0, .inr (.inr (some 56)), .inl 0, .inr (.inr (some 168))]) rfl ?_
  refine r_copy2 (pc' := 38) (pc0 := 35) (len := 3) rfl (s_168 _) (s_56 _) (Or.inl rfl) (by omega) (by decide) (by decide) rfl ?_
  have hX_4 : XI (vcp (vcp (v2 v 54 0 (v 166 0)) 167 55 0 0 6) 168 56 0 0 6) := XI.cpy hX_3 (fun x h j => Exists.elim h (fun _ h => h))
  show WV _ _ _ 38 _ _ _ (vcp (vcp (v2 v 54 0 (v 166 0)) 167 55 0 0 6) 168 56 0 0 6) _
  refine r_ex 7 (pc' := 50) (lo' := [some (.inr (.inr (some 54))), some (.inr (.inr (some 166)))]) (st' := [.inl 6, .inl 0, .inr (.inr (some 57)), .inl 0, .inr (.inr (some 169))]) rfl ?_
  refine r_copy2 (pc' := 53) (pc0 := 50) (len := 3) rfl (s_169 _) (s_57 _) (Or.inl rfl) (by omega) (by decide) (by decide) rfl ?_
  have hX_5 : XI (vcp (vcp (vcp (v2 v 54 0 (v 166 0)) 167 55 0 0 6) 168 56 0 0 6) 169 57 0 0 6) := XI.cpy hX_4 (fun x h j => Exists.elim h (fun _ h => h))
  show WV _ _ _ 53 _ _ _ (vcp (vcp (vcp (v2 v 54 0 (v 166 0)) 167 55 0 0 6) 168 56 0 0 6) 169 57 0 0 6) _
  refine r_ret (rr := none) (I := .return_) (pc0 := 53) (len := 1) rfl rfl ?_
  exact hQ hX_5 

theorem e_cl_spTake54_166 {X : PX} {d b : Nat} {v : VS}  (hX : XI v)  : EvV X d 56 [.inr (.inr (some 54)), .inr (.inr (some 166))] b v none b (cl_spTake54_166 v) := EvV.of (w_cl_spTake54_166 hX  (fun _ => ⟨rfl, rfl, rfl⟩))

theorem i_cl_spTake54_166 {v : VS}  (hX : XI v)  : XI (cl_spTake54_166 v) := by
  have q : WV (0, fun _ => 0, none) 0 56 0 [some (.inr (.inr (some 54))), some (.inr (.inr (some 166)))] [] 1 v (fun _ _ _ => XI (cl_spTake54_166 v)) := w_cl_spTake54_166 (X := (0, fun _ => 0, none)) (d := 0) (b := 1) hX  (fun q => q)
  obtain ⟨_, _, _, _, _, _, _, q⟩ := q
  exact q

theorem o_cl_spTake54_166 {rk : Nat} {v : VS}  (hk : (rk < 54 ∨ 57 < rk)) : (cl_spTake54_166 v ) rk = v rk := by
  unfold cl_spTake54_166
  all_goals (show (vcp (vcp (vcp (v2 v 54 0 (v 166 0)) 167 55 0 0 6) 168 56 0 0 6) 169 57 0 0 6) rk = _)
  all_goals (rw [vcp_row (by omega), vcp_row (by omega), vcp_row (by omega), v2_row (by omega)])

def cl_spTake58_170 (v : VS)  : VS :=
  (vcp (vcp (vcp (v2 v 58 0 (v 170 0)) 171 59 0 0 6) 172 60 0 0 6) 173 61 0 0 6)
theorem w_cl_spTake58_170 {X : PX} {d b : Nat} {v : VS}  (hX : XI v)  {Q : Option PV → Nat → VS → Prop} (hQ : XI (cl_spTake58_170 v) → Q none b (cl_spTake58_170 v)) : WV X d 56 0 [some (.inr (.inr (some 58))), some (.inr (.inr (some 170)))] [] b v Q := by
  rw [cl_spTake58_170] at hQ
  refine r_ex 3 (pc' := 5) (lo' := [some (.inr (.inr (some 58))), some (.inr (.inr (some 170)))]) (st' := [.inl (v 170 0), .inr (.inr (some 58))]) rfl ?_
  have hb_1 : 0 ≤ (v 170 0) ∧ (v 170 0) ≤ 6 := hX 170 0
  refine r_puti2 (j := 0) (pc' := 8) (pc0 := 5) (len := 3) rfl (s_58 _) rfl rfl rfl (Or.inl rfl) rfl rfl ?_
  have hX_2 : XI (v2 v 58 0 (v 170 0)) := XI.put hX (show 0 ≤ (v 170 0) ∧ (v 170 0) ≤ 6 from (by first | assumption | omega | (unfold R32 at *; omega) | (unfold R64 at *; omega) | (simp only [R32, R64] at *; omega)))
  refine r_ex 7 (pc' := 20) (lo' := [some (.inr (.inr (some 58))), some (.inr (.inr (some 170)))]) (st' := [.inl 6, .inl 0, .inr (.inr (some 59)), .inl 0, .inr (.inr (some 171))]) rfl ?_
  refine r_copy2 (pc' := 23) (pc0 := 20) (len := 3) rfl (s_171 _) (s_59 _) (Or.inl rfl) (by omega) (by decide) (by decide) rfl ?_
  have hX_3 : XI (vcp (v2 v 58 0 (v 170 0)) 171 59 0 0 6) := XI.cpy hX_2 (fun x h j => Exists.elim h (fun _ h => h))
  show WV _ _ _ 23 _ _ _ (vcp (v2 v 58 0 (v 170 0)) 171 59 0 0 6) _
  refine r_ex 7 (pc' := 35) (lo' := [some (.inr (.inr (some 58))), some (.inr (.inr (some 170)))]) (st' := [.inl 6, .inl 0, .inr (.inr (some 60)), .inl 0, .inr (.inr (some 172))]) rfl ?_
  refine r_copy2 (pc' := 38) (pc0 := 35) (len := 3) rfl (s_172 _) (s_60 _) (Or.inl rfl) (by omega) (by decide) (by decide) rfl ?_
  have hX_4 : XI (vcp (vcp (v2 v 58 0 (v 170 0)) 171 59 0 0 6) 172 60 0 0 6) := XI.cpy hX_3 (fun x h j => Exists.elim h (fun _ h => h))
  show WV _ _ _ 38 _ _ _ (vcp (vcp (v2 v 58 0 (v 170 0)) 171 59 0 0 6) 172 60 0 0 6) _
  refine r_ex 7 (pc' := 50) (lo' := [some (.inr (.inr (some 58))), some (.inr (.inr (some 170)))]) (st' := [.inl 6, .inl 0, .inr (.inr (some 61)), .inl 0, .inr (.inr (some 173))]) rfl ?_
  refine r_copy2 (pc' := 53) (pc0 := 50) (len := 3) rfl (s_173 _) (s_61 _) (Or.inl rfl) (by omega) (by decide) (by decide) rfl ?_
  have hX_5 : XI (vcp (vcp (vcp (v2 v 58 0 (v 170 0)) 171 59 0 0 6) 172 60 0 0 6) 173 61 0 0 6) := XI.cpy hX_4 (fun x h j => Exists.elim h (fun _ h => h))
  show WV _ _ _ 53 _ _ _ (vcp (vcp (vcp (v2 v 58 0 (v 170 0)) 171 59 0 0 6) 172 60 0 0 6) 173 61 0 0 6) _
  refine r_ret (rr := none) (I := .return_) (pc0 := 53) (len := 1) rfl rfl ?_
  exact hQ hX_5 

theorem e_cl_spTake58_170 {X : PX} {d b : Nat} {v : VS}  (hX : XI v)  : EvV X d 56 [.inr (.inr (some 58)), .inr (.inr (some 170))] b v none b (cl_spTake58_170 v) := EvV.of (w_cl_spTake58_170 hX  (fun _ => ⟨rfl, rfl, rfl⟩))

theorem i_cl_spTake58_170 {v : VS}  (hX : XI v)  : XI (cl_spTake58_170 v) := by
  have q : WV (0, fun _ => 0, none) 0 56 0 [some (.inr (.inr (some 58))), some (.inr (.inr (some 170)))] [] 1 v (fun _ _ _ => XI (cl_spTake58_170 v)) := w_cl_spTake58_170 (X := (0, fun _ => 0, none)) (d := 0) (b := 1) hX  (fun q => q)
  obtain ⟨_, _, _, _, _, _, _, q⟩ := q
  exact q

theorem o_cl_spTake58_170 {rk : Nat} {v : VS}  (hk : (rk < 58 ∨ 61 < rk)) : (cl_spTake58_170 v ) rk = v rk := by
  unfold cl_spTake58_170
  all_goals (show (vcp (vcp (vcp (v2 v 58 0 (v 170 0)) 171 59 0 0 6) 172 60 0 0 6) 173 61 0 0 6) rk = _)
  all_goals (rw [vcp_row (by omega), vcp_row (by omega), vcp_row (by omega), v2_row (by omega)])

def cl_copy33_145 (v : VS)  : VS :=
  (cl_spTake58_170 (cl_spTake54_166 (cl_spTake50_162 (cl_spTake46_158 (cl_stTake33_145 (cl_eaTake33_145 (vcp (vcp (vcp (v2 (v2 (v2 (v2 (v2 (v2 v 33 0 (v 145 0)) 33 1 (v 145 1)) 33 2 (v 145 2)) 33 3 (v 145 3)) 33 4 (v 145 4)) 33 5 (v 145 5)) 146 34 0 0 9) 147 35 0 0 9) 148 36 0 0 9)))))))
theorem w_cl_copy33_145 {X : PX} {d b : Nat} {v : VS}  (hX : XI v)  {Q : Option PV → Nat → VS → Prop} (hQ : XI (cl_copy33_145 v) → Q none b (cl_copy33_145 v)) : WV X (d + 1) 53 0 [some (.inr (.inr (some 33))), some (.inr (.inr (some 145)))] [] b v Q := by
  rw [cl_copy33_145] at hQ
  refine r_ex 3 (pc' := 5) (lo' := [some (.inr (.inr (some 33))), some (.inr (.inr (some 145)))]) (st' := [.inl (v 145 0), .inr (.inr (some 33))]) rfl ?_
  have hb_1 : 0 ≤ (v 145 0) ∧ (v 145 0) ≤ 9 := hX 145 0
  refine r_puti2 (j := 0) (pc' := 8) (pc0 := 5) (len := 3) rfl (s_33 _) rfl rfl rfl (Or.inl rfl) rfl rfl ?_
  have hX_2 : XI (v2 v 33 0 (v 145 0)) := XI.put hX (show 0 ≤ (v 145 0) ∧ (v 145 0) ≤ 9 from (by first | assumption | omega | (unfold R32 at *; omega) | (unfold R64 at *; omega) | (simp only [R32, R64] at *; omega)))
  refine r_ex 3 (pc' := 13) (lo' := [some (.inr (.inr (some 33))), some (.inr (.inr (some 145)))]) (st' := [.inl (v 145 1), .inr (.inr (some 33))]) rfl ?_
  have hb_3 : 0 ≤ (v 145 1) ∧ (v 145 1) ≤ 300 := hX_2 145 1
  refine r_puti2 (j := 1) (pc' := 16) (pc0 := 13) (len := 3) rfl (s_33 _) rfl rfl rfl (Or.inl rfl) rfl rfl ?_
  have hX_4 : XI (v2 (v2 v 33 0 (v 145 0)) 33 1 (v 145 1)) := XI.put hX_2 (show 0 ≤ (v 145 1) ∧ (v 145 1) ≤ 300 from (by first | assumption | omega | (unfold R32 at *; omega) | (unfold R64 at *; omega) | (simp only [R32, R64] at *; omega)))
  refine r_ex 3 (pc' := 21) (lo' := [some (.inr (.inr (some 33))), some (.inr (.inr (some 145)))]) (st' := [.inl (v 145 2), .inr (.inr (some 33))]) rfl ?_
  have hb_5 : 0 ≤ (v 145 2) ∧ (v 145 2) ≤ 2001 := hX_4 145 2
  refine r_puti2 (j := 2) (pc' := 24) (pc0 := 21) (len := 3) rfl (s_33 _) rfl rfl rfl (Or.inl rfl) rfl rfl ?_
  have hX_6 : XI (v2 (v2 (v2 v 33 0 (v 145 0)) 33 1 (v 145 1)) 33 2 (v 145 2)) := XI.put hX_4 (show 0 ≤ (v 145 2) ∧ (v 145 2) ≤ 2001 from (by first | assumption | omega | (unfold R32 at *; omega) | (unfold R64 at *; omega) | (simp only [R32, R64] at *; omega)))
  refine r_ex 3 (pc' := 29) (lo' := [some (.inr (.inr (some 33))), some (.inr (.inr (some 145)))]) (st' := [.inl (v 145 3), .inr (.inr (some 33))]) rfl ?_
  have hb_7 : 0 ≤ (v 145 3) ∧ (v 145 3) ≤ 9 := hX_6 145 3
  refine r_puti2 (j := 3) (pc' := 32) (pc0 := 29) (len := 3) rfl (s_33 _) rfl rfl rfl (Or.inl rfl) rfl rfl ?_
  have hX_8 : XI (v2 (v2 (v2 (v2 v 33 0 (v 145 0)) 33 1 (v 145 1)) 33 2 (v 145 2)) 33 3 (v 145 3)) := XI.put hX_6 (show 0 ≤ (v 145 3) ∧ (v 145 3) ≤ 9 from (by first | assumption | omega | (unfold R32 at *; omega) | (unfold R64 at *; omega) | (simp only [R32, R64] at *; omega)))
  refine r_ex 3 (pc' := 37) (lo' := [some (.inr (.inr (some 33))), some (.inr (.inr (some 145)))]) (st' := [.inl (v 145 4), .inr (.inr (some 33))]) rfl ?_
  have hb_9 : 0 ≤ (v 145 4) ∧ (v 145 4) ≤ 511 := hX_8 145 4
  refine r_puti2 (j := 4) (pc' := 40) (pc0 := 37) (len := 3) rfl (s_33 _) rfl rfl rfl (Or.inl rfl) rfl rfl ?_
  have hX_10 : XI (v2 (v2 (v2 (v2 (v2 v 33 0 (v 145 0)) 33 1 (v 145 1)) 33 2 (v 145 2)) 33 3 (v 145 3)) 33 4 (v 145 4)) := XI.put hX_8 (show 0 ≤ (v 145 4) ∧ (v 145 4) ≤ 511 from (by first | assumption | omega | (unfold R32 at *; omega) | (unfold R64 at *; omega) | (simp only [R32, R64] at *; omega)))
  refine r_ex 3 (pc' := 45) (lo' := [some (.inr (.inr (some 33))), some (.inr (.inr (some 145)))]) (st' := [.inl (v 145 5), .inr (.inr (some 33))]) rfl ?_
  have hb_11 : 0 ≤ (v 145 5) ∧ (v 145 5) ≤ 4095 := hX_10 145 5
  refine r_puti2 (j := 5) (pc' := 48) (pc0 := 45) (len := 3) rfl (s_33 _) rfl rfl rfl (Or.inl rfl) rfl rfl ?_
  have hX_12 : XI (v2 (v2 (v2 (v2 (v2 (v2 v 33 0 (v 145 0)) 33 1 (v 145 1)) 33 2 (v 145 2)) 33 3 (v 145 3)) 33 4 (v 145 4)) 33 5 (v 145 5)) := XI.put hX_10 (show 0 ≤ (v 145 5) ∧ (v 145 5) ≤ 4095 from (by first | assumption | omega | (unfold R32 at *; omega) | (unfold R64 at *; omega) | (simp only [R32, R64] at *; omega)))
  refine r_ex 7 (pc' := 60) (lo' := [some (.inr (.inr (some 33))), some (.inr (.inr (some 145)))]) (st' := [.inl 9, .inl 0, .inr (.inr (some 34)), .inl 0, .inr (.inr (some 146))]) rfl ?_
  refine r_copy2 (pc' := 63) (pc0 := 60) (len := 3) rfl (s_146 _) (s_34 _) (Or.inl rfl) (by omega) (by decide) (by decide) rfl ?_
  have hX_13 : XI (vcp (v2 (v2 (v2 (v2 (v2 (v2 v 33 0 (v 145 0)) 33 1 (v 145 1)) 33 2 (v 145 2)) 33 3 (v 145 3)) 33 4 (v 145 4)) 33 5 (v 145 5)) 146 34 0 0 9) := XI.cpy hX_12 (fun x h j => Exists.elim h (fun _ h => h))
  show WV _ _ _ 63 _ _ _ (vcp (v2 (v2 (v2 (v2 (v2 (v2 v 33 0 (v 145 0)) 33 1 (v 145 1)) 33 2 (v 145 2)) 33 3 (v 145 3)) 33 4 (v 145 4)) 33 5 (v 145 5)) 146 34 0 0 9) _
  refine r_ex 7 (pc' := 75) (lo' := [some (.inr (.inr (some 33))), some (.inr (.inr (some 145)))]) (st' := [.inl 9, .inl 0, .inr (.inr (some 35)), .inl 0, .inr (.inr (some 147))]) rfl ?_
  refine r_copy2 (pc' := 78) (pc0 := 75) (len := 3) rfl (s_147 _) (s_35 _) (Or.inl rfl) (by omega) (by decide) (by decide) rfl ?_
  have hX_14 : XI (vcp (vcp (v2 (v2 (v2 (v2 (v2 (v2 v 33 0 (v 145 0)) 33 1 (v 145 1)) 33 2 (v 145 2)) 33 3 (v 145 3)) 33 4 (v 145 4)) 33 5 (v 145 5)) 146 34 0 0 9) 147 35 0 0 9) := XI.cpy hX_13 (fun x h j => Exists.elim h (fun _ h => h))
  show WV _ _ _ 78 _ _ _ (vcp (vcp (v2 (v2 (v2 (v2 (v2 (v2 v 33 0 (v 145 0)) 33 1 (v 145 1)) 33 2 (v 145 2)) 33 3 (v 145 3)) 33 4 (v 145 4)) 33 5 (v 145 5)) 146 34 0 0 9) 147 35 0 0 9) _
  refine r_ex 7 (pc' := 90) (lo' := [some (.inr (.inr (some 33))), some (.inr (.inr (some 145)))]) (st' := [.inl 9, .inl 0, .inr (.inr (some 36)), .inl 0, .inr (.inr (some 148))]) rfl ?_
  refine r_copy2 (pc' := 93) (pc0 := 90) (len := 3) rfl (s_148 _) (s_36 _) (Or.inl rfl) (by omega) (by decide) (by decide) rfl ?_
  have hX_15 : XI (vcp (vcp (vcp (v2 (v2 (v2 (v2 (v2 (v2 v 33 0 (v 145 0)) 33 1 (v 145 1)) 33 2 (v 145 2)) 33 3 (v 145 3)) 33 4 (v 145 4)) 33 5 (v 145 5)) 146 34 0 0 9) 147 35 0 0 9) 148 36 0 0 9) := XI.cpy hX_14 (fun x h j => Exists.elim h (fun _ h => h))
  show WV _ _ _ 93 _ _ _ (vcp (vcp (vcp (v2 (v2 (v2 (v2 (v2 (v2 v 33 0 (v 145 0)) 33 1 (v 145 1)) 33 2 (v 145 2)) 33 3 (v 145 3)) 33 4 (v 145 4)) 33 5 (v 145 5)) 146 34 0 0 9) 147 35 0 0 9) 148 36 0 0 9) _
  refine r_ex 4 (pc' := 101) (lo' := [some (.inr (.inr (some 33))), some (.inr (.inr (some 145)))]) (st' := [.inr (.inr (some 149)), .inr (.inr (some 37))]) rfl ?_
  refine r_call (m := 54) (args := [.inr (.inr (some 37)), .inr (.inr (some 149))]) (n' := 53) (pc' := 104) (lo' := [some (.inr (.inr (some 33))), some (.inr (.inr (some 145)))]) (st' := []) (I := .invokevirtual 54) (pc0 := 101) (len := 3) rfl rfl rfl (e_cl_eaTake33_145 hX_15) ?_
  show WV _ _ _ 104 _ [] _ (cl_eaTake33_145 (vcp (vcp (vcp (v2 (v2 (v2 (v2 (v2 (v2 v 33 0 (v 145 0)) 33 1 (v 145 1)) 33 2 (v 145 2)) 33 3 (v 145 3)) 33 4 (v 145 4)) 33 5 (v 145 5)) 146 34 0 0 9) 147 35 0 0 9) 148 36 0 0 9)) _
  have hX_16 : XI (cl_eaTake33_145 (vcp (vcp (vcp (v2 (v2 (v2 (v2 (v2 (v2 v 33 0 (v 145 0)) 33 1 (v 145 1)) 33 2 (v 145 2)) 33 3 (v 145 3)) 33 4 (v 145 4)) 33 5 (v 145 5)) 146 34 0 0 9) 147 35 0 0 9) 148 36 0 0 9)) := i_cl_eaTake33_145 (v := (vcp (vcp (vcp (v2 (v2 (v2 (v2 (v2 (v2 v 33 0 (v 145 0)) 33 1 (v 145 1)) 33 2 (v 145 2)) 33 3 (v 145 3)) 33 4 (v 145 4)) 33 5 (v 145 5)) 146 34 0 0 9) 147 35 0 0 9) 148 36 0 0 9)) hX_15
  refine r_ex 4 (pc' := 112) (lo' := [some (.inr (.inr (some 33))), some (.inr (.inr (some 145)))]) (st' := [.inr (.inr (some 154)), .inr (.inr (some 42))]) rfl ?_
  refine r_call (m := 55) (args := [.inr (.inr (some 42)), .inr (.inr (some 154))]) (n' := 53) (pc' := 115) (lo' := [some (.inr (.inr (some 33))), some (.inr (.inr (some 145)))]) (st' := []) (I := .invokevirtual 55) (pc0 := 112) (len := 3) rfl rfl rfl (e_cl_stTake33_145 hX_16) ?_
  show WV _ _ _ 115 _ [] _ (cl_stTake33_145 (cl_eaTake33_145 (vcp (vcp (vcp (v2 (v2 (v2 (v2 (v2 (v2 v 33 0 (v 145 0)) 33 1 (v 145 1)) 33 2 (v 145 2)) 33 3 (v 145 3)) 33 4 (v 145 4)) 33 5 (v 145 5)) 146 34 0 0 9) 147 35 0 0 9) 148 36 0 0 9))) _
  have hX_17 : XI (cl_stTake33_145 (cl_eaTake33_145 (vcp (vcp (vcp (v2 (v2 (v2 (v2 (v2 (v2 v 33 0 (v 145 0)) 33 1 (v 145 1)) 33 2 (v 145 2)) 33 3 (v 145 3)) 33 4 (v 145 4)) 33 5 (v 145 5)) 146 34 0 0 9) 147 35 0 0 9) 148 36 0 0 9))) := i_cl_stTake33_145 (v := (cl_eaTake33_145 (vcp (vcp (vcp (v2 (v2 (v2 (v2 (v2 (v2 v 33 0 (v 145 0)) 33 1 (v 145 1)) 33 2 (v 145 2)) 33 3 (v 145 3)) 33 4 (v 145 4)) 33 5 (v 145 5)) 146 34 0 0 9) 147 35 0 0 9) 148 36 0 0 9))) hX_16
  refine r_ex 4 (pc' := 123) (lo' := [some (.inr (.inr (some 33))), some (.inr (.inr (some 145)))]) (st' := [.inr (.inr (some 158)), .inr (.inr (some 46))]) rfl ?_
  refine r_call (m := 56) (args := [.inr (.inr (some 46)), .inr (.inr (some 158))]) (n' := 53) (pc' := 126) (lo' := [some (.inr (.inr (some 33))), some (.inr (.inr (some 145)))]) (st' := []) (I := .invokevirtual 56) (pc0 := 123) (len := 3) rfl rfl rfl (e_cl_spTake46_158 hX_17) ?_
  show WV _ _ _ 126 _ [] _ (cl_spTake46_158 (cl_stTake33_145 (cl_eaTake33_145 (vcp (vcp (vcp (v2 (v2 (v2 (v2 (v2 (v2 v 33 0 (v 145 0)) 33 1 (v 145 1)) 33 2 (v 145 2)) 33 3 (v 145 3)) 33 4 (v 145 4)) 33 5 (v 145 5)) 146 34 0 0 9) 147 35 0 0 9) 148 36 0 0 9)))) _
  have hX_18 : XI (cl_spTake46_158 (cl_stTake33_145 (cl_eaTake33_145 (vcp (vcp (vcp (v2 (v2 (v2 (v2 (v2 (v2 v 33 0 (v 145 0)) 33 1 (v 145 1)) 33 2 (v 145 2)) 33 3 (v 145 3)) 33 4 (v 145 4)) 33 5 (v 145 5)) 146 34 0 0 9) 147 35 0 0 9) 148 36 0 0 9)))) := i_cl_spTake46_158 (v := (cl_stTake33_145 (cl_eaTake33_145 (vcp (vcp (vcp (v2 (v2 (v2 (v2 (v2 (v2 v 33 0 (v 145 0)) 33 1 (v 145 1)) 33 2 (v 145 2)) 33 3 (v 145 3)) 33 4 (v 145 4)) 33 5 (v 145 5)) 146 34 0 0 9) 147 35 0 0 9) 148 36 0 0 9)))) hX_17
  refine r_ex 4 (pc' := 134) (lo' := [some (.inr (.inr (some 33))), some (.inr (.inr (some 145)))]) (st' := [.inr (.inr (some 162)), .inr (.inr (some 50))]) rfl ?_
  refine r_call (m := 56) (args := [.inr (.inr (some 50)), .inr (.inr (some 162))]) (n' := 53) (pc' := 137) (lo' := [some (.inr (.inr (some 33))), some (.inr (.inr (some 145)))]) (st' := []) (I := .invokevirtual 56) (pc0 := 134) (len := 3) rfl rfl rfl (e_cl_spTake50_162 hX_18) ?_
  show WV _ _ _ 137 _ [] _ (cl_spTake50_162 (cl_spTake46_158 (cl_stTake33_145 (cl_eaTake33_145 (vcp (vcp (vcp (v2 (v2 (v2 (v2 (v2 (v2 v 33 0 (v 145 0)) 33 1 (v 145 1)) 33 2 (v 145 2)) 33 3 (v 145 3)) 33 4 (v 145 4)) 33 5 (v 145 5)) 146 34 0 0 9) 147 35 0 0 9) 148 36 0 0 9))))) _
  have hX_19 : XI (cl_spTake50_162 (cl_spTake46_158 (cl_stTake33_145 (cl_eaTake33_145 (vcp (vcp (vcp (v2 (v2 (v2 (v2 (v2 (v2 v 33 0 (v 145 0)) 33 1 (v 145 1)) 33 2 (v 145 2)) 33 3 (v 145 3)) 33 4 (v 145 4)) 33 5 (v 145 5)) 146 34 0 0 9) 147 35 0 0 9) 148 36 0 0 9))))) := i_cl_spTake50_162 (v := (cl_spTake46_158 (cl_stTake33_145 (cl_eaTake33_145 (vcp (vcp (vcp (v2 (v2 (v2 (v2 (v2 (v2 v 33 0 (v 145 0)) 33 1 (v 145 1)) 33 2 (v 145 2)) 33 3 (v 145 3)) 33 4 (v 145 4)) 33 5 (v 145 5)) 146 34 0 0 9) 147 35 0 0 9) 148 36 0 0 9))))) hX_18
  refine r_ex 4 (pc' := 145) (lo' := [some (.inr (.inr (some 33))), some (.inr (.inr (some 145)))]) (st' := [.inr (.inr (some 166)), .inr (.inr (some 54))]) rfl ?_
  refine r_call (m := 56) (args := [.inr (.inr (some 54)), .inr (.inr (some 166))]) (n' := 53) (pc' := 148) (lo' := [some (.inr (.inr (some 33))), some (.inr (.inr (some 145)))]) (st' := []) (I := .invokevirtual 56) (pc0 := 145) (len := 3) rfl rfl rfl (e_cl_spTake54_166 hX_19) ?_
  show WV _ _ _ 148 _ [] _ (cl_spTake54_166 (cl_spTake50_162 (cl_spTake46_158 (cl_stTake33_145 (cl_eaTake33_145 (vcp (vcp (vcp (v2 (v2 (v2 (v2 (v2 (v2 v 33 0 (v 145 0)) 33 1 (v 145 1)) 33 2 (v 145 2)) 33 3 (v 145 3)) 33 4 (v 145 4)) 33 5 (v 145 5)) 146 34 0 0 9) 147 35 0 0 9) 148 36 0 0 9)))))) _
  have hX_20 : XI (cl_spTake54_166 (cl_spTake50_162 (cl_spTake46_158 (cl_stTake33_145 (cl_eaTake33_145 (vcp (vcp (vcp (v2 (v2 (v2 (v2 (v2 (v2 v 33 0 (v 145 0)) 33 1 (v 145 1)) 33 2 (v 145 2)) 33 3 (v 145 3)) 33 4 (v 145 4)) 33 5 (v 145 5)) 146 34 0 0 9) 147 35 0 0 9) 148 36 0 0 9)))))) := i_cl_spTake54_166 (v := (cl_spTake50_162 (cl_spTake46_158 (cl_stTake33_145 (cl_eaTake33_145 (vcp (vcp (vcp (v2 (v2 (v2 (v2 (v2 (v2 v 33 0 (v 145 0)) 33 1 (v 145 1)) 33 2 (v 145 2)) 33 3 (v 145 3)) 33 4 (v 145 4)) 33 5 (v 145 5)) 146 34 0 0 9) 147 35 0 0 9) 148 36 0 0 9)))))) hX_19
  refine r_ex 4 (pc' := 156) (lo' := [some (.inr (.inr (some 33))), some (.inr (.inr (some 145)))]) (st' := [.inr (.inr (some 170)), .inr (.inr (some 58))]) rfl ?_
  refine r_call (m := 56) (args := [.inr (.inr (some 58)), .inr (.inr (some 170))]) (n' := 53) (pc' := 159) (lo' := [some (.inr (.inr (some 33))), some (.inr (.inr (some 145)))]) (st' := []) (I := .invokevirtual 56) (pc0 := 156) (len := 3) rfl rfl rfl (e_cl_spTake58_170 hX_20) ?_
  show WV _ _ _ 159 _ [] _ (cl_spTake58_170 (cl_spTake54_166 (cl_spTake50_162 (cl_spTake46_158 (cl_stTake33_145 (cl_eaTake33_145 (vcp (vcp (vcp (v2 (v2 (v2 (v2 (v2 (v2 v 33 0 (v 145 0)) 33 1 (v 145 1)) 33 2 (v 145 2)) 33 3 (v 145 3)) 33 4 (v 145 4)) 33 5 (v 145 5)) 146 34 0 0 9) 147 35 0 0 9) 148 36 0 0 9))))))) _
  have hX_21 : XI (cl_spTake58_170 (cl_spTake54_166 (cl_spTake50_162 (cl_spTake46_158 (cl_stTake33_145 (cl_eaTake33_145 (vcp (vcp (vcp (v2 (v2 (v2 (v2 (v2 (v2 v 33 0 (v 145 0)) 33 1 (v 145 1)) 33 2 (v 145 2)) 33 3 (v 145 3)) 33 4 (v 145 4)) 33 5 (v 145 5)) 146 34 0 0 9) 147 35 0 0 9) 148 36 0 0 9))))))) := i_cl_spTake58_170 (v := (cl_spTake54_166 (cl_spTake50_162 (cl_spTake46_158 (cl_stTake33_145 (cl_eaTake33_145 (vcp (vcp (vcp (v2 (v2 (v2 (v2 (v2 (v2 v 33 0 (v 145 0)) 33 1 (v 145 1)) 33 2 (v 145 2)) 33 3 (v 145 3)) 33 4 (v 145 4)) 33 5 (v 145 5)) 146 34 0 0 9) 147 35 0 0 9) 148 36 0 0 9))))))) hX_20
  refine r_ret (rr := none) (I := .return_) (pc0 := 159) (len := 1) rfl rfl ?_
  exact hQ hX_21 

theorem e_cl_copy33_145 {X : PX} {d b : Nat} {v : VS}  (hX : XI v)  : EvV X (d + 1) 53 [.inr (.inr (some 33)), .inr (.inr (some 145))] b v none b (cl_copy33_145 v) := EvV.of (w_cl_copy33_145 hX  (fun _ => ⟨rfl, rfl, rfl⟩))

theorem i_cl_copy33_145 {v : VS}  (hX : XI v)  : XI (cl_copy33_145 v) := by
  have q : WV (0, fun _ => 0, none) (0 + 1) 53 0 [some (.inr (.inr (some 33))), some (.inr (.inr (some 145)))] [] 1 v (fun _ _ _ => XI (cl_copy33_145 v)) := w_cl_copy33_145 (X := (0, fun _ => 0, none)) (d := 0) (b := 1) hX  (fun q => q)
  obtain ⟨_, _, _, _, _, _, _, q⟩ := q
  exact q

theorem o_cl_copy33_145 {rk : Nat} {v : VS}  (hk : (rk < 33 ∨ 61 < rk)) : (cl_copy33_145 v ) rk = v rk := by
  unfold cl_copy33_145
  all_goals (show (cl_spTake58_170 (cl_spTake54_166 (cl_spTake50_162 (cl_spTake46_158 (cl_stTake33_145 (cl_eaTake33_145 (vcp (vcp (vcp (v2 (v2 (v2 (v2 (v2 (v2 v 33 0 (v 145 0)) 33 1 (v 145 1)) 33 2 (v 145 2)) 33 3 (v 145 3)) 33 4 (v 145 4)) 33 5 (v 145 5)) 146 34 0 0 9) 147 35 0 0 9) 148 36 0 0 9))))))) rk = _)
  all_goals (rw [o_cl_spTake58_170 (by omega), o_cl_spTake54_166 (by omega), o_cl_spTake50_162 (by omega), o_cl_spTake46_158 (by omega), o_cl_stTake33_145 (by omega), o_cl_eaTake33_145 (by omega), vcp_row (by omega), vcp_row (by omega), vcp_row (by omega), v2_row (by omega), v2_row (by omega), v2_row (by omega), v2_row (by omega), v2_row (by omega), v2_row (by omega)])

def cl_eaTake33_174 (v : VS)  : VS :=
  (vcp (vcp (vcp (vcp (v2 v 37 0 (v 178 0)) 179 38 0 0 12) 180 39 0 0 12) 181 40 0 0 12) 182 41 0 0 12)
theorem w_cl_eaTake33_174 {X : PX} {d b : Nat} {v : VS}  (hX : XI v)  {Q : Option PV → Nat → VS → Prop} (hQ : XI (cl_eaTake33_174 v) → Q none b (cl_eaTake33_174 v)) : WV X d 54 0 [some (.inr (.inr (some 37))), some (.inr (.inr (some 178)))] [] b v Q := by
  rw [cl_eaTake33_174] at hQ
  refine r_ex 3 (pc' := 5) (lo' := [some (.inr (.inr (some 37))), some (.inr (.inr (some 178)))]) (st' := [.inl (v 178 0), .inr (.inr (some 37))]) rfl ?_
  have hb_1 : 0 ≤ (v 178 0) ∧ (v 178 0) ≤ 12 := hX 178 0
  refine r_puti2 (j := 0) (pc' := 8) (pc0 := 5) (len := 3) rfl (s_37 _) rfl rfl rfl (Or.inl rfl) rfl rfl ?_
  have hX_2 : XI (v2 v 37 0 (v 178 0)) := XI.put hX (show 0 ≤ (v 178 0) ∧ (v 178 0) ≤ 12 from (by first | assumption | omega | (unfold R32 at *; omega) | (unfold R64 at *; omega) | (simp only [R32, R64] at *; omega)))
  refine r_ex 7 (pc' := 20) (lo' := [some (.inr (.inr (some 37))), some (.inr (.inr (some 178)))]) (st' := [.inl 12, .inl 0, .inr (.inr (some 38)), .inl 0, .inr (.inr (some 179))]) rfl ?_
  refine r_copy2 (pc' := 23) (pc0 := 20) (len := 3) rfl (s_179 _) (s_38 _) (Or.inl rfl) (by omega) (by decide) (by decide) rfl ?_
  have hX_3 : XI (vcp (v2 v 37 0 (v 178 0)) 179 38 0 0 12) := XI.cpy hX_2 (fun x h j => Exists.elim h (fun _ h => h))
  show WV _ _ _ 23 _ _ _ (vcp (v2 v 37 0 (v 178 0)) 179 38 0 0 12) _
  refine r_ex 7 (pc' := 35) (lo' := [some (.inr (.inr (some 37))), some (.inr (.inr (some 178)))]) (st' := [.inl 12, .inl 0, .inr (.inr (some 39)), .inl 0, .inr (.inr (some 180))]) rfl ?_
  refine r_copy2 (pc' := 38) (pc0 := 35) (len := 3) rfl (s_180 _) (s_39 _) (Or.inl rfl) (by omega) (by decide) (by decide) rfl ?_
  have hX_4 : XI (vcp (vcp (v2 v 37 0 (v 178 0)) 179 38 0 0 12) 180 39 0 0 12) := XI.cpy hX_3 (fun x h j => Exists.elim h (fun _ h => h))
  show WV _ _ _ 38 _ _ _ (vcp (vcp (v2 v 37 0 (v 178 0)) 179 38 0 0 12) 180 39 0 0 12) _
  refine r_ex 7 (pc' := 50) (lo' := [some (.inr (.inr (some 37))), some (.inr (.inr (some 178)))]) (st' := [.inl 12, .inl 0, .inr (.inr (some 40)), .inl 0, .inr (.inr (some 181))]) rfl ?_
  refine r_copy2 (pc' := 53) (pc0 := 50) (len := 3) rfl (s_181 _) (s_40 _) (Or.inl rfl) (by omega) (by decide) (by decide) rfl ?_
  have hX_5 : XI (vcp (vcp (vcp (v2 v 37 0 (v 178 0)) 179 38 0 0 12) 180 39 0 0 12) 181 40 0 0 12) := XI.cpy hX_4 (fun x h j => Exists.elim h (fun _ h => h))
  show WV _ _ _ 53 _ _ _ (vcp (vcp (vcp (v2 v 37 0 (v 178 0)) 179 38 0 0 12) 180 39 0 0 12) 181 40 0 0 12) _
  refine r_ex 7 (pc' := 65) (lo' := [some (.inr (.inr (some 37))), some (.inr (.inr (some 178)))]) (st' := [.inl 12, .inl 0, .inr (.inr (some 41)), .inl 0, .inr (.inr (some 182))]) rfl ?_
  refine r_copy2 (pc' := 68) (pc0 := 65) (len := 3) rfl (s_182 _) (s_41 _) (Or.inl rfl) (by omega) (by decide) (by decide) rfl ?_
  have hX_6 : XI (vcp (vcp (vcp (vcp (v2 v 37 0 (v 178 0)) 179 38 0 0 12) 180 39 0 0 12) 181 40 0 0 12) 182 41 0 0 12) := XI.cpy hX_5 (fun x h j => Exists.elim h (fun _ h => h))
  show WV _ _ _ 68 _ _ _ (vcp (vcp (vcp (vcp (v2 v 37 0 (v 178 0)) 179 38 0 0 12) 180 39 0 0 12) 181 40 0 0 12) 182 41 0 0 12) _
  refine r_ret (rr := none) (I := .return_) (pc0 := 68) (len := 1) rfl rfl ?_
  exact hQ hX_6 

theorem e_cl_eaTake33_174 {X : PX} {d b : Nat} {v : VS}  (hX : XI v)  : EvV X d 54 [.inr (.inr (some 37)), .inr (.inr (some 178))] b v none b (cl_eaTake33_174 v) := EvV.of (w_cl_eaTake33_174 hX  (fun _ => ⟨rfl, rfl, rfl⟩))

theorem i_cl_eaTake33_174 {v : VS}  (hX : XI v)  : XI (cl_eaTake33_174 v) := by
  have q : WV (0, fun _ => 0, none) 0 54 0 [some (.inr (.inr (some 37))), some (.inr (.inr (some 178)))] [] 1 v (fun _ _ _ => XI (cl_eaTake33_174 v)) := w_cl_eaTake33_174 (X := (0, fun _ => 0, none)) (d := 0) (b := 1) hX  (fun q => q)
  obtain ⟨_, _, _, _, _, _, _, q⟩ := q
  exact q

theorem o_cl_eaTake33_174 {rk : Nat} {v : VS}  (hk : (rk < 37 ∨ 41 < rk)) : (cl_eaTake33_174 v ) rk = v rk := by
  unfold cl_eaTake33_174
  all_goals (show (vcp (vcp (vcp (vcp (v2 v 37 0 (v 178 0)) 179 38 0 0 12) 180 39 0 0 12) 181 40 0 0 12) 182 41 0 0 12) rk = _)
  all_goals (rw [vcp_row (by omega), vcp_row (by omega), vcp_row (by omega), vcp_row (by omega), v2_row (by omega)])

def cl_stTake33_174 (v : VS)  : VS :=
  (vcp (vcp (vcp (v2 v 42 0 (v 183 0)) 184 43 0 0 5) 185 44 0 0 5) 186 45 0 0 5)
theorem w_cl_stTake33_174 {X : PX} {d b : Nat} {v : VS}  (hX : XI v)  {Q : Option PV → Nat → VS → Prop} (hQ : XI (cl_stTake33_174 v) → Q none b (cl_stTake33_174 v)) : WV X d 55 0 [some (.inr (.inr (some 42))), some (.inr (.inr (some 183)))] [] b v Q := by
  rw [cl_stTake33_174] at hQ
  refine r_ex 3 (pc' := 5) (lo' := [some (.inr (.inr (some 42))), some (.inr (.inr (some 183)))]) (st' := [.inl (v 183 0), .inr (.inr (some 42))]) rfl ?_
  have hb_1 : 0 ≤ (v 183 0) ∧ (v 183 0) ≤ 4 := hX 183 0
  refine r_puti2 (j := 0) (pc' := 8) (pc0 := 5) (len := 3) rfl (s_42 _) rfl rfl rfl (Or.inl rfl) rfl rfl ?_
  have hX_2 : XI (v2 v 42 0 (v 183 0)) := XI.put hX (show 0 ≤ (v 183 0) ∧ (v 183 0) ≤ 4 from (by first | assumption | omega | (unfold R32 at *; omega) | (unfold R64 at *; omega) | (simp only [R32, R64] at *; omega)))
  refine r_ex 7 (pc' := 19) (lo' := [some (.inr (.inr (some 42))), some (.inr (.inr (some 183)))]) (st' := [.inl 5, .inl 0, .inr (.inr (some 43)), .inl 0, .inr (.inr (some 184))]) rfl ?_
  refine r_copy2 (pc' := 22) (pc0 := 19) (len := 3) rfl (s_184 _) (s_43 _) (Or.inl rfl) (by omega) (by decide) (by decide) rfl ?_
  have hX_3 : XI (vcp (v2 v 42 0 (v 183 0)) 184 43 0 0 5) := XI.cpy hX_2 (fun x h j => Exists.elim h (fun _ h => h))
  show WV _ _ _ 22 _ _ _ (vcp (v2 v 42 0 (v 183 0)) 184 43 0 0 5) _
  refine r_ex 7 (pc' := 33) (lo' := [some (.inr (.inr (some 42))), some (.inr (.inr (some 183)))]) (st' := [.inl 5, .inl 0, .inr (.inr (some 44)), .inl 0, .inr (.inr (some 185))]) rfl ?_
  refine r_copy2 (pc' := 36) (pc0 := 33) (len := 3) rfl (s_185 _) (s_44 _) (Or.inl rfl) (by omega) (by decide) (by decide) rfl ?_
  have hX_4 : XI (vcp (vcp (v2 v 42 0 (v 183 0)) 184 43 0 0 5) 185 44 0 0 5) := XI.cpy hX_3 (fun x h j => Exists.elim h (fun _ h => h))
  show WV _ _ _ 36 _ _ _ (vcp (vcp (v2 v 42 0 (v 183 0)) 184 43 0 0 5) 185 44 0 0 5) _
  refine r_ex 7 (pc' := 47) (lo' := [some (.inr (.inr (some 42))), some (.inr (.inr (some 183)))]) (st' := [.inl 5, .inl 0, .inr (.inr (some 45)), .inl 0, .inr (.inr (some 186))]) rfl ?_
  refine r_copy2 (pc' := 50) (pc0 := 47) (len := 3) rfl (s_186 _) (s_45 _) (Or.inl rfl) (by omega) (by decide) (by decide) rfl ?_
  have hX_5 : XI (vcp (vcp (vcp (v2 v 42 0 (v 183 0)) 184 43 0 0 5) 185 44 0 0 5) 186 45 0 0 5) := XI.cpy hX_4 (fun x h j => Exists.elim h (fun _ h => h))
  show WV _ _ _ 50 _ _ _ (vcp (vcp (vcp (v2 v 42 0 (v 183 0)) 184 43 0 0 5) 185 44 0 0 5) 186 45 0 0 5) _
  refine r_ret (rr := none) (I := .return_) (pc0 := 50) (len := 1) rfl rfl ?_
  exact hQ hX_5 

theorem e_cl_stTake33_174 {X : PX} {d b : Nat} {v : VS}  (hX : XI v)  : EvV X d 55 [.inr (.inr (some 42)), .inr (.inr (some 183))] b v none b (cl_stTake33_174 v) := EvV.of (w_cl_stTake33_174 hX  (fun _ => ⟨rfl, rfl, rfl⟩))

theorem i_cl_stTake33_174 {v : VS}  (hX : XI v)  : XI (cl_stTake33_174 v) := by
  have q : WV (0, fun _ => 0, none) 0 55 0 [some (.inr (.inr (some 42))), some (.inr (.inr (some 183)))] [] 1 v (fun _ _ _ => XI (cl_stTake33_174 v)) := w_cl_stTake33_174 (X := (0, fun _ => 0, none)) (d := 0) (b := 1) hX  (fun q => q)
  obtain ⟨_, _, _, _, _, _, _, q⟩ := q
  exact q

theorem o_cl_stTake33_174 {rk : Nat} {v : VS}  (hk : (rk < 42 ∨ 45 < rk)) : (cl_stTake33_174 v ) rk = v rk := by
  unfold cl_stTake33_174
  all_goals (show (vcp (vcp (vcp (v2 v 42 0 (v 183 0)) 184 43 0 0 5) 185 44 0 0 5) 186 45 0 0 5) rk = _)
  all_goals (rw [vcp_row (by omega), vcp_row (by omega), vcp_row (by omega), v2_row (by omega)])

def cl_spTake46_187 (v : VS)  : VS :=
  (vcp (vcp (vcp (v2 v 46 0 (v 187 0)) 188 47 0 0 6) 189 48 0 0 6) 190 49 0 0 6)
theorem w_cl_spTake46_187 {X : PX} {d b : Nat} {v : VS}  (hX : XI v)  {Q : Option PV → Nat → VS → Prop} (hQ : XI (cl_spTake46_187 v) → Q none b (cl_spTake46_187 v)) : WV X d 56 0 [some (.inr (.inr (some 46))), some (.inr (.inr (some 187)))] [] b v Q := by
  rw [cl_spTake46_187] at hQ
  refine r_ex 3 (pc' := 5) (lo' := [some (.inr (.inr (some 46))), some (.inr (.inr (some 187)))]) (st' := [.inl (v 187 0), .inr (.inr (some 46))]) rfl ?_
  have hb_1 : 0 ≤ (v 187 0) ∧ (v 187 0) ≤ 6 := hX 187 0
  refine r_puti2 (j := 0) (pc' := 8) (pc0 := 5) (len := 3) rfl (s_46 _) rfl rfl rfl (Or.inl rfl) rfl rfl ?_
  have hX_2 : XI (v2 v 46 0 (v 187 0)) := XI.put hX (show 0 ≤ (v 187 0) ∧ (v 187 0) ≤ 6 from (by first | assumption | omega | (unfold R32 at *; omega) | (unfold R64 at *; omega) | (simp only [R32, R64] at *; omega)))
  refine r_ex 7 (pc' := 20) (lo' := [some (.inr (.inr (some 46))), some (.inr (.inr (some 187)))]) (st' := [.inl 6, .inl 0, .inr (.inr (some 47)), .inl 0, .inr (.inr (some 188))]) rfl ?_
  refine r_copy2 (pc' := 23) (pc0 := 20) (len := 3) rfl (s_188 _) (s_47 _) (Or.inl rfl) (by omega) (by decide) (by decide) rfl ?_
  have hX_3 : XI (vcp (v2 v 46 0 (v 187 0)) 188 47 0 0 6) := XI.cpy hX_2 (fun x h j => Exists.elim h (fun _ h => h))
  show WV _ _ _ 23 _ _ _ (vcp (v2 v 46 0 (v 187 0)) 188 47 0 0 6) _
  refine r_ex 7 (pc' := 35) (lo' := [some (.inr (.inr (some 46))), some (.inr (.inr (some 187)))]) (st' := [.inl 6, .inl 0, .inr (.inr (some 48)), .inl 0, .inr (.inr (some 189))]) rfl ?_
  refine r_copy2 (pc' := 38) (pc0 := 35) (len := 3) rfl (s_189 _) (s_48 _) (Or.inl rfl) (by omega) (by decide) (by decide) rfl ?_
  have hX_4 : XI (vcp (vcp (v2 v 46 0 (v 187 0)) 188 47 0 0 6) 189 48 0 0 6) := XI.cpy hX_3 (fun x h j => Exists.elim h (fun _ h => h))
  show WV _ _ _ 38 _ _ _ (vcp (vcp (v2 v 46 0 (v 187 0)) 188 47 0 0 6) 189 48 0 0 6) _
  refine r_ex 7 (pc' := 50) (lo' := [some (.inr (.inr (some 46))), some (.inr (.inr (some 187)))]) (st' := [.inl 6, .inl 0, .inr (.inr (some 49)), .inl 0, .inr (.inr (some 190))]) rfl ?_
  refine r_copy2 (pc' := 53) (pc0 := 50) (len := 3) rfl (s_190 _) (s_49 _) (Or.inl rfl) (by omega) (by decide) (by decide) rfl ?_
  have hX_5 : XI (vcp (vcp (vcp (v2 v 46 0 (v 187 0)) 188 47 0 0 6) 189 48 0 0 6) 190 49 0 0 6) := XI.cpy hX_4 (fun x h j => Exists.elim h (fun _ h => h))
  show WV _ _ _ 53 _ _ _ (vcp (vcp (vcp (v2 v 46 0 (v 187 0)) 188 47 0 0 6) 189 48 0 0 6) 190 49 0 0 6) _
  refine r_ret (rr := none) (I := .return_) (pc0 := 53) (len := 1) rfl rfl ?_
  exact hQ hX_5 

theorem e_cl_spTake46_187 {X : PX} {d b : Nat} {v : VS}  (hX : XI v)  : EvV X d 56 [.inr (.inr (some 46)), .inr (.inr (some 187))] b v none b (cl_spTake46_187 v) := EvV.of (w_cl_spTake46_187 hX  (fun _ => ⟨rfl, rfl, rfl⟩))

theorem i_cl_spTake46_187 {v : VS}  (hX : XI v)  : XI (cl_spTake46_187 v) := by
  have q : WV (0, fun _ => 0, none) 0 56 0 [some (.inr (.inr (some 46))), some (.inr (.inr (some 187)))] [] 1 v (fun _ _ _ => XI (cl_spTake46_187 v)) := w_cl_spTake46_187 (X := (0, fun _ => 0, none)) (d := 0) (b := 1) hX  (fun q => q)
  obtain ⟨_, _, _, _, _, _, _, q⟩ := q
  exact q

theorem o_cl_spTake46_187 {rk : Nat} {v : VS}  (hk : (rk < 46 ∨ 49 < rk)) : (cl_spTake46_187 v ) rk = v rk := by
  unfold cl_spTake46_187
  all_goals (show (vcp (vcp (vcp (v2 v 46 0 (v 187 0)) 188 47 0 0 6) 189 48 0 0 6) 190 49 0 0 6) rk = _)
  all_goals (rw [vcp_row (by omega), vcp_row (by omega), vcp_row (by omega), v2_row (by omega)])

def cl_spTake50_191 (v : VS)  : VS :=
  (vcp (vcp (vcp (v2 v 50 0 (v 191 0)) 192 51 0 0 6) 193 52 0 0 6) 194 53 0 0 6)
theorem w_cl_spTake50_191 {X : PX} {d b : Nat} {v : VS}  (hX : XI v)  {Q : Option PV → Nat → VS → Prop} (hQ : XI (cl_spTake50_191 v) → Q none b (cl_spTake50_191 v)) : WV X d 56 0 [some (.inr (.inr (some 50))), some (.inr (.inr (some 191)))] [] b v Q := by
  rw [cl_spTake50_191] at hQ
  refine r_ex 3 (pc' := 5) (lo' := [some (.inr (.inr (some 50))), some (.inr (.inr (some 191)))]) (st' := [.inl (v 191 0), .inr (.inr (some 50))]) rfl ?_
  have hb_1 : 0 ≤ (v 191 0) ∧ (v 191 0) ≤ 6 := hX 191 0
  refine r_puti2 (j := 0) (pc' := 8) (pc0 := 5) (len := 3) rfl (s_50 _) rfl rfl rfl (Or.inl rfl) rfl rfl ?_
  have hX_2 : XI (v2 v 50 0 (v 191 0)) := XI.put hX (show 0 ≤ (v 191 0) ∧ (v 191 0) ≤ 6 from (by first | assumption | omega | (unfold R32 at *; omega) | (unfold R64 at *; omega) | (simp only [R32, R64] at *; omega)))
  refine r_ex 7 (pc' := 20) (lo' := [some (.inr (.inr (some 50))), some (.inr (.inr (some 191)))]) (st' := [.inl 6, .inl 0, .inr (.inr (some 51)), .inl 0, .inr (.inr (some 192))]) rfl ?_
  refine r_copy2 (pc' := 23) (pc0 := 20) (len := 3) rfl (s_192 _) (s_51 _) (Or.inl rfl) (by omega) (by decide) (by decide) rfl ?_
  have hX_3 : XI (vcp (v2 v 50 0 (v 191 0)) 192 51 0 0 6) := XI.cpy hX_2 (fun x h j => Exists.elim h (fun _ h => h))
  show WV _ _ _ 23 _ _ _ (vcp (v2 v 50 0 (v 191 0)) 192 51 0 0 6) _
  refine r_ex 7 (pc' := 35) (lo' := [some (.inr (.inr (some 50))), some (.inr (.inr (some 191)))]) (st' := [.inl 6, .inl 0, .inr (.inr (some 52)), .inl 0, .inr (.inr (some 193))]) rfl ?_
  refine r_copy2 (pc' := 38) (pc0 := 35) (len := 3) rfl (s_193 _) (s_52 _) (Or.inl rfl) (by omega) (by decide) (by decide) rfl ?_
  have hX_4 : XI (vcp (vcp (v2 v 50 0 (v 191 0)) 192 51 0 0 6) 193 52 0 0 6) := XI.cpy hX_3 (fun x h j => Exists.elim h (fun _ h => h))
  show WV _ _ _ 38 _ _ _ (vcp (vcp (v2 v 50 0 (v 191 0)) 192 51 0 0 6) 193 52 0 0 6) _
  refine r_ex 7 (pc' := 50) (lo' := [some (.inr (.inr (some 50))), some (.inr (.inr (some 191)))]) (st' := [.inl 6, .inl 0, .inr (.inr (some 53)), .inl 0, .inr (.inr (some 194))]) rfl ?_
  refine r_copy2 (pc' := 53) (pc0 := 50) (len := 3) rfl (s_194 _) (s_53 _) (Or.inl rfl) (by omega) (by decide) (by decide) rfl ?_
  have hX_5 : XI (vcp (vcp (vcp (v2 v 50 0 (v 191 0)) 192 51 0 0 6) 193 52 0 0 6) 194 53 0 0 6) := XI.cpy hX_4 (fun x h j => Exists.elim h (fun _ h => h))
  show WV _ _ _ 53 _ _ _ (vcp (vcp (vcp (v2 v 50 0 (v 191 0)) 192 51 0 0 6) 193 52 0 0 6) 194 53 0 0 6) _
  refine r_ret (rr := none) (I := .return_) (pc0 := 53) (len := 1) rfl rfl ?_
  exact hQ hX_5 

theorem e_cl_spTake50_191 {X : PX} {d b : Nat} {v : VS}  (hX : XI v)  : EvV X d 56 [.inr (.inr (some 50)), .inr (.inr (some 191))] b v none b (cl_spTake50_191 v) := EvV.of (w_cl_spTake50_191 hX  (fun _ => ⟨rfl, rfl, rfl⟩))

theorem i_cl_spTake50_191 {v : VS}  (hX : XI v)  : XI (cl_spTake50_191 v) := by
  have q : WV (0, fun _ => 0, none) 0 56 0 [some (.inr (.inr (some 50))), some (.inr (.inr (some 191)))] [] 1 v (fun _ _ _ => XI (cl_spTake50_191 v)) := w_cl_spTake50_191 (X := (0, fun _ => 0, none)) (d := 0) (b := 1) hX  (fun q => q)
  obtain ⟨_, _, _, _, _, _, _, q⟩ := q
  exact q

theorem o_cl_spTake50_191 {rk : Nat} {v : VS}  (hk : (rk < 50 ∨ 53 < rk)) : (cl_spTake50_191 v ) rk = v rk := by
  unfold cl_spTake50_191
  all_goals (show (vcp (vcp (vcp (v2 v 50 0 (v 191 0)) 192 51 0 0 6) 193 52 0 0 6) 194 53 0 0 6) rk = _)
  all_goals (rw [vcp_row (by omega), vcp_row (by omega), vcp_row (by omega), v2_row (by omega)])

def cl_spTake54_195 (v : VS)  : VS :=
  (vcp (vcp (vcp (v2 v 54 0 (v 195 0)) 196 55 0 0 6) 197 56 0 0 6) 198 57 0 0 6)
theorem w_cl_spTake54_195 {X : PX} {d b : Nat} {v : VS}  (hX : XI v)  {Q : Option PV → Nat → VS → Prop} (hQ : XI (cl_spTake54_195 v) → Q none b (cl_spTake54_195 v)) : WV X d 56 0 [some (.inr (.inr (some 54))), some (.inr (.inr (some 195)))] [] b v Q := by
  rw [cl_spTake54_195] at hQ
  refine r_ex 3 (pc' := 5) (lo' := [some (.inr (.inr (some 54))), some (.inr (.inr (some 195)))]) (st' := [.inl (v 195 0), .inr (.inr (some 54))]) rfl ?_
  have hb_1 : 0 ≤ (v 195 0) ∧ (v 195 0) ≤ 6 := hX 195 0
  refine r_puti2 (j := 0) (pc' := 8) (pc0 := 5) (len := 3) rfl (s_54 _) rfl rfl rfl (Or.inl rfl) rfl rfl ?_
  have hX_2 : XI (v2 v 54 0 (v 195 0)) := XI.put hX (show 0 ≤ (v 195 0) ∧ (v 195 0) ≤ 6 from (by first | assumption | omega | (unfold R32 at *; omega) | (unfold R64 at *; omega) | (simp only [R32, R64] at *; omega)))
  refine r_ex 7 (pc' := 20) (lo' := [some (.inr (.inr (some 54))), some (.inr (.inr (some 195)))]) (st' := [.inl 6, .inl 0, .inr (.inr (some 55)), .inl 0, .inr (.inr (some 196))]) rfl ?_
  refine r_copy2 (pc' := 23) (pc0 := 20) (len := 3) rfl (s_196 _) (s_55 _) (Or.inl rfl) (by omega) (by decide) (by decide) rfl ?_
  have hX_3 : XI (vcp (v2 v 54 0 (v 195 0)) 196 55 0 0 6) := XI.cpy hX_2 (fun x h j => Exists.elim h (fun _ h => h))
  show WV _ _ _ 23 _ _ _ (vcp (v2 v 54 0 (v 195 0)) 196 55 0 0 6) _
  refine r_ex 7 (pc' := 35) (lo' := [some (.inr (.inr (some 54))), some (.inr (.inr (some 195)))]) (st' := [.inl 6, .inl 0, .inr (.inr (some 56)), .inl 0, .inr (.inr (some 197))]) rfl ?_
  refine r_copy2 (pc' := 38) (pc0 := 35) (len := 3) rfl (s_197 _) (s_56 _) (Or.inl rfl) (by omega) (by decide) (by decide) rfl ?_
  have hX_4 : XI (vcp (vcp (v2 v 54 0 (v 195 0)) 196 55 0 0 6) 197 56 0 0 6) := XI.cpy hX_3 (fun x h j => Exists.elim h (fun _ h => h))
  show WV _ _ _ 38 _ _ _ (vcp (vcp (v2 v 54 0 (v 195 0)) 196 55 0 0 6) 197 56 0 0 6) _
  refine r_ex 7 (pc' := 50) (lo' := [some (.inr (.inr (some 54))), some (.inr (.inr (some 195)))]) (st' := [.inl 6, .inl 0, .inr (.inr (some 57)), .inl 0, .inr (.inr (some 198))]) rfl ?_
  refine r_copy2 (pc' := 53) (pc0 := 50) (len := 3) rfl (s_198 _) (s_57 _) (Or.inl rfl) (by omega) (by decide) (by decide) rfl ?_
  have hX_5 : XI (vcp (vcp (vcp (v2 v 54 0 (v 195 0)) 196 55 0 0 6) 197 56 0 0 6) 198 57 0 0 6) := XI.cpy hX_4 (fun x h j => Exists.elim h (fun _ h => h))
  show WV _ _ _ 53 _ _ _ (vcp (vcp (vcp (v2 v 54 0 (v 195 0)) 196 55 0 0 6) 197 56 0 0 6) 198 57 0 0 6) _
  refine r_ret (rr := none) (I := .return_) (pc0 := 53) (len := 1) rfl rfl ?_
  exact hQ hX_5 

theorem e_cl_spTake54_195 {X : PX} {d b : Nat} {v : VS}  (hX : XI v)  : EvV X d 56 [.inr (.inr (some 54)), .inr (.inr (some 195))] b v none b (cl_spTake54_195 v) := EvV.of (w_cl_spTake54_195 hX  (fun _ => ⟨rfl, rfl, rfl⟩))

theorem i_cl_spTake54_195 {v : VS}  (hX : XI v)  : XI (cl_spTake54_195 v) := by
  have q : WV (0, fun _ => 0, none) 0 56 0 [some (.inr (.inr (some 54))), some (.inr (.inr (some 195)))] [] 1 v (fun _ _ _ => XI (cl_spTake54_195 v)) := w_cl_spTake54_195 (X := (0, fun _ => 0, none)) (d := 0) (b := 1) hX  (fun q => q)
  obtain ⟨_, _, _, _, _, _, _, q⟩ := q
  exact q

theorem o_cl_spTake54_195 {rk : Nat} {v : VS}  (hk : (rk < 54 ∨ 57 < rk)) : (cl_spTake54_195 v ) rk = v rk := by
  unfold cl_spTake54_195
  all_goals (show (vcp (vcp (vcp (v2 v 54 0 (v 195 0)) 196 55 0 0 6) 197 56 0 0 6) 198 57 0 0 6) rk = _)
  all_goals (rw [vcp_row (by omega), vcp_row (by omega), vcp_row (by omega), v2_row (by omega)])

def cl_spTake58_199 (v : VS)  : VS :=
  (vcp (vcp (vcp (v2 v 58 0 (v 199 0)) 200 59 0 0 6) 201 60 0 0 6) 202 61 0 0 6)
theorem w_cl_spTake58_199 {X : PX} {d b : Nat} {v : VS}  (hX : XI v)  {Q : Option PV → Nat → VS → Prop} (hQ : XI (cl_spTake58_199 v) → Q none b (cl_spTake58_199 v)) : WV X d 56 0 [some (.inr (.inr (some 58))), some (.inr (.inr (some 199)))] [] b v Q := by
  rw [cl_spTake58_199] at hQ
  refine r_ex 3 (pc' := 5) (lo' := [some (.inr (.inr (some 58))), some (.inr (.inr (some 199)))]) (st' := [.inl (v 199 0), .inr (.inr (some 58))]) rfl ?_
  have hb_1 : 0 ≤ (v 199 0) ∧ (v 199 0) ≤ 6 := hX 199 0
  refine r_puti2 (j := 0) (pc' := 8) (pc0 := 5) (len := 3) rfl (s_58 _) rfl rfl rfl (Or.inl rfl) rfl rfl ?_
  have hX_2 : XI (v2 v 58 0 (v 199 0)) := XI.put hX (show 0 ≤ (v 199 0) ∧ (v 199 0) ≤ 6 from (by first | assumption | omega | (unfold R32 at *; omega) | (unfold R64 at *; omega) | (simp only [R32, R64] at *; omega)))
  refine r_ex 7 (pc' := 20) (lo' := [some (.inr (.inr (some 58))), some (.inr (.inr (some 199)))]) (st' := [.inl 6, .inl 0, .inr (.inr (some 59)), .inl 0, .inr (.inr (some 200))]) rfl ?_
  refine r_copy2 (pc' := 23) (pc0 := 20) (len := 3) rfl (s_200 _) (s_59 _) (Or.inl rfl) (by omega) (by decide) (by decide) rfl ?_
  have hX_3 : XI (vcp (v2 v 58 0 (v 199 0)) 200 59 0 0 6) := XI.cpy hX_2 (fun x h j => Exists.elim h (fun _ h => h))
  show WV _ _ _ 23 _ _ _ (vcp (v2 v 58 0 (v 199 0)) 200 59 0 0 6) _
  refine r_ex 7 (pc' := 35) (lo' := [some (.inr (.inr (some 58))), some (.inr (.inr (some 199)))]) (st' := [.inl 6, .inl 0, .inr (.inr (some 60)), .inl 0, .inr (.inr (some 201))]) rfl ?_
  refine r_copy2 (pc' := 38) (pc0 := 35) (len := 3) rfl (s_201 _) (s_60 _) (Or.inl rfl) (by omega) (by decide) (by decide) rfl ?_
  have hX_4 : XI (vcp (vcp (v2 v 58 0 (v 199 0)) 200 59 0 0 6) 201 60 0 0 6) := XI.cpy hX_3 (fun x h j => Exists.elim h (fun _ h => h))
  show WV _ _ _ 38 _ _ _ (vcp (vcp (v2 v 58 0 (v 199 0)) 200 59 0 0 6) 201 60 0 0 6) _
  refine r_ex 7 (pc' := 50) (lo' := [some (.inr (.inr (some 58))), some (.inr (.inr (some 199)))]) (st' := [.inl 6, .inl 0, .inr (.inr (some 61)), .inl 0, .inr (.inr (some 202))]) rfl ?_
  refine r_copy2 (pc' := 53) (pc0 := 50) (len := 3) rfl (s_202 _) (s_61 _) (Or.inl rfl) (by omega) (by decide) (by decide) rfl ?_
  have hX_5 : XI (vcp (vcp (vcp (v2 v 58 0 (v 199 0)) 200 59 0 0 6) 201 60 0 0 6) 202 61 0 0 6) := XI.cpy hX_4 (fun x h j => Exists.elim h (fun _ h => h))
  show WV _ _ _ 53 _ _ _ (vcp (vcp (vcp (v2 v 58 0 (v 199 0)) 200 59 0 0 6) 201 60 0 0 6) 202 61 0 0 6) _
  refine r_ret (rr := none) (I := .return_) (pc0 := 53) (len := 1) rfl rfl ?_
  exact hQ hX_5 

theorem e_cl_spTake58_199 {X : PX} {d b : Nat} {v : VS}  (hX : XI v)  : EvV X d 56 [.inr (.inr (some 58)), .inr (.inr (some 199))] b v none b (cl_spTake58_199 v) := EvV.of (w_cl_spTake58_199 hX  (fun _ => ⟨rfl, rfl, rfl⟩))

theorem i_cl_spTake58_199 {v : VS}  (hX : XI v)  : XI (cl_spTake58_199 v) := by
  have q : WV (0, fun _ => 0, none) 0 56 0 [some (.inr (.inr (some 58))), some (.inr (.inr (some 199)))] [] 1 v (fun _ _ _ => XI (cl_spTake58_199 v)) := w_cl_spTake58_199 (X := (0, fun _ => 0, none)) (d := 0) (b := 1) hX  (fun q => q)
  obtain ⟨_, _, _, _, _, _, _, q⟩ := q
  exact q

theorem o_cl_spTake58_199 {rk : Nat} {v : VS}  (hk : (rk < 58 ∨ 61 < rk)) : (cl_spTake58_199 v ) rk = v rk := by
  unfold cl_spTake58_199
  all_goals (show (vcp (vcp (vcp (v2 v 58 0 (v 199 0)) 200 59 0 0 6) 201 60 0 0 6) 202 61 0 0 6) rk = _)
  all_goals (rw [vcp_row (by omega), vcp_row (by omega), vcp_row (by omega), v2_row (by omega)])

def cl_copy33_174 (v : VS)  : VS :=
  (cl_spTake58_199 (cl_spTake54_195 (cl_spTake50_191 (cl_spTake46_187 (cl_stTake33_174 (cl_eaTake33_174 (vcp (vcp (vcp (v2 (v2 (v2 (v2 (v2 (v2 v 33 0 (v 174 0)) 33 1 (v 174 1)) 33 2 (v 174 2)) 33 3 (v 174 3)) 33 4 (v 174 4)) 33 5 (v 174 5)) 175 34 0 0 9) 176 35 0 0 9) 177 36 0 0 9)))))))
theorem w_cl_copy33_174 {X : PX} {d b : Nat} {v : VS}  (hX : XI v)  {Q : Option PV → Nat → VS → Prop} (hQ : XI (cl_copy33_174 v) → Q none b (cl_copy33_174 v)) : WV X (d + 1) 53 0 [some (.inr (.inr (some 33))), some (.inr (.inr (some 174)))] [] b v Q := by
  rw [cl_copy33_174] at hQ
  refine r_ex 3 (pc' := 5) (lo' := [some (.inr (.inr (some 33))), some (.inr (.inr (some 174)))]) (st' := [.inl (v 174 0), .inr (.inr (some 33))]) rfl ?_
  have hb_1 : 0 ≤ (v 174 0) ∧ (v 174 0) ≤ 9 := hX 174 0
  refine r_puti2 (j := 0) (pc' := 8) (pc0 := 5) (len := 3) rfl (s_33 _) rfl rfl rfl (Or.inl rfl) rfl rfl ?_
  have hX_2 : XI (v2 v 33 0 (v 174 0)) := XI.put hX (show 0 ≤ (v 174 0) ∧ (v 174 0) ≤ 9 from (by first | assumption | omega | (unfold R32 at *; omega) | (unfold R64 at *; omega) | (simp only [R32, R64] at *; omega)))
  refine r_ex 3 (pc' := 13) (lo' := [some (.inr (.inr (some 33))), some (.inr (.inr (some 174)))]) (st' := [.inl (v 174 1), .inr (.inr (some 33))]) rfl ?_
  have hb_3 : 0 ≤ (v 174 1) ∧ (v 174 1) ≤ 300 := hX_2 174 1
  refine r_puti2 (j := 1) (pc' := 16) (pc0 := 13) (len := 3) rfl (s_33 _) rfl rfl rfl (Or.inl rfl) rfl rfl ?_
  have hX_4 : XI (v2 (v2 v 33 0 (v 174 0)) 33 1 (v 174 1)) := XI.put hX_2 (show 0 ≤ (v 174 1) ∧ (v 174 1) ≤ 300 from (by first | assumption | omega | (unfold R32 at *; omega) | (unfold R64 at *; omega) | (simp only [R32, R64] at *; omega)))
  refine r_ex 3 (pc' := 21) (lo' := [some (.inr (.inr (some 33))), some (.inr (.inr (some 174)))]) (st' := [.inl (v 174 2), .inr (.inr (some 33))]) rfl ?_
  have hb_5 : 0 ≤ (v 174 2) ∧ (v 174 2) ≤ 2001 := hX_4 174 2
  refine r_puti2 (j := 2) (pc' := 24) (pc0 := 21) (len := 3) rfl (s_33 _) rfl rfl rfl (Or.inl rfl) rfl rfl ?_
  have hX_6 : XI (v2 (v2 (v2 v 33 0 (v 174 0)) 33 1 (v 174 1)) 33 2 (v 174 2)) := XI.put hX_4 (show 0 ≤ (v 174 2) ∧ (v 174 2) ≤ 2001 from (by first | assumption | omega | (unfold R32 at *; omega) | (unfold R64 at *; omega) | (simp only [R32, R64] at *; omega)))
  refine r_ex 3 (pc' := 29) (lo' := [some (.inr (.inr (some 33))), some (.inr (.inr (some 174)))]) (st' := [.inl (v 174 3), .inr (.inr (some 33))]) rfl ?_
  have hb_7 : 0 ≤ (v 174 3) ∧ (v 174 3) ≤ 9 := hX_6 174 3
  refine r_puti2 (j := 3) (pc' := 32) (pc0 := 29) (len := 3) rfl (s_33 _) rfl rfl rfl (Or.inl rfl) rfl rfl ?_
  have hX_8 : XI (v2 (v2 (v2 (v2 v 33 0 (v 174 0)) 33 1 (v 174 1)) 33 2 (v 174 2)) 33 3 (v 174 3)) := XI.put hX_6 (show 0 ≤ (v 174 3) ∧ (v 174 3) ≤ 9 from (by first | assumption | omega | (unfold R32 at *; omega) | (unfold R64 at *; omega) | (simp only [R32, R64] at *; omega)))
  refine r_ex 3 (pc' := 37) (lo' := [some (.inr (.inr (some 33))), some (.inr (.inr (some 174)))]) (st' := [.inl (v 174 4), .inr (.inr (some 33))]) rfl ?_
  have hb_9 : 0 ≤ (v 174 4) ∧ (v 174 4) ≤ 511 := hX_8 174 4
  refine r_puti2 (j := 4) (pc' := 40) (pc0 := 37) (len := 3) rfl (s_33 _) rfl rfl rfl (Or.inl rfl) rfl rfl ?_
  have hX_10 : XI (v2 (v2 (v2 (v2 (v2 v 33 0 (v 174 0)) 33 1 (v 174 1)) 33 2 (v 174 2)) 33 3 (v 174 3)) 33 4 (v 174 4)) := XI.put hX_8 (show 0 ≤ (v 174 4) ∧ (v 174 4) ≤ 511 from (by first | assumption | omega | (unfold R32 at *; omega) | (unfold R64 at *; omega) | (simp only [R32, R64] at *; omega)))
  refine r_ex 3 (pc' := 45) (lo' := [some (.inr (.inr (some 33))), some (.inr (.inr (some 174)))]) (st' := [.inl (v 174 5), .inr (.inr (some 33))]) rfl ?_
  have hb_11 : 0 ≤ (v 174 5) ∧ (v 174 5) ≤ 4095 := hX_10 174 5
  refine r_puti2 (j := 5) (pc' := 48) (pc0 := 45) (len := 3) rfl (s_33 _) rfl rfl rfl (Or.inl rfl) rfl rfl ?_
  have hX_12 : XI (v2 (v2 (v2 (v2 (v2 (v2 v 33 0 (v 174 0)) 33 1 (v 174 1)) 33 2 (v 174 2)) 33 3 (v 174 3)) 33 4 (v 174 4)) 33 5 (v 174 5)) := XI.put hX_10 (show 0 ≤ (v 174 5) ∧ (v 174 5) ≤ 4095 from (by first | assumption | omega | (unfold R32 at *; omega) | (unfold R64 at *; omega) | (simp only [R32, R64] at *; omega)))
  refine r_ex 7 (pc' := 60) (lo' := [some (.inr (.inr (some 33))), some (.inr (.inr (some 174)))]) (st' := [.inl 9, .inl 0, .inr (.inr (some 34)), .inl 0, .inr (.inr (some 175))]) rfl ?_
  refine r_copy2 (pc' := 63) (pc0 := 60) (len := 3) rfl (s_175 _) (s_34 _) (Or.inl rfl) (by omega) (by decide) (by decide) rfl ?_
  have hX_13 : XI (vcp (v2 (v2 (v2 (v2 (v2 (v2 v 33 0 (v 174 0)) 33 1 (v 174 1)) 33 2 (v 174 2)) 33 3 (v 174 3)) 33 4 (v 174 4)) 33 5 (v 174 5)) 175 34 0 0 9) := XI.cpy hX_12 (fun x h j => Exists.elim h (fun _ h => h))
  show WV _ _ _ 63 _ _ _ (vcp (v2 (v2 (v2 (v2 (v2 (v2 v 33 0 (v 174 0)) 33 1 (v 174 1)) 33 2 (v 174 2)) 33 3 (v 174 3)) 33 4 (v 174 4)) 33 5 (v 174 5)) 175 34 0 0 9) _
  refine r_ex 7 (pc' := 75) (lo' := [some (.inr (.inr (some 33))), some (.inr (.inr (some 174)))]) (st' := [.inl 9, .inl 0, .inr (.inr (some 35)), .inl 0, .inr (.inr (some 176))]) rfl ?_
  refine r_copy2 (pc' := 78) (pc0 := 75) (len := 3) rfl (s_176 _) (s_35 _) (Or.inl rfl) (by omega) (by decide) (by decide) rfl ?_
  have hX_14 : XI (vcp (vcp (v2 (v2 (v2 (v2 (v2 (v2 v 33 0 (v 174 0)) 33 1 (v 174 1)) 33 2 (v 174 2)) 33 3 (v 174 3)) 33 4 (v 174 4)) 33 5 (v 174 5)) 175 34 0 0 9) 176 35 0 0 9) := XI.cpy hX_13 (fun x h j => Exists.elim h (fun _ h => h))
  show WV _ _ _ 78 _ _ _ (vcp (vcp (v2 (v2 (v2 (v2 (v2 (v2 v 33 0 (v 174 0)) 33 1 (v 174 1)) 33 2 (v 174 2)) 33 3 (v 174 3)) 33 4 (v 174 4)) 33 5 (v 174 5)) 175 34 0 0 9) 176 35 0 0 9) _
  refine r_ex 7 (pc' := 90) (lo' := [some (.inr (.inr (some 33))), some (.inr (.inr (some 174)))]) (st' := [.inl 9, .inl 0, .inr (.inr (some 36)), .inl 0, .inr (.inr (some 177))]) rfl ?_
  refine r_copy2 (pc' := 93) (pc0 := 90) (len := 3) rfl (s_177 _) (s_36 _) (Or.inl rfl) (by omega) (by decide) (by decide) rfl ?_
  have hX_15 : XI (vcp (vcp (vcp (v2 (v2 (v2 (v2 (v2 (v2 v 33 0 (v 174 0)) 33 1 (v 174 1)) 33 2 (v 174 2)) 33 3 (v 174 3)) 33 4 (v 174 4)) 33 5 (v 174 5)) 175 34 0 0 9) 176 35 0 0 9) 177 36 0 0 9) := XI.cpy hX_14 (fun x h j => Exists.elim h (fun _ h => h))
  show WV _ _ _ 93 _ _ _ (vcp (vcp (vcp (v2 (v2 (v2 (v2 (v2 (v2 v 33 0 (v 174 0)) 33 1 (v 174 1)) 33 2 (v 174 2)) 33 3 (v 174 3)) 33 4 (v 174 4)) 33 5 (v 174 5)) 175 34 0 0 9) 176 35 0 0 9) 177 36 0 0 9) _
  refine r_ex 4 (pc' := 101) (lo' := [some (.inr (.inr (some 33))), some (.inr (.inr (some 174)))]) (st' := [.inr (.inr (some 178)), .inr (.inr (some 37))]) rfl ?_
  refine r_call (m := 54) (args := [.inr (.inr (some 37)), .inr (.inr (some 178))]) (n' := 53) (pc' := 104) (lo' := [some (.inr (.inr (some 33))), some (.inr (.inr (some 174)))]) (st' := []) (I := .invokevirtual 54) (pc0 := 101) (len := 3) rfl rfl rfl (e_cl_eaTake33_174 hX_15) ?_
  show WV _ _ _ 104 _ [] _ (cl_eaTake33_174 (vcp (vcp (vcp (v2 (v2 (v2 (v2 (v2 (v2 v 33 0 (v 174 0)) 33 1 (v 174 1)) 33 2 (v 174 2)) 33 3 (v 174 3)) 33 4 (v 174 4)) 33 5 (v 174 5)) 175 34 0 0 9) 176 35 0 0 9) 177 36 0 0 9)) _
  have hX_16 : XI (cl_eaTake33_174 (vcp (vcp (vcp (v2 (v2 (v2 (v2 (v2 (v2 v 33 0 (v 174 0)) 33 1 (v 174 1)) 33 2 (v 174 2)) 33 3 (v 174 3)) 33 4 (v 174 4)) 33 5 (v 174 5)) 175 34 0 0 9) 176 35 0 0 9) 177 36 0 0 9)) := i_cl_eaTake33_174 (v := (vcp (vcp (vcp (v2 (v2 (v2 (v2 (v2 (v2 v 33 0 (v 174 0)) 33 1 (v 174 1)) 33 2 (v 174 2)) 33 3 (v 174 3)) 33 4 (v 174 4)) 33 5 (v 174 5)) 175 34 0 0 9) 176 35 0 0 9) 177 36 0 0 9)) hX_15
  refine r_ex 4 (pc' := 112) (lo' := [some (.inr (.inr (some 33))), some (.inr (.inr (some 174)))]) (st' := [.inr (.inr (some 183)), .inr (.inr (some 42))]) rfl ?_
  refine r_call (m := 55) (args := [.inr (.inr (some 42)), .inr (.inr (some 183))]) (n' := 53) (pc' := 115) (lo' := [some (.inr (.inr (some 33))), some (.inr (.inr (some 174)))]) (st' := []) (I := .invokevirtual 55) (pc0 := 112) (len := 3) rfl rfl rfl (e_cl_stTake33_174 hX_16) ?_
  show WV _ _ _ 115 _ [] _ (cl_stTake33_174 (cl_eaTake33_174 (vcp (vcp (vcp (v2 (v2 (v2 (v2 (v2 (v2 v 33 0 (v 174 0)) 33 1 (v 174 1)) 33 2 (v 174 2)) 33 3 (v 174 3)) 33 4 (v 174 4)) 33 5 (v 174 5)) 175 34 0 0 9) 176 35 0 0 9) 177 36 0 0 9))) _
  have hX_17 : XI (cl_stTake33_174 (cl_eaTake33_174 (vcp (vcp (vcp (v2 (v2 (v2 (v2 (v2 (v2 v 33 0 (v 174 0)) 33 1 (v 174 1)) 33 2 (v 174 2)) 33 3 (v 174 3)) 33 4 (v 174 4)) 33 5 (v 174 5)) 175 34 0 0 9) 176 35 0 0 9) 177 36 0 0 9))) := i_cl_stTake33_174 (v := (cl_eaTake33_174 (vcp (vcp (vcp (v2 (v2 (v2 (v2 (v2 (v2 v 33 0 (v 174 0)) 33 1 (v 174 1)) 33 2 (v 174 2)) 33 3 (v 174 3)) 33 4 (v 174 4)) 33 5 (v 174 5)) 175 34 0 0 9) 176 35 0 0 9) 177 36 0 0 9))) hX_16
  refine r_ex 4 (pc' := 123) (lo' := [some (.inr (.inr (some 33))), some (.inr (.inr (some 174)))]) (st' := [.inr (.inr (some 187)), .inr (.inr (some 46))]) rfl ?_
  refine r_call (m := 56) (args := [.inr (.inr (some 46)), .inr (.inr (some 187))]) (n' := 53) (pc' := 126) (lo' := [some (.inr (.inr (some 33))), some (.inr (.inr (some 174)))]) (st' := []) (I := .invokevirtual 56) (pc0 := 123) (len := 3) rfl rfl rfl (e_cl_spTake46_187 hX_17) ?_
  show WV _ _ _ 126 _ [] _ (cl_spTake46_187 (cl_stTake33_174 (cl_eaTake33_174 (vcp (vcp (vcp (v2 (v2 (v2 (v2 (v2 (v2 v 33 0 (v 174 0)) 33 1 (v 174 1)) 33 2 (v 174 2)) 33 3 (v 174 3)) 33 4 (v 174 4)) 33 5 (v 174 5)) 175 34 0 0 9) 176 35 0 0 9) 177 36 0 0 9)))) _
  have hX_18 : XI (cl_spTake46_187 (cl_stTake33_174 (cl_eaTake33_174 (vcp (vcp (vcp (v2 (v2 (v2 (v2 (v2 (v2 v 33 0 (v 174 0)) 33 1 (v 174 1)) 33 2 (v 174 2)) 33 3 (v 174 3)) 33 4 (v 174 4)) 33 5 (v 174 5)) 175 34 0 0 9) 176 35 0 0 9) 177 36 0 0 9)))) := i_cl_spTake46_187 (v := (cl_stTake33_174 (cl_eaTake33_174 (vcp (vcp (vcp (v2 (v2 (v2 (v2 (v2 (v2 v 33 0 (v 174 0)) 33 1 (v 174 1)) 33 2 (v 174 2)) 33 3 (v 174 3)) 33 4 (v 174 4)) 33 5 (v 174 5)) 175 34 0 0 9) 176 35 0 0 9) 177 36 0 0 9)))) hX_17
  refine r_ex 4 (pc' := 134) (lo' := [some (.inr (.inr (some 33))), some (.inr (.inr (some 174)))]) (st' := [.inr (.inr (some 191)), .inr (.inr (some 50))]) rfl ?_
  refine r_call (m := 56) (args := [.inr (.inr (some 50)), .inr (.inr (some 191))]) (n' := 53) (pc' := 137) (lo' := [some (.inr (.inr (some 33))), some (.inr (.inr (some 174)))]) (st' := []) (I := .invokevirtual 56) (pc0 := 134) (len := 3) rfl rfl rfl (e_cl_spTake50_191 hX_18) ?_
  show WV _ _ _ 137 _ [] _ (cl_spTake50_191 (cl_spTake46_187 (cl_stTake33_174 (cl_eaTake33_174 (vcp (vcp (vcp (v2 (v2 (v2 (v2 (v2 (v2 v 33 0 (v 174 0)) 33 1 (v 174 1)) 33 2 (v 174 2)) 33 3 (v 174 3)) 33 4 (v 174 4)) 33 5 (v 174 5)) 175 34 0 0 9) 176 35 0 0 9) 177 36 0 0 9))))) _
  have hX_19 : XI (cl_spTake50_191 (cl_spTake46_187 (cl_stTake33_174 (cl_eaTake33_174 (vcp (vcp (vcp (v2 (v2 (v2 (v2 (v2 (v2 v 33 0 (v 174 0)) 33 1 (v 174 1)) 33 2 (v 174 2)) 33 3 (v 174 3)) 33 4 (v 174 4)) 33 5 (v 174 5)) 175 34 0 0 9) 176 35 0 0 9) 177 36 0 0 9))))) := i_cl_spTake50_191 (v := (cl_spTake46_187 (cl_stTake33_174 (cl_eaTake33_174 (vcp (vcp (vcp (v2 (v2 (v2 (v2 (v2 (v2 v 33 0 (v 174 0)) 33 1 (v 174 1)) 33 2 (v 174 2)) 33 3 (v 174 3)) 33 4 (v 174 4)) 33 5 (v 174 5)) 175 34 0 0 9) 176 35 0 0 9) 177 36 0 0 9))))) hX_18
  refine r_ex 4 (pc' := 145) (lo' := [some (.inr (.inr (some 33))), some (.inr (.inr (some 174)))]) (st' := [.inr (.inr (some 195)), .inr (.inr (some 54))]) rfl ?_
  refine r_call (m := 56) (args := [.inr (.inr (some 54)), .inr (.inr (some 195))]) (n' := 53) (pc' := 148) (lo' := [some (.inr (.inr (some 33))), some (.inr (.inr (some 174)))]) (st' := []) (I := .invokevirtual 56) (pc0 := 145) (len := 3) rfl rfl rfl (e_cl_spTake54_195 hX_19) ?_
  show WV _ _ _ 148 _ [] _ (cl_spTake54_195 (cl_spTake50_191 (cl_spTake46_187 (cl_stTake33_174 (cl_eaTake33_174 (vcp (vcp (vcp (v2 (v2 (v2 (v2 (v2 (v2 v 33 0 (v 174 0)) 33 1 (v 174 1)) 33 2 (v 174 2)) 33 3 (v 174 3)) 33 4 (v 174 4)) 33 5 (v 174 5)) 175 34 0 0 9) 176 35 0 0 9) 177 36 0 0 9)))))) _
  have hX_20 : XI (cl_spTake54_195 (cl_spTake50_191 (cl_spTake46_187 (cl_stTake33_174 (cl_eaTake33_174 (vcp (vcp (vcp (v2 (v2 (v2 (v2 (v2 (v2 v 33 0 (v 174 0)) 33 1 (v 174 1)) 33 2 (v 174 2)) 33 3 (v 174 3)) 33 4 (v 174 4)) 33 5 (v 174 5)) 175 34 0 0 9) 176 35 0 0 9) 177 36 0 0 9)))))) := i_cl_spTake54_195 (v := (cl_spTake50_191 (cl_spTake46_187 (cl_stTake33_174 (cl_eaTake33_174 (vcp (vcp (vcp (v2 (v2 (v2 (v2 (v2 (v2 v 33 0 (v 174 0)) 33 1 (v 174 1)) 33 2 (v 174 2)) 33 3 (v 174 3)) 33 4 (v 174 4)) 33 5 (v 174 5)) 175 34 0 0 9) 176 35 0 0 9) 177 36 0 0 9)))))) hX_19
  refine r_ex 4 (pc' := 156) (lo' := [some (.inr (.inr (some 33))), some (.inr (.inr (some 174)))]) (st' := [.inr (.inr (some 199)), .inr (.inr (some 58))]) rfl ?_
  refine r_call (m := 56) (args := [.inr (.inr (some 58)), .inr (.inr (some 199))]) (n' := 53) (pc' := 159) (lo' := [some (.inr (.inr (some 33))), some (.inr (.inr (some 174)))]) (st' := []) (I := .invokevirtual 56) (pc0 := 156) (len := 3) rfl rfl rfl (e_cl_spTake58_199 hX_20) ?_
  show WV _ _ _ 159 _ [] _ (cl_spTake58_199 (cl_spTake54_195 (cl_spTake50_191 (cl_spTake46_187 (cl_stTake33_174 (cl_eaTake33_174 (vcp (vcp (vcp (v2 (v2 (v2 (v2 (v2 (v2 v 33 0 (v 174 0)) 33 1 (v 174 1)) 33 2 (v 174 2)) 33 3 (v 174 3)) 33 4 (v 174 4)) 33 5 (v 174 5)) 175 34 0 0 9) 176 35 0 0 9) 177 36 0 0 9))))))) _
  have hX_21 : XI (cl_spTake58_199 (cl_spTake54_195 (cl_spTake50_191 (cl_spTake46_187 (cl_stTake33_174 (cl_eaTake33_174 (vcp (vcp (vcp (v2 (v2 (v2 (v2 (v2 (v2 v 33 0 (v 174 0)) 33 1 (v 174 1)) 33 2 (v 174 2)) 33 3 (v 174 3)) 33 4 (v 174 4)) 33 5 (v 174 5)) 175 34 0 0 9) 176 35 0 0 9) 177 36 0 0 9))))))) := i_cl_spTake58_199 (v := (cl_spTake54_195 (cl_spTake50_191 (cl_spTake46_187 (cl_stTake33_174 (cl_eaTake33_174 (vcp (vcp (vcp (v2 (v2 (v2 (v2 (v2 (v2 v 33 0 (v 174 0)) 33 1 (v 174 1)) 33 2 (v 174 2)) 33 3 (v 174 3)) 33 4 (v 174 4)) 33 5 (v 174 5)) 175 34 0 0 9) 176 35 0 0 9) 177 36 0 0 9))))))) hX_20
  refine r_ret (rr := none) (I := .return_) (pc0 := 159) (len := 1) rfl rfl ?_
  exact hQ hX_21 

theorem e_cl_copy33_174 {X : PX} {d b : Nat} {v : VS}  (hX : XI v)  : EvV X (d + 1) 53 [.inr (.inr (some 33)), .inr (.inr (some 174))] b v none b (cl_copy33_174 v) := EvV.of (w_cl_copy33_174 hX  (fun _ => ⟨rfl, rfl, rfl⟩))

theorem i_cl_copy33_174 {v : VS}  (hX : XI v)  : XI (cl_copy33_174 v) := by
  have q : WV (0, fun _ => 0, none) (0 + 1) 53 0 [some (.inr (.inr (some 33))), some (.inr (.inr (some 174)))] [] 1 v (fun _ _ _ => XI (cl_copy33_174 v)) := w_cl_copy33_174 (X := (0, fun _ => 0, none)) (d := 0) (b := 1) hX  (fun q => q)
  obtain ⟨_, _, _, _, _, _, _, q⟩ := q
  exact q

theorem o_cl_copy33_174 {rk : Nat} {v : VS}  (hk : (rk < 33 ∨ 61 < rk)) : (cl_copy33_174 v ) rk = v rk := by
  unfold cl_copy33_174
  all_goals (show (cl_spTake58_199 (cl_spTake54_195 (cl_spTake50_191 (cl_spTake46_187 (cl_stTake33_174 (cl_eaTake33_174 (vcp (vcp (vcp (v2 (v2 (v2 (v2 (v2 (v2 v 33 0 (v 174 0)) 33 1 (v 174 1)) 33 2 (v 174 2)) 33 3 (v 174 3)) 33 4 (v 174 4)) 33 5 (v 174 5)) 175 34 0 0 9) 176 35 0 0 9) 177 36 0 0 9))))))) rk = _)
  all_goals (rw [o_cl_spTake58_199 (by omega), o_cl_spTake54_195 (by omega), o_cl_spTake50_191 (by omega), o_cl_spTake46_187 (by omega), o_cl_stTake33_174 (by omega), o_cl_eaTake33_174 (by omega), vcp_row (by omega), vcp_row (by omega), vcp_row (by omega), v2_row (by omega), v2_row (by omega), v2_row (by omega), v2_row (by omega), v2_row (by omega), v2_row (by omega)])

def cl_eaTake116_33 (v : VS)  : VS :=
  (vcp (vcp (vcp (vcp (v2 v 120 0 (v 37 0)) 38 121 0 0 12) 39 122 0 0 12) 40 123 0 0 12) 41 124 0 0 12)
theorem w_cl_eaTake116_33 {X : PX} {d b : Nat} {v : VS}  (hX : XI v)  {Q : Option PV → Nat → VS → Prop} (hQ : XI (cl_eaTake116_33 v) → Q none b (cl_eaTake116_33 v)) : WV X d 54 0 [some (.inr (.inr (some 120))), some (.inr (.inr (some 37)))] [] b v Q := by
  rw [cl_eaTake116_33] at hQ
  refine r_ex 3 (pc' := 5) (lo' := [some (.inr (.inr (some 120))), some (.inr (.inr (some 37)))]) (st' := [.inl (v 37 0), .inr (.inr (some 120))]) rfl ?_
  have hb_1 : 0 ≤ (v 37 0) ∧ (v 37 0) ≤ 12 := hX 37 0
  refine r_puti2 (j := 0) (pc' := 8) (pc0 := 5) (len := 3) rfl (s_120 _) rfl rfl rfl (Or.inl rfl) rfl rfl ?_
  have hX_2 : XI (v2 v 120 0 (v 37 0)) := XI.put hX (show 0 ≤ (v 37 0) ∧ (v 37 0) ≤ 12 from (by first | assumption | omega | (unfold R32 at *; omega) | (unfold R64 at *; omega) | (simp only [R32, R64] at *; omega)))
  refine r_ex 7 (pc' := 20) (lo' := [some (.inr (.inr (some 120))), some (.inr (.inr (some 37)))]) (st' := [.inl 12, .inl 0, .inr (.inr (some 121)), .inl 0, .inr (.inr (some 38))]) rfl ?_
  refine r_copy2 (pc' := 23) (pc0 := 20) (len := 3) rfl (s_38 _) (s_121 _) (Or.inl rfl) (by omega) (by decide) (by decide) rfl ?_
  have hX_3 : XI (vcp (v2 v 120 0 (v 37 0)) 38 121 0 0 12) := XI.cpy hX_2 (fun x h j => Exists.elim h (fun _ h => h))
  show WV _ _ _ 23 _ _ _ (vcp (v2 v 120 0 (v 37 0)) 38 121 0 0 12) _
  refine r_ex 7 (pc' := 35) (lo' := [some (.inr (.inr (some 120))), some (.inr (.inr (some 37)))]) (st' := [.inl 12, .inl 0, .inr (.inr (some 122)), .inl 0, .inr (.inr (some 39))]) rfl ?_
  refine r_copy2 (pc' := 38) (pc0 := 35) (len := 3) rfl (s_39 _) (s_122 _) (Or.inl rfl) (by omega) (by decide) (by decide) rfl ?_
  have hX_4 : XI (vcp (vcp (v2 v 120 0 (v 37 0)) 38 121 0 0 12) 39 122 0 0 12) := XI.cpy hX_3 (fun x h j => Exists.elim h (fun _ h => h))
  show WV _ _ _ 38 _ _ _ (vcp (vcp (v2 v 120 0 (v 37 0)) 38 121 0 0 12) 39 122 0 0 12) _
  refine r_ex 7 (pc' := 50) (lo' := [some (.inr (.inr (some 120))), some (.inr (.inr (some 37)))]) (st' := [.inl 12, .inl 0, .inr (.inr (some 123)), .inl 0, .inr (.inr (some 40))]) rfl ?_
  refine r_copy2 (pc' := 53) (pc0 := 50) (len := 3) rfl (s_40 _) (s_123 _) (Or.inl rfl) (by omega) (by decide) (by decide) rfl ?_
  have hX_5 : XI (vcp (vcp (vcp (v2 v 120 0 (v 37 0)) 38 121 0 0 12) 39 122 0 0 12) 40 123 0 0 12) := XI.cpy hX_4 (fun x h j => Exists.elim h (fun _ h => h))
  show WV _ _ _ 53 _ _ _ (vcp (vcp (vcp (v2 v 120 0 (v 37 0)) 38 121 0 0 12) 39 122 0 0 12) 40 123 0 0 12) _
  refine r_ex 7 (pc' := 65) (lo' := [some (.inr (.inr (some 120))), some (.inr (.inr (some 37)))]) (st' := [.inl 12, .inl 0, .inr (.inr (some 124)), .inl 0, .inr (.inr (some 41))]) rfl ?_
  refine r_copy2 (pc' := 68) (pc0 := 65) (len := 3) rfl (s_41 _) (s_124 _) (Or.inl rfl) (by omega) (by decide) (by decide) rfl ?_
  have hX_6 : XI (vcp (vcp (vcp (vcp (v2 v 120 0 (v 37 0)) 38 121 0 0 12) 39 122 0 0 12) 40 123 0 0 12) 41 124 0 0 12) := XI.cpy hX_5 (fun x h j => Exists.elim h (fun _ h => h))
  show WV _ _ _ 68 _ _ _ (vcp (vcp (vcp (vcp (v2 v 120 0 (v 37 0)) 38 121 0 0 12) 39 122 0 0 12) 40 123 0 0 12) 41 124 0 0 12) _
  refine r_ret (rr := none) (I := .return_) (pc0 := 68) (len := 1) rfl rfl ?_
  exact hQ hX_6 

theorem e_cl_eaTake116_33 {X : PX} {d b : Nat} {v : VS}  (hX : XI v)  : EvV X d 54 [.inr (.inr (some 120)), .inr (.inr (some 37))] b v none b (cl_eaTake116_33 v) := EvV.of (w_cl_eaTake116_33 hX  (fun _ => ⟨rfl, rfl, rfl⟩))

theorem i_cl_eaTake116_33 {v : VS}  (hX : XI v)  : XI (cl_eaTake116_33 v) := by
  have q : WV (0, fun _ => 0, none) 0 54 0 [some (.inr (.inr (some 120))), some (.inr (.inr (some 37)))] [] 1 v (fun _ _ _ => XI (cl_eaTake116_33 v)) := w_cl_eaTake116_33 (X := (0, fun _ => 0, none)) (d := 0) (b := 1) hX  (fun q => q)
  obtain ⟨_, _, _, _, _, _, _, q⟩ := q
  exact q

theorem o_cl_eaTake116_33 {rk : Nat} {v : VS}  (hk : (rk < 120 ∨ 124 < rk)) : (cl_eaTake116_33 v ) rk = v rk := by
  unfold cl_eaTake116_33
  all_goals (show (vcp (vcp (vcp (vcp (v2 v 120 0 (v 37 0)) 38 121 0 0 12) 39 122 0 0 12) 40 123 0 0 12) 41 124 0 0 12) rk = _)
  all_goals (rw [vcp_row (by omega), vcp_row (by omega), vcp_row (by omega), vcp_row (by omega), v2_row (by omega)])

def cl_stTake116_33 (v : VS)  : VS :=
  (vcp (vcp (vcp (v2 v 125 0 (v 42 0)) 43 126 0 0 5) 44 127 0 0 5) 45 128 0 0 5)
theorem w_cl_stTake116_33 {X : PX} {d b : Nat} {v : VS}  (hX : XI v)  {Q : Option PV → Nat → VS → Prop} (hQ : XI (cl_stTake116_33 v) → Q none b (cl_stTake116_33 v)) : WV X d 55 0 [some (.inr (.inr (some 125))), some (.inr (.inr (some 42)))] [] b v Q := by
  rw [cl_stTake116_33] at hQ
  refine r_ex 3 (pc' := 5) (lo' := [some (.inr (.inr (some 125))), some (.inr (.inr (some 42)))]) (st' := [.inl (v 42 0), .inr (.inr (some 125))]) rfl ?_
  have hb_1 : 0 ≤ (v 42 0) ∧ (v 42 0) ≤ 4 := hX 42 0
  refine r_puti2 (j := 0) (pc' := 8) (pc0 := 5) (len := 3) rfl (s_125 _) rfl rfl rfl (Or.inl rfl) rfl rfl ?_
  have hX_2 : XI (v2 v 125 0 (v 42 0)) := XI.put hX (show 0 ≤ (v 42 0) ∧ (v 42 0) ≤ 4 from (by first | assumption | omega | (unfold R32 at *; omega) | (unfold R64 at *; omega) | (simp only [R32, R64] at *; omega)))
  refine r_ex 7 (pc' := 19) (lo' := [some (.inr (.inr (some 125))), some (.inr (.inr (some 42)))]) (st' := [.inl 5, .inl 0, .inr (.inr (some 126)), .inl 0, .inr (.inr (some 43))]) rfl ?_
  refine r_copy2 (pc' := 22) (pc0 := 19) (len := 3) rfl (s_43 _) (s_126 _) (Or.inl rfl) (by omega) (by decide) (by decide) rfl ?_
  have hX_3 : XI (vcp (v2 v 125 0 (v 42 0)) 43 126 0 0 5) := XI.cpy hX_2 (fun x h j => Exists.elim h (fun _ h => h))
  show WV _ _ _ 22 _ _ _ (vcp (v2 v 125 0 (v 42 0)) 43 126 0 0 5) _
  refine r_ex 7 (pc' := 33) (lo' := [some (.inr (.inr (some 125))), some (.inr (.inr (some 42)))]) (st' := [.inl 5, .inl 0, .inr (.inr (some 127)), .inl 0, .inr (.inr (some 44))]) rfl ?_
  refine r_copy2 (pc' := 36) (pc0 := 33) (len := 3) rfl (s_44 _) (s_127 _) (Or.inl rfl) (by omega) (by decide) (by decide) rfl ?_
  have hX_4 : XI (vcp (vcp (v2 v 125 0 (v 42 0)) 43 126 0 0 5) 44 127 0 0 5) := XI.cpy hX_3 (fun x h j => Exists.elim h (fun _ h => h))
  show WV _ _ _ 36 _ _ _ (vcp (vcp (v2 v 125 0 (v 42 0)) 43 126 0 0 5) 44 127 0 0 5) _
  refine r_ex 7 (pc' := 47) (lo' := [some (.inr (.inr (some 125))), some (.inr (.inr (some 42)))]) (st' := [.inl 5, .inl 0, .inr (.inr (some 128)), .inl 0, .inr (.inr (some 45))]) rfl ?_
  refine r_copy2 (pc' := 50) (pc0 := 47) (len := 3) rfl (s_45 _) (s_128 _) (Or.inl rfl) (by omega) (by decide) (by decide) rfl ?_
  have hX_5 : XI (vcp (vcp (vcp (v2 v 125 0 (v 42 0)) 43 126 0 0 5) 44 127 0 0 5) 45 128 0 0 5) := XI.cpy hX_4 (fun x h j => Exists.elim h (fun _ h => h))
  show WV _ _ _ 50 _ _ _ (vcp (vcp (vcp (v2 v 125 0 (v 42 0)) 43 126 0 0 5) 44 127 0 0 5) 45 128 0 0 5) _
  refine r_ret (rr := none) (I := .return_) (pc0 := 50) (len := 1) rfl rfl ?_
  exact hQ hX_5 

theorem e_cl_stTake116_33 {X : PX} {d b : Nat} {v : VS}  (hX : XI v)  : EvV X d 55 [.inr (.inr (some 125)), .inr (.inr (some 42))] b v none b (cl_stTake116_33 v) := EvV.of (w_cl_stTake116_33 hX  (fun _ => ⟨rfl, rfl, rfl⟩))

theorem i_cl_stTake116_33 {v : VS}  (hX : XI v)  : XI (cl_stTake116_33 v) := by
  have q : WV (0, fun _ => 0, none) 0 55 0 [some (.inr (.inr (some 125))), some (.inr (.inr (some 42)))] [] 1 v (fun _ _ _ => XI (cl_stTake116_33 v)) := w_cl_stTake116_33 (X := (0, fun _ => 0, none)) (d := 0) (b := 1) hX  (fun q => q)
  obtain ⟨_, _, _, _, _, _, _, q⟩ := q
  exact q

theorem o_cl_stTake116_33 {rk : Nat} {v : VS}  (hk : (rk < 125 ∨ 128 < rk)) : (cl_stTake116_33 v ) rk = v rk := by
  unfold cl_stTake116_33
  all_goals (show (vcp (vcp (vcp (v2 v 125 0 (v 42 0)) 43 126 0 0 5) 44 127 0 0 5) 45 128 0 0 5) rk = _)
  all_goals (rw [vcp_row (by omega), vcp_row (by omega), vcp_row (by omega), v2_row (by omega)])

def cl_spTake129_46 (v : VS)  : VS :=
  (vcp (vcp (vcp (v2 v 129 0 (v 46 0)) 47 130 0 0 6) 48 131 0 0 6) 49 132 0 0 6)
theorem w_cl_spTake129_46 {X : PX} {d b : Nat} {v : VS}  (hX : XI v)  {Q : Option PV → Nat → VS → Prop} (hQ : XI (cl_spTake129_46 v) → Q none b (cl_spTake129_46 v)) : WV X d 56 0 [some (.inr (.inr (some 129))), some (.inr (.inr (some 46)))] [] b v Q := by
  rw [cl_spTake129_46] at hQ
  refine r_ex 3 (pc' := 5) (lo' := [some (.inr (.inr (some 129))), some (.inr (.inr (some 46)))]) (st' := [.inl (v 46 0), .inr (.inr (some 129))]) rfl ?_
  have hb_1 : 0 ≤ (v 46 0) ∧ (v 46 0) ≤ 6 := hX 46 0
  refine r_puti2 (j := 0) (pc' := 8) (pc0 := 5) (len := 3) rfl (s_129 _) rfl rfl rfl (Or.inl rfl) rfl rfl ?_
  have hX_2 : XI (v2 v 129 0 (v 46 0)) := XI.put hX (show 0 ≤ (v 46 0) ∧ (v 46 0) ≤ 6 from (by first | assumption | omega | (unfold R32 at *; omega) | (unfold R64 at *; omega) | (simp only [R32, R64] at *; omega)))
  refine r_ex 7 (pc' := 20) (lo' := [some (.inr (.inr (some 129))), some (.inr (.inr (some 46)))]) (st' := [.inl 6, .inl 0, .inr (.inr (some 130)), .inl 0, .inr (.inr (some 47))]) rfl ?_
  refine r_copy2 (pc' := 23) (pc0 := 20) (len := 3) rfl (s_47 _) (s_130 _) (Or.inl rfl) (by omega) (by decide) (by decide) rfl ?_
  have hX_3 : XI (vcp (v2 v 129 0 (v 46 0)) 47 130 0 0 6) := XI.cpy hX_2 (fun x h j => Exists.elim h (fun _ h => h))
  show WV _ _ _ 23 _ _ _ (vcp (v2 v 129 0 (v 46 0)) 47 130 0 0 6) _
  refine r_ex 7 (pc' := 35) (lo' := [some (.inr (.inr (some 129))), some (.inr (.inr (some 46)))]) (st' := [.inl 6, .inl 0, .inr (.inr (some 131)), .inl 0, .inr (.inr (some 48))]) rfl ?_
  refine r_copy2 (pc' := 38) (pc0 := 35) (len := 3) rfl (s_48 _) (s_131 _) (Or.inl rfl) (by omega) (by decide) (by decide) rfl ?_
  have hX_4 : XI (vcp (vcp (v2 v 129 0 (v 46 0)) 47 130 0 0 6) 48 131 0 0 6) := XI.cpy hX_3 (fun x h j => Exists.elim h (fun _ h => h))
  show WV _ _ _ 38 _ _ _ (vcp (vcp (v2 v 129 0 (v 46 0)) 47 130 0 0 6) 48 131 0 0 6) _
  refine r_ex 7 (pc' := 50) (lo' := [some (.inr (.inr (some 129))), some (.inr (.inr (some 46)))]) (st' := [.inl 6, .inl 0, .inr (.inr (some 132)), .inl 0, .inr (.inr (some 49))]) rfl ?_
  refine r_copy2 (pc' := 53) (pc0 := 50) (len := 3) rfl (s_49 _) (s_132 _) (Or.inl rfl) (by omega) (by decide) (by decide) rfl ?_
  have hX_5 : XI (vcp (vcp (vcp (v2 v 129 0 (v 46 0)) 47 130 0 0 6) 48 131 0 0 6) 49 132 0 0 6) := XI.cpy hX_4 (fun x h j => Exists.elim h (fun _ h => h))
  show WV _ _ _ 53 _ _ _ (vcp (vcp (vcp (v2 v 129 0 (v 46 0)) 47 130 0 0 6) 48 131 0 0 6) 49 132 0 0 6) _
  refine r_ret (rr := none) (I := .return_) (pc0 := 53) (len := 1) rfl rfl ?_
  exact hQ hX_5 

theorem e_cl_spTake129_46 {X : PX} {d b : Nat} {v : VS}  (hX : XI v)  : EvV X d 56 [.inr (.inr (some 129)), .inr (.inr (some 46))] b v none b (cl_spTake129_46 v) := EvV.of (w_cl_spTake129_46 hX  (fun _ => ⟨rfl, rfl, rfl⟩))

theorem i_cl_spTake129_46 {v : VS}  (hX : XI v)  : XI (cl_spTake129_46 v) := by
  have q : WV (0, fun _ => 0, none) 0 56 0 [some (.inr (.inr (some 129))), some (.inr (.inr (some 46)))] [] 1 v (fun _ _ _ => XI (cl_spTake129_46 v)) := w_cl_spTake129_46 (X := (0, fun _ => 0, none)) (d := 0) (b := 1) hX  (fun q => q)
  obtain ⟨_, _, _, _, _, _, _, q⟩ := q
  exact q

theorem o_cl_spTake129_46 {rk : Nat} {v : VS}  (hk : (rk < 129 ∨ 132 < rk)) : (cl_spTake129_46 v ) rk = v rk := by
  unfold cl_spTake129_46
  all_goals (show (vcp (vcp (vcp (v2 v 129 0 (v 46 0)) 47 130 0 0 6) 48 131 0 0 6) 49 132 0 0 6) rk = _)
  all_goals (rw [vcp_row (by omega), vcp_row (by omega), vcp_row (by omega), v2_row (by omega)])

def cl_spTake133_50 (v : VS)  : VS :=
  (vcp (vcp (vcp (v2 v 133 0 (v 50 0)) 51 134 0 0 6) 52 135 0 0 6) 53 136 0 0 6)
theorem w_cl_spTake133_50 {X : PX} {d b : Nat} {v : VS}  (hX : XI v)  {Q : Option PV → Nat → VS → Prop} (hQ : XI (cl_spTake133_50 v) → Q none b (cl_spTake133_50 v)) : WV X d 56 0 [some (.inr (.inr (some 133))), some (.inr (.inr (some 50)))] [] b v Q := by
  rw [cl_spTake133_50] at hQ
  refine r_ex 3 (pc' := 5) (lo' := [some (.inr (.inr (some 133))), some (.inr (.inr (some 50)))]) (st' := [.inl (v 50 0), .inr (.inr (some 133))]) rfl ?_
  have hb_1 : 0 ≤ (v 50 0) ∧ (v 50 0) ≤ 6 := hX 50 0
  refine r_puti2 (j := 0) (pc' := 8) (pc0 := 5) (len := 3) rfl (s_133 _) rfl rfl rfl (Or.inl rfl) rfl rfl ?_
  have hX_2 : XI (v2 v 133 0 (v 50 0)) := XI.put hX (show 0 ≤ (v 50 0) ∧ (v 50 0) ≤ 6 from (by first | assumption | omega | (unfold R32 at *; omega) | (unfold R64 at *; omega) | (simp only [R32, R64] at *; omega)))
  refine r_ex 7 (pc' := 20) (lo' := [some (.inr (.inr (some 133))), some (.inr (.inr (some 50)))]) (st' := [.inl 6, .inl 0, .inr (.inr (some 134)), .inl 0, .inr (.inr (some 51))]) rfl ?_
  refine r_copy2 (pc' := 23) (pc0 := 20) (len := 3) rfl (s_51 _) (s_134 _) (Or.inl rfl) (by omega) (by decide) (by decide) rfl ?_
  have hX_3 : XI (vcp (v2 v 133 0 (v 50 0)) 51 134 0 0 6) := XI.cpy hX_2 (fun x h j => Exists.elim h (fun _ h => h))
  show WV _ _ _ 23 _ _ _ (vcp (v2 v 133 0 (v 50 0)) 51 134 0 0 6) _
  refine r_ex 7 (pc' := 35) (lo' := [some (.inr (.inr (some 133))), some (.inr (.inr (some 50)))]) (st' := [.inl 6, .inl 0, .inr (.inr (some 135)), .inl 0, .inr (.inr (some 52))]) rfl ?_
  refine r_copy2 (pc' := 38) (pc0 := 35) (len := 3) rfl (s_52 _) (s_135 _) (Or.inl rfl) (by omega) (by decide) (by decide) rfl ?_
  have hX_4 : XI (vcp (vcp (v2 v 133 0 (v 50 0)) 51 134 0 0 6) 52 135 0 0 6) := XI.cpy hX_3 (fun x h j => Exists.elim h (fun _ h => h))
  show WV _ _ _ 38 _ _ _ (vcp (vcp (v2 v 133 0 (v 50 0)) 51 134 0 0 6) 52 135 0 0 6) _
  refine r_ex 7 (pc' := 50) (lo' := [some (.inr (.inr (some 133))), some (.inr (.inr (some 50)))]) (st' := [.inl 6, .inl 0, .inr (.inr (some 136)), .inl 0, .inr (.inr (some 53))]) rfl ?_
  refine r_copy2 (pc' := 53) (pc0 := 50) (len := 3) rfl (s_53 _) (s_136 _) (Or.inl rfl) (by omega) (by decide) (by decide) rfl ?_
  have hX_5 : XI (vcp (vcp (vcp (v2 v 133 0 (v 50 0)) 51 134 0 0 6) 52 135 0 0 6) 53 136 0 0 6) := XI.cpy hX_4 (fun x h j => Exists.elim h (fun _ h => h))
  show WV _ _ _ 53 _ _ _ (vcp (vcp (vcp (v2 v 133 0 (v 50 0)) 51 134 0 0 6) 52 135 0 0 6) 53 136 0 0 6) _
  refine r_ret (rr := none) (I := .return_) (pc0 := 53) (len := 1) rfl rfl ?_
  exact hQ hX_5 

theorem e_cl_spTake133_50 {X : PX} {d b : Nat} {v : VS}  (hX : XI v)  : EvV X d 56 [.inr (.inr (some 133)), .inr (.inr (some 50))] b v none b (cl_spTake133_50 v) := EvV.of (w_cl_spTake133_50 hX  (fun _ => ⟨rfl, rfl, rfl⟩))

theorem i_cl_spTake133_50 {v : VS}  (hX : XI v)  : XI (cl_spTake133_50 v) := by
  have q : WV (0, fun _ => 0, none) 0 56 0 [some (.inr (.inr (some 133))), some (.inr (.inr (some 50)))] [] 1 v (fun _ _ _ => XI (cl_spTake133_50 v)) := w_cl_spTake133_50 (X := (0, fun _ => 0, none)) (d := 0) (b := 1) hX  (fun q => q)
  obtain ⟨_, _, _, _, _, _, _, q⟩ := q
  exact q

theorem o_cl_spTake133_50 {rk : Nat} {v : VS}  (hk : (rk < 133 ∨ 136 < rk)) : (cl_spTake133_50 v ) rk = v rk := by
  unfold cl_spTake133_50
  all_goals (show (vcp (vcp (vcp (v2 v 133 0 (v 50 0)) 51 134 0 0 6) 52 135 0 0 6) 53 136 0 0 6) rk = _)
  all_goals (rw [vcp_row (by omega), vcp_row (by omega), vcp_row (by omega), v2_row (by omega)])

def cl_spTake137_54 (v : VS)  : VS :=
  (vcp (vcp (vcp (v2 v 137 0 (v 54 0)) 55 138 0 0 6) 56 139 0 0 6) 57 140 0 0 6)
theorem w_cl_spTake137_54 {X : PX} {d b : Nat} {v : VS}  (hX : XI v)  {Q : Option PV → Nat → VS → Prop} (hQ : XI (cl_spTake137_54 v) → Q none b (cl_spTake137_54 v)) : WV X d 56 0 [some (.inr (.inr (some 137))), some (.inr (.inr (some 54)))] [] b v Q := by
  rw [cl_spTake137_54] at hQ
  refine r_ex 3 (pc' := 5) (lo' := [some (.inr (.inr (some 137))), some (.inr (.inr (some 54)))]) (st' := [.inl (v 54 0), .inr (.inr (some 137))]) rfl ?_
  have hb_1 : 0 ≤ (v 54 0) ∧ (v 54 0) ≤ 6 := hX 54 0
  refine r_puti2 (j := 0) (pc' := 8) (pc0 := 5) (len := 3) rfl (s_137 _) rfl rfl rfl (Or.inl rfl) rfl rfl ?_
  have hX_2 : XI (v2 v 137 0 (v 54 0)) := XI.put hX (show 0 ≤ (v 54 0) ∧ (v 54 0) ≤ 6 from (by first | assumption | omega | (unfold R32 at *; omega) | (unfold R64 at *; omega) | (simp only [R32, R64] at *; omega)))
  refine r_ex 7 (pc' := 20) (lo' := [some (.inr (.inr (some 137))), some (.inr (.inr (some 54)))]) (st' := [.inl 6, .inl 0, .inr (.inr (some 138)), .inl 0, .inr (.inr (some 55))]) rfl ?_
  refine r_copy2 (pc' := 23) (pc0 := 20) (len := 3) rfl (s_55 _) (s_138 _) (Or.inl rfl) (by omega) (by decide) (by decide) rfl ?_
  have hX_3 : XI (vcp (v2 v 137 0 (v 54 0)) 55 138 0 0 6) := XI.cpy hX_2 (fun x h j => Exists.elim h (fun _ h => h))
  show WV _ _ _ 23 _ _ _ (vcp (v2 v 137 0 (v 54 0)) 55 138 0 0 6) _
  refine r_ex 7 (pc' := 35) (lo' := [some (.inr (.inr (some 137))), some (.inr (.inr (some 54)))]) (st' := [.inl 6, .inl 0, .inr (.inr (some 139)), .inl 0, .inr (.inr (some 56))]) rfl ?_
  refine r_copy2 (pc' := 38) (pc0 := 35) (len := 3) rfl (s_56 _) (s_139 _) (Or.inl rfl) (by omega) (by decide) (by decide) rfl ?_
  have hX_4 : XI (vcp (vcp (v2 v 137 0 (v 54 0)) 55 138 0 0 6) 56 139 0 0 6) := XI.cpy hX_3 (fun x h j => Exists.elim h (fun _ h => h))
  show WV _ _ _ 38 _ _ _ (vcp (vcp (v2 v 137 0 (v 54 0)) 55 138 0 0 6) 56 139 0 0 6) _
  refine r_ex 7 (pc' := 50) (lo' := [some (.inr (.inr (some 137))), some (.inr (.inr (some 54)))]) (st' := [.inl 6, .inl 0, .inr (.inr (some 140)), .inl 0, .inr (.inr (some 57))]) rfl ?_
  refine r_copy2 (pc' := 53) (pc0 := 50) (len := 3) rfl (s_57 _) (s_140 _) (Or.inl rfl) (by omega) (by decide) (by decide) rfl ?_
  have hX_5 : XI (vcp (vcp (vcp (v2 v 137 0 (v 54 0)) 55 138 0 0 6) 56 139 0 0 6) 57 140 0 0 6) := XI.cpy hX_4 (fun x h j => Exists.elim h (fun _ h => h))
  show WV _ _ _ 53 _ _ _ (vcp (vcp (vcp (v2 v 137 0 (v 54 0)) 55 138 0 0 6) 56 139 0 0 6) 57 140 0 0 6) _
  refine r_ret (rr := none) (I := .return_) (pc0 := 53) (len := 1) rfl rfl ?_
  exact hQ hX_5 

theorem e_cl_spTake137_54 {X : PX} {d b : Nat} {v : VS}  (hX : XI v)  : EvV X d 56 [.inr (.inr (some 137)), .inr (.inr (some 54))] b v none b (cl_spTake137_54 v) := EvV.of (w_cl_spTake137_54 hX  (fun _ => ⟨rfl, rfl, rfl⟩))

theorem i_cl_spTake137_54 {v : VS}  (hX : XI v)  : XI (cl_spTake137_54 v) := by
  have q : WV (0, fun _ => 0, none) 0 56 0 [some (.inr (.inr (some 137))), some (.inr (.inr (some 54)))] [] 1 v (fun _ _ _ => XI (cl_spTake137_54 v)) := w_cl_spTake137_54 (X := (0, fun _ => 0, none)) (d := 0) (b := 1) hX  (fun q => q)
  obtain ⟨_, _, _, _, _, _, _, q⟩ := q
  exact q

theorem o_cl_spTake137_54 {rk : Nat} {v : VS}  (hk : (rk < 137 ∨ 140 < rk)) : (cl_spTake137_54 v ) rk = v rk := by
  unfold cl_spTake137_54
  all_goals (show (vcp (vcp (vcp (v2 v 137 0 (v 54 0)) 55 138 0 0 6) 56 139 0 0 6) 57 140 0 0 6) rk = _)
  all_goals (rw [vcp_row (by omega), vcp_row (by omega), vcp_row (by omega), v2_row (by omega)])

def cl_spTake141_58 (v : VS)  : VS :=
  (vcp (vcp (vcp (v2 v 141 0 (v 58 0)) 59 142 0 0 6) 60 143 0 0 6) 61 144 0 0 6)
theorem w_cl_spTake141_58 {X : PX} {d b : Nat} {v : VS}  (hX : XI v)  {Q : Option PV → Nat → VS → Prop} (hQ : XI (cl_spTake141_58 v) → Q none b (cl_spTake141_58 v)) : WV X d 56 0 [some (.inr (.inr (some 141))), some (.inr (.inr (some 58)))] [] b v Q := by
  rw [cl_spTake141_58] at hQ
  refine r_ex 3 (pc' := 5) (lo' := [some (.inr (.inr (some 141))), some (.inr (.inr (some 58)))]) (st' := [.inl (v 58 0), .inr (.inr (some 141))]) rfl ?_
  have hb_1 : 0 ≤ (v 58 0) ∧ (v 58 0) ≤ 6 := hX 58 0
  refine r_puti2 (j := 0) (pc' := 8) (pc0 := 5) (len := 3) rfl (s_141 _) rfl rfl rfl (Or.inl rfl) rfl rfl ?_
  have hX_2 : XI (v2 v 141 0 (v 58 0)) := XI.put hX (show 0 ≤ (v 58 0) ∧ (v 58 0) ≤ 6 from (by first | assumption | omega | (unfold R32 at *; omega) | (unfold R64 at *; omega) | (simp only [R32, R64] at *; omega)))
  refine r_ex 7 (pc' := 20) (lo' := [some (.inr (.inr (some 141))), some (.inr (.inr (some 58)))]) (st' := [.inl 6, .inl 0, .inr (.inr (some 142)), .inl 0, .inr (.inr (some 59))]) rfl ?_
  refine r_copy2 (pc' := 23) (pc0 := 20) (len := 3) rfl (s_59 _) (s_142 _) (Or.inl rfl) (by omega) (by decide) (by decide) rfl ?_
  have hX_3 : XI (vcp (v2 v 141 0 (v 58 0)) 59 142 0 0 6) := XI.cpy hX_2 (fun x h j => Exists.elim h (fun _ h => h))
  show WV _ _ _ 23 _ _ _ (vcp (v2 v 141 0 (v 58 0)) 59 142 0 0 6) _
  refine r_ex 7 (pc' := 35) (lo' := [some (.inr (.inr (some 141))), some (.inr (.inr (some 58)))]) (st' := [.inl 6, .inl 0, .inr (.inr (some 143)), .inl 0, .inr (.inr (some 60))]) rfl ?_
  refine r_copy2 (pc' := 38) (pc0 := 35) (len := 3) rfl (s_60 _) (s_143 _) (Or.inl rfl) (by omega) (by decide) (by decide) rfl ?_
  have hX_4 : XI (vcp (vcp (v2 v 141 0 (v 58 0)) 59 142 0 0 6) 60 143 0 0 6) := XI.cpy hX_3 (fun x h j => Exists.elim h (fun _ h => h))
  show WV _ _ _ 38 _ _ _ (vcp (vcp (v2 v 141 0 (v 58 0)) 59 142 0 0 6) 60 143 0 0 6) _
  refine r_ex 7 (pc' := 50) (lo' := [some (.inr (.inr (some 141))), some (.inr (.inr (some 58)))]) (st' := [.inl 6, .inl 0, .inr (.inr (some 144)), .inl 0, .inr (.inr (some 61))]) rfl ?_
  refine r_copy2 (pc' := 53) (pc0 := 50) (len := 3) rfl (s_61 _) (s_144 _) (Or.inl rfl) (by omega) (by decide) (by decide) rfl ?_
  have hX_5 : XI (vcp (vcp (vcp (v2 v 141 0 (v 58 0)) 59 142 0 0 6) 60 143 0 0 6) 61 144 0 0 6) := XI.cpy hX_4 (fun x h j => Exists.elim h (fun _ h => h))
  show WV _ _ _ 53 _ _ _ (vcp (vcp (vcp (v2 v 141 0 (v 58 0)) 59 142 0 0 6) 60 143 0 0 6) 61 144 0 0 6) _
  refine r_ret (rr := none) (I := .return_) (pc0 := 53) (len := 1) rfl rfl ?_
  exact hQ hX_5 

theorem e_cl_spTake141_58 {X : PX} {d b : Nat} {v : VS}  (hX : XI v)  : EvV X d 56 [.inr (.inr (some 141)), .inr (.inr (some 58))] b v none b (cl_spTake141_58 v) := EvV.of (w_cl_spTake141_58 hX  (fun _ => ⟨rfl, rfl, rfl⟩))

theorem i_cl_spTake141_58 {v : VS}  (hX : XI v)  : XI (cl_spTake141_58 v) := by
  have q : WV (0, fun _ => 0, none) 0 56 0 [some (.inr (.inr (some 141))), some (.inr (.inr (some 58)))] [] 1 v (fun _ _ _ => XI (cl_spTake141_58 v)) := w_cl_spTake141_58 (X := (0, fun _ => 0, none)) (d := 0) (b := 1) hX  (fun q => q)
  obtain ⟨_, _, _, _, _, _, _, q⟩ := q
  exact q

theorem o_cl_spTake141_58 {rk : Nat} {v : VS}  (hk : (rk < 141 ∨ 144 < rk)) : (cl_spTake141_58 v ) rk = v rk := by
  unfold cl_spTake141_58
  all_goals (show (vcp (vcp (vcp (v2 v 141 0 (v 58 0)) 59 142 0 0 6) 60 143 0 0 6) 61 144 0 0 6) rk = _)
  all_goals (rw [vcp_row (by omega), vcp_row (by omega), vcp_row (by omega), v2_row (by omega)])

def cl_copy116_33 (v : VS)  : VS :=
  (cl_spTake141_58 (cl_spTake137_54 (cl_spTake133_50 (cl_spTake129_46 (cl_stTake116_33 (cl_eaTake116_33 (vcp (vcp (vcp (v2 (v2 (v2 (v2 (v2 (v2 v 116 0 (v 33 0)) 116 1 (v 33 1)) 116 2 (v 33 2)) 116 3 (v 33 3)) 116 4 (v 33 4)) 116 5 (v 33 5)) 34 117 0 0 9) 35 118 0 0 9) 36 119 0 0 9)))))))
theorem w_cl_copy116_33 {X : PX} {d b : Nat} {v : VS}  (hX : XI v)  {Q : Option PV → Nat → VS → Prop} (hQ : XI (cl_copy116_33 v) → Q none b (cl_copy116_33 v)) : WV X (d + 1) 53 0 [some (.inr (.inr (some 116))), some (.inr (.inr (some 33)))] [] b v Q := by
  rw [cl_copy116_33] at hQ
  refine r_ex 3 (pc' := 5) (lo' := [some (.inr (.inr (some 116))), some (.inr (.inr (some 33)))]) (st' := [.inl (v 33 0), .inr (.inr (some 116))]) rfl ?_
  have hb_1 : 0 ≤ (v 33 0) ∧ (v 33 0) ≤ 9 := hX 33 0
  refine r_puti2 (j := 0) (pc' := 8) (pc0 := 5) (len := 3) rfl (s_116 _) rfl rfl rfl (Or.inl rfl) rfl rfl ?_
  have hX_2 : XI (v2 v 116 0 (v 33 0)) := XI.put hX (show 0 ≤ (v 33 0) ∧ (v 33 0) ≤ 9 from (by first | assumption | omega | (unfold R32 at *; omega) | (unfold R64 at *; omega) | (simp only [R32, R64] at *; omega)))
  refine r_ex 3 (pc' := 13) (lo' := [some (.inr (.inr (some 116))), some (.inr (.inr (some 33)))]) (st' := [.inl (v 33 1), .inr (.inr (some 116))]) rfl ?_
  have hb_3 : 0 ≤ (v 33 1) ∧ (v 33 1) ≤ 300 := hX_2 33 1
  refine r_puti2 (j := 1) (pc' := 16) (pc0 := 13) (len := 3) rfl (s_116 _) rfl rfl rfl (Or.inl rfl) rfl rfl ?_
  have hX_4 : XI (v2 (v2 v 116 0 (v 33 0)) 116 1 (v 33 1)) := XI.put hX_2 (show 0 ≤ (v 33 1) ∧ (v 33 1) ≤ 300 from (by first | assumption | omega | (unfold R32 at *; omega) | (unfold R64 at *; omega) | (simp only [R32, R64] at *; omega)))
  refine r_ex 3 (pc' := 21) (lo' := [some (.inr (.inr (some 116))), some (.inr (.inr (some 33)))]) (st' := [.inl (v 33 2), .inr (.inr (some 116))]) rfl ?_
  have hb_5 : 0 ≤ (v 33 2) ∧ (v 33 2) ≤ 2001 := hX_4 33 2
  refine r_puti2 (j := 2) (pc' := 24) (pc0 := 21) (len := 3) rfl (s_116 _) rfl rfl rfl (Or.inl rfl) rfl rfl ?_
  have hX_6 : XI (v2 (v2 (v2 v 116 0 (v 33 0)) 116 1 (v 33 1)) 116 2 (v 33 2)) := XI.put hX_4 (show 0 ≤ (v 33 2) ∧ (v 33 2) ≤ 2001 from (by first | assumption | omega | (unfold R32 at *; omega) | (unfold R64 at *; omega) | (simp only [R32, R64] at *; omega)))
  refine r_ex 3 (pc' := 29) (lo' := [some (.inr (.inr (some 116))), some (.inr (.inr (some 33)))]) (st' := [.inl (v 33 3), .inr (.inr (some 116))]) rfl ?_
  have hb_7 : 0 ≤ (v 33 3) ∧ (v 33 3) ≤ 9 := hX_6 33 3
  refine r_puti2 (j := 3) (pc' := 32) (pc0 := 29) (len := 3) rfl (s_116 _) rfl rfl rfl (Or.inl rfl) rfl rfl ?_
  have hX_8 : XI (v2 (v2 (v2 (v2 v 116 0 (v 33 0)) 116 1 (v 33 1)) 116 2 (v 33 2)) 116 3 (v 33 3)) := XI.put hX_6 (show 0 ≤ (v 33 3) ∧ (v 33 3) ≤ 9 from (by first | assumption | omega | (unfold R32 at *; omega) | (unfold R64 at *; omega) | (simp only [R32, R64] at *; omega)))
  refine r_ex 3 (pc' := 37) (lo' := [some (.inr (.inr (some 116))), some (.inr (.inr (some 33)))]) (st' := [.inl (v 33 4), .inr (.inr (some 116))]) rfl ?_
  have hb_9 : 0 ≤ (v 33 4) ∧ (v 33 4) ≤ 511 := hX_8 33 4
  refine r_puti2 (j := 4) (pc' := 40) (pc0 := 37) (len := 3) rfl (s_116 _) rfl rfl rfl (Or.inl rfl) rfl rfl ?_
  have hX_10 : XI (v2 (v2 (v2 (v2 (v2 v 116 0 (v 33 0)) 116 1 (v 33 1)) 116 2 (v 33 2)) 116 3 (v 33 3)) 116 4 (v 33 4)) := XI.put hX_8 (show 0 ≤ (v 33 4) ∧ (v 33 4) ≤ 511 from (by first | assumption | omega | (unfold R32 at *; omega) | (unfold R64 at *; omega) | (simp only [R32, R64] at *; omega)))
  refine r_ex 3 (pc' := 45) (lo' := [some (.inr (.inr (some 116))), some (.inr (.inr (some 33)))]) (st' := [.inl (v 33 5), .inr (.inr (some 116))]) rfl ?_
  have hb_11 : 0 ≤ (v 33 5) ∧ (v 33 5) ≤ 4095 := hX_10 33 5
  refine r_puti2 (j := 5) (pc' := 48) (pc0 := 45) (len := 3) rfl (s_116 _) rfl rfl rfl (Or.inl rfl) rfl rfl ?_
  have hX_12 : XI (v2 (v2 (v2 (v2 (v2 (v2 v 116 0 (v 33 0)) 116 1 (v 33 1)) 116 2 (v 33 2)) 116 3 (v 33 3)) 116 4 (v 33 4)) 116 5 (v 33 5)) := XI.put hX_10 (show 0 ≤ (v 33 5) ∧ (v 33 5) ≤ 4095 from (by first | assumption | omega | (unfold R32 at *; omega) | (unfold R64 at *; omega) | (simp only [R32, R64] at *; omega)))
  refine r_ex 7 (pc' := 60) (lo' := [some (.inr (.inr (some 116))), some (.inr (.inr (some 33)))]) (st' := [.inl 9, .inl 0, .inr (.inr (some 117)), .inl 0, .inr (.inr (some 34))]) rfl ?_
  refine r_copy2 (pc' := 63) (pc0 := 60) (len := 3) rfl (s_34 _) (s_117 _) (Or.inl rfl) (by omega) (by decide) (by decide) rfl ?_
  have hX_13 : XI (vcp (v2 (v2 (v2 (v2 (v2 (v2 v 116 0 (v 33 0)) 116 1 (v 33 1)) 116 2 (v 33 2)) 116 3 (v 33 3)) 116 4 (v 33 4)) 116 5 (v 33 5)) 34 117 0 0 9) := XI.cpy hX_12 (fun x h j => Exists.elim h (fun _ h => h))
  show WV _ _ _ 63 _ _ _ (vcp (v2 (v2 (v2 (v2 (v2 (v2 v 116 0 (v 33 0)) 116 1 (v 33 1)) 116 2 (v 33 2)) 116 3 (v 33 3)) 116 4 (v 33 4)) 116 5 (v 33 5)) 34 117 0 0 9) _
  refine r_ex 7 (pc' := 75) (lo' := [some (.inr (.inr (some 116))), some (.inr (.inr (some 33)))]) (st' := [.inl 9, .inl 0, .inr (.inr (some 118)), .inl 0, .inr (.inr (some 35))]) rfl ?_
  refine r_copy2 (pc' := 78) (pc0 := 75) (len := 3) rfl (s_35 _) (s_118 _) (Or.inl rfl) (by omega) (by decide) (by decide) rfl ?_
  have hX_14 : XI (vcp (vcp (v2 (v2 (v2 (v2 (v2 (v2 v 116 0 (v 33 0)) 116 1 (v 33 1)) 116 2 (v 33 2)) 116 3 (v 33 3)) 116 4 (v 33 4)) 116 5 (v 33 5)) 34 117 0 0 9) 35 118 0 0 9) := XI.cpy hX_13 (fun x h j => Exists.elim h (fun _ h => h))
  show WV _ _ _ 78 _ _ _ (vcp (vcp (v2 (v2 (v2 (v2 (v2 (v2 v 116 0 (v 33 0)) 116 1 (v 33 1)) 116 2 (v 33 2)) 116 3 (v 33 3)) 116 4 (v 33 4)) 116 5 (v 33 5)) 34 117 0 0 9) 35 118 0 0 9) _
  refine r_ex 7 (pc' := 90) (lo' := [some (.inr (.inr (some 116))), some (.inr (.inr (some 33)))]) (st' := [.inl 9, .inl 0, .inr (.inr (some 119)), .inl 0, .inr (.inr (some 36))]) rfl ?_
  refine r_copy2 (pc' := 93) (pc0 := 90) (len := 3) rfl (s_36 _) (s_119 _) (Or.inl rfl) (by omega) (by decide) (by decide) rfl ?_
  have hX_15 : XI (vcp (vcp (vcp (v2 (v2 (v2 (v2 (v2 (v2 v 116 0 (v 33 0)) 116 1 (v 33 1)) 116 2 (v 33 2)) 116 3 (v 33 3)) 116 4 (v 33 4)) 116 5 (v 33 5)) 34 117 0 0 9) 35 118 0 0 9) 36 119 0 0 9) := XI.cpy hX_14 (fun x h j => Exists.elim h (fun _ h => h))
  show WV _ _ _ 93 _ _ _ (vcp (vcp (vcp (v2 (v2 (v2 (v2 (v2 (v2 v 116 0 (v 33 0)) 116 1 (v 33 1)) 116 2 (v 33 2)) 116 3 (v 33 3)) 116 4 (v 33 4)) 116 5 (v 33 5)) 34 117 0 0 9) 35 118 0 0 9) 36 119 0 0 9) _
  refine r_ex 4 (pc' := 101) (lo' := [some (.inr (.inr (some 116))), some (.inr (.inr (some 33)))]) (st' := [.inr (.inr (some 37)), .inr (.inr (some 120))]) rfl ?_
  refine r_call (m := 54) (args := [.inr (.inr (some 120)), .inr (.inr (some 37))]) (n' := 53) (pc' := 104) (lo' := [some (.inr (.inr (some 116))), some (.inr (.inr (some 33)))]) (st' := []) (I := .invokevirtual 54) (pc0 := 101) (len := 3) rfl rfl rfl (e_cl_eaTake116_33 hX_15) ?_
  show WV _ _ _ 104 _ [] _ (cl_eaTake116_33 (vcp (vcp (vcp (v2 (v2 (v2 (v2 (v2 (v2 v 116 0 (v 33 0)) 116 1 (v 33 1)) 116 2 (v 33 2)) 116 3 (v 33 3)) 116 4 (v 33 4)) 116 5 (v 33 5)) 34 117 0 0 9) 35 118 0 0 9) 36 119 0 0 9)) _
  have hX_16 : XI (cl_eaTake116_33 (vcp (vcp (vcp (v2 (v2 (v2 (v2 (v2 (v2 v 116 0 (v 33 0)) 116 1 (v 33 1)) 116 2 (v 33 2)) 116 3 (v 33 3)) 116 4 (v 33 4)) 116 5 (v 33 5)) 34 117 0 0 9) 35 118 0 0 9) 36 119 0 0 9)) := i_cl_eaTake116_33 (v := (vcp (vcp (vcp (v2 (v2 (v2 (v2 (v2 (v2 v 116 0 (v 33 0)) 116 1 (v 33 1)) 116 2 (v 33 2)) 116 3 (v 33 3)) 116 4 (v 33 4)) 116 5 (v 33 5)) 34 117 0 0 9) 35 118 0 0 9) 36 119 0 0 9)) hX_15
  refine r_ex 4 (pc' := 112) (lo' := [some (.inr (.inr (some 116))), some (.inr (.inr (some 33)))]) (st' := [.inr (.inr (some 42)), .inr (.inr (some 125))]) rfl ?_
  refine r_call (m := 55) (args := [.inr (.inr (some 125)), .inr (.inr (some 42))]) (n' := 53) (pc' := 115) (lo' := [some (.inr (.inr (some 116))), some (.inr (.inr (some 33)))]) (st' := []) (I := .invokevirtual 55) (pc0 := 112) (len := 3) rfl rfl rfl (e_cl_stTake116_33 hX_16) ?_
  show WV _ _ _ 115 _ [] _ (cl_stTake116_33 (cl_eaTake116_33 (vcp (vcp (vcp (v2 (v2 (v2 (v2 (v2 (v2 v 116 0 (v 33 0)) 116 1 (v 33 1)) 116 2 (v 33 2)) 116 3 (v 33 3)) 116 4 (v 33 4)) 116 5 (v 33 5)) 34 117 0 0 9) 35 118 0 0 9) 36 119 0 0 9))) _
  have hX_17 : XI (cl_stTake116_33 (cl_eaTake116_33 (vcp (vcp (vcp (v2 (v2 (v2 (v2 (v2 (v2 v 116 0 (v 33 0)) 116 1 (v 33 1)) 116 2 (v 33 2)) 116 3 (v 33 3)) 116 4 (v 33 4)) 116 5 (v 33 5)) 34 117 0 0 9) 35 118 0 0 9) 36 119 0 0 9))) := i_cl_stTake116_33 (v := (cl_eaTake116_33 (vcp (vcp (vcp (v2 (v2 (v2 (v2 (v2 (v2 v 116 0 (v 33 0)) 116 1 (v 33 1)) 116 2 (v 33 2)) 116 3 (v 33 3)) 116 4 (v 33 4)) 116 5 (v 33 5)) 34 117 0 0 9) 35 118 0 0 9) 36 119 0 0 9))) hX_16
  refine r_ex 4 (pc' := 123) (lo' := [some (.inr (.inr (some 116))), some (.inr (.inr (some 33)))]) (st' := [.inr (.inr (some 46)), .inr (.inr (some 129))]) rfl ?_
  refine r_call (m := 56) (args := [.inr (.inr (some 129)), .inr (.inr (some 46))]) (n' := 53) (pc' := 126) (lo' := [some (.inr (.inr (some 116))), some (.inr (.inr (some 33)))]) (st' := []) (I := .invokevirtual 56) (pc0 := 123) (len := 3) rfl rfl rfl (e_cl_spTake129_46 hX_17) ?_
  show WV _ _ _ 126 _ [] _ (cl_spTake129_46 (cl_stTake116_33 (cl_eaTake116_33 (vcp (vcp (vcp (v2 (v2 (v2 (v2 (v2 (v2 v 116 0 (v 33 0)) 116 1 (v 33 1)) 116 2 (v 33 2)) 116 3 (v 33 3)) 116 4 (v 33 4)) 116 5 (v 33 5)) 34 117 0 0 9) 35 118 0 0 9) 36 119 0 0 9)))) _
  have hX_18 : XI (cl_spTake129_46 (cl_stTake116_33 (cl_eaTake116_33 (vcp (vcp (vcp (v2 (v2 (v2 (v2 (v2 (v2 v 116 0 (v 33 0)) 116 1 (v 33 1)) 116 2 (v 33 2)) 116 3 (v 33 3)) 116 4 (v 33 4)) 116 5 (v 33 5)) 34 117 0 0 9) 35 118 0 0 9) 36 119 0 0 9)))) := i_cl_spTake129_46 (v := (cl_stTake116_33 (cl_eaTake116_33 (vcp (vcp (vcp (v2 (v2 (v2 (v2 (v2 (v2 v 116 0 (v 33 0)) 116 1 (v 33 1)) 116 2 (v 33 2)) 116 3 (v 33 3)) 116 4 (v 33 4)) 116 5 (v 33 5)) 34 117 0 0 9) 35 118 0 0 9) 36 119 0 0 9)))) hX_17
  refine r_ex 4 (pc' := 134) (lo' := [some (.inr (.inr (some 116))), some (.inr (.inr (some 33)))]) (st' := [.inr (.inr (some 50)), .inr (.inr (some 133))]) rfl ?_
  refine r_call (m := 56) (args := [.inr (.inr (some 133)), .inr (.inr (some 50))]) (n' := 53) (pc' := 137) (lo' := [some (.inr (.inr (some 116))), some (.inr (.inr (some 33)))]) (st' := []) (I := .invokevirtual 56) (pc0 := 134) (len := 3) rfl rfl rfl (e_cl_spTake133_50 hX_18) ?_
  show WV _ _ _ 137 _ [] _ (cl_spTake133_50 (cl_spTake129_46 (cl_stTake116_33 (cl_eaTake116_33 (vcp (vcp (vcp (v2 (v2 (v2 (v2 (v2 (v2 v 116 0 (v 33 0)) 116 1 (v 33 1)) 116 2 (v 33 2)) 116 3 (v 33 3)) 116 4 (v 33 4)) 116 5 (v 33 5)) 34 117 0 0 9) 35 118 0 0 9) 36 119 0 0 9))))) _
  have hX_19 : XI (cl_spTake133_50 (cl_spTake129_46 (cl_stTake116_33 (cl_eaTake116_33 (vcp (vcp (vcp (v2 (v2 (v2 (v2 (v2 (v2 v 116 0 (v 33 0)) 116 1 (v 33 1)) 116 2 (v 33 2)) 116 3 (v 33 3)) 116 4 (v 33 4)) 116 5 (v 33 5)) 34 117 0 0 9) 35 118 0 0 9) 36 119 0 0 9))))) := i_cl_spTake133_50 (v := (cl_spTake129_46 (cl_stTake116_33 (cl_eaTake116_33 (vcp (vcp (vcp (v2 (v2 (v2 (v2 (v2 (v2 v 116 0 (v 33 0)) 116 1 (v 33 1)) 116 2 (v 33 2)) 116 3 (v 33 3)) 116 4 (v 33 4)) 116 5 (v 33 5)) 34 117 0 0 9) 35 118 0 0 9) 36 119 0 0 9))))) hX_18
  refine r_ex 4 (pc' := 145) (lo' := [some (.inr (.inr (some 116))), some (.inr (.inr (some 33)))]) (st' := [.inr (.inr (some 54)), .inr (.inr (some 137))]) rfl ?_
  refine r_call (m := 56) (args := [.inr (.inr (some 137)), .inr (.inr (some 54))]) (n' := 53) (pc' := 148) (lo' := [some (.inr (.inr (some 116))), some (.inr (.inr (some 33)))]) (st' := []) (I := .invokevirtual 56) (pc0 := 145) (len := 3) rfl rfl rfl (e_cl_spTake137_54 hX_19) ?_
  show WV _ _ _ 148 _ [] _ (cl_spTake137_54 (cl_spTake133_50 (cl_spTake129_46 (cl_stTake116_33 (cl_eaTake116_33 (vcp (vcp (vcp (v2 (v2 (v2 (v2 (v2 (v2 v 116 0 (v 33 0)) 116 1 (v 33 1)) 116 2 (v 33 2)) 116 3 (v 33 3)) 116 4 (v 33 4)) 116 5 (v 33 5)) 34 117 0 0 9) 35 118 0 0 9) 36 119 0 0 9)))))) _
  have hX_20 : XI (cl_spTake137_54 (cl_spTake133_50 (cl_spTake129_46 (cl_stTake116_33 (cl_eaTake116_33 (vcp (vcp (vcp (v2 (v2 (v2 (v2 (v2 (v2 v 116 0 (v 33 0)) 116 1 (v 33 1)) 116 2 (v 33 2)) 116 3 (v 33 3)) 116 4 (v 33 4)) 116 5 (v 33 5)) 34 117 0 0 9) 35 118 0 0 9) 36 119 0 0 9)))))) := i_cl_spTake137_54 (v := (cl_spTake133_50 (cl_spTake129_46 (cl_stTake116_33 (cl_eaTake116_33 (vcp (vcp (vcp (v2 (v2 (v2 (v2 (v2 (v2 v 116 0 (v 33 0)) 116 1 (v 33 1)) 116 2 (v 33 2)) 116 3 (v 33 3)) 116 4 (v 33 4)) 116 5 (v 33 5)) 34 117 0 0 9) 35 118 0 0 9) 36 119 0 0 9)))))) hX_19
  refine r_ex 4 (pc' := 156) (lo' := [some (.inr (.inr (some 116))), some (.inr (.inr (some 33)))]) (st' := [.inr (.inr (some 58)), .inr (.inr (some 141))]) rfl ?_
  refine r_call (m := 56) (args := [.inr (.inr (some 141)), .inr (.inr (some 58))]) (n' := 53) (pc' := 159) (lo' := [some (.inr (.inr (some 116))), some (.inr (.inr (some 33)))]) (st' := []) (I := .invokevirtual 56) (pc0 := 156) (len := 3) rfl rfl rfl (e_cl_spTake141_58 hX_20) ?_
  show WV _ _ _ 159 _ [] _ (cl_spTake141_58 (cl_spTake137_54 (cl_spTake133_50 (cl_spTake129_46 (cl_stTake116_33 (cl_eaTake116_33 (vcp (vcp (vcp (v2 (v2 (v2 (v2 (v2 (v2 v 116 0 (v 33 0)) 116 1 (v 33 1)) 116 2 (v 33 2)) 116 3 (v 33 3)) 116 4 (v 33 4)) 116 5 (v 33 5)) 34 117 0 0 9) 35 118 0 0 9) 36 119 0 0 9))))))) _
  have hX_21 : XI (cl_spTake141_58 (cl_spTake137_54 (cl_spTake133_50 (cl_spTake129_46 (cl_stTake116_33 (cl_eaTake116_33 (vcp (vcp (vcp (v2 (v2 (v2 (v2 (v2 (v2 v 116 0 (v 33 0)) 116 1 (v 33 1)) 116 2 (v 33 2)) 116 3 (v 33 3)) 116 4 (v 33 4)) 116 5 (v 33 5)) 34 117 0 0 9) 35 118 0 0 9) 36 119 0 0 9))))))) := i_cl_spTake141_58 (v := (cl_spTake137_54 (cl_spTake133_50 (cl_spTake129_46 (cl_stTake116_33 (cl_eaTake116_33 (vcp (vcp (vcp (v2 (v2 (v2 (v2 (v2 (v2 v 116 0 (v 33 0)) 116 1 (v 33 1)) 116 2 (v 33 2)) 116 3 (v 33 3)) 116 4 (v 33 4)) 116 5 (v 33 5)) 34 117 0 0 9) 35 118 0 0 9) 36 119 0 0 9))))))) hX_20
  refine r_ret (rr := none) (I := .return_) (pc0 := 159) (len := 1) rfl rfl ?_
  exact hQ hX_21 

theorem e_cl_copy116_33 {X : PX} {d b : Nat} {v : VS}  (hX : XI v)  : EvV X (d + 1) 53 [.inr (.inr (some 116)), .inr (.inr (some 33))] b v none b (cl_copy116_33 v) := EvV.of (w_cl_copy116_33 hX  (fun _ => ⟨rfl, rfl, rfl⟩))

theorem i_cl_copy116_33 {v : VS}  (hX : XI v)  : XI (cl_copy116_33 v) := by
  have q : WV (0, fun _ => 0, none) (0 + 1) 53 0 [some (.inr (.inr (some 116))), some (.inr (.inr (some 33)))] [] 1 v (fun _ _ _ => XI (cl_copy116_33 v)) := w_cl_copy116_33 (X := (0, fun _ => 0, none)) (d := 0) (b := 1) hX  (fun q => q)
  obtain ⟨_, _, _, _, _, _, _, q⟩ := q
  exact q

theorem o_cl_copy116_33 {rk : Nat} {v : VS}  (hk : (rk < 116 ∨ 144 < rk)) : (cl_copy116_33 v ) rk = v rk := by
  unfold cl_copy116_33
  all_goals (show (cl_spTake141_58 (cl_spTake137_54 (cl_spTake133_50 (cl_spTake129_46 (cl_stTake116_33 (cl_eaTake116_33 (vcp (vcp (vcp (v2 (v2 (v2 (v2 (v2 (v2 v 116 0 (v 33 0)) 116 1 (v 33 1)) 116 2 (v 33 2)) 116 3 (v 33 3)) 116 4 (v 33 4)) 116 5 (v 33 5)) 34 117 0 0 9) 35 118 0 0 9) 36 119 0 0 9))))))) rk = _)
  all_goals (rw [o_cl_spTake141_58 (by omega), o_cl_spTake137_54 (by omega), o_cl_spTake133_50 (by omega), o_cl_spTake129_46 (by omega), o_cl_stTake116_33 (by omega), o_cl_eaTake116_33 (by omega), vcp_row (by omega), vcp_row (by omega), vcp_row (by omega), v2_row (by omega), v2_row (by omega), v2_row (by omega), v2_row (by omega), v2_row (by omega), v2_row (by omega)])

def cl_eaTake145_33 (v : VS)  : VS :=
  (vcp (vcp (vcp (vcp (v2 v 149 0 (v 37 0)) 38 150 0 0 12) 39 151 0 0 12) 40 152 0 0 12) 41 153 0 0 12)
theorem w_cl_eaTake145_33 {X : PX} {d b : Nat} {v : VS}  (hX : XI v)  {Q : Option PV → Nat → VS → Prop} (hQ : XI (cl_eaTake145_33 v) → Q none b (cl_eaTake145_33 v)) : WV X d 54 0 [some (.inr (.inr (some 149))), some (.inr (.inr (some 37)))] [] b v Q := by
  rw [cl_eaTake145_33] at hQ
  refine r_ex 3 (pc' := 5) (lo' := [some (.inr (.inr (some 149))), some (.inr (.inr (some 37)))]) (st' := [.inl (v 37 0), .inr (.inr (some 149))]) rfl ?_
  have hb_1 : 0 ≤ (v 37 0) ∧ (v 37 0) ≤ 12 := hX 37 0
  refine r_puti2 (j := 0) (pc' := 8) (pc0 := 5) (len := 3) rfl (s_149 _) rfl rfl rfl (Or.inl rfl) rfl rfl ?_
  have hX_2 : XI (v2 v 149 0 (v 37 0)) := XI.put hX (show 0 ≤ (v 37 0) ∧ (v 37 0) ≤ 12 from (by first | assumption | omega | (unfold R32 at *; omega) | (unfold R64 at *; omega) | (simp only [R32, R64] at *; omega)))
  refine r_ex 7 (pc' := 20) (lo' := [some (.inr (.inr (some 149))), some (.inr (.inr (some 37)))]) (st' := [.inl 12, .inl 0, .inr (.inr (some 150)), .inl 0, .inr (.inr (some 38))]) rfl ?_
  refine r_copy2 (pc' := 23) (pc0 := 20) (len := 3) rfl (s_38 _) (s_150 _) (Or.inl rfl) (by omega) (by decide) (by decide) rfl ?_
  have hX_3 : XI (vcp (v2 v 149 0 (v 37 0)) 38 150 0 0 12) := XI.cpy hX_2 (fun x h j => Exists.elim h (fun _ h => h))
  show WV _ _ _ 23 _ _ _ (vcp (v2 v 149 0 (v 37 0)) 38 150 0 0 12) _
  refine r_ex 7 (pc' := 35) (lo' := [some (.inr (.inr (some 149))), some (.inr (.inr (some 37)))]) (st' := [.inl 12, .inl 0, .inr (.inr (some 151)), .inl 0, .inr (.inr (some 39))]) rfl ?_
  refine r_copy2 (pc' := 38) (pc0 := 35) (len := 3) rfl (s_39 _) (s_151 _) (Or.inl rfl) (by omega) (by decide) (by decide) rfl ?_
  have hX_4 : XI (vcp (vcp (v2 v 149 0 (v 37 0)) 38 150 0 0 12) 39 151 0 0 12) := XI.cpy hX_3 (fun x h j => Exists.elim h (fun _ h => h))
  show WV _ _ _ 38 _ _ _ (vcp (vcp (v2 v 149 0 (v 37 0)) 38 150 0 0 12) 39 151 0 0 12) _
  refine r_ex 7 (pc' := 50) (lo' := [some (.inr (.inr (some 149))), some (.inr (.inr (some 37)))]) (st' := [.inl 12, .inl 0, .inr (.inr (some 152)), .inl 0, .inr (.inr (some 40))]) rfl ?_
  refine r_copy2 (pc' := 53) (pc0 := 50) (len := 3) rfl (s_40 _) (s_152 _) (Or.inl rfl) (by omega) (by decide) (by decide) rfl ?_
  have hX_5 : XI (vcp (vcp (vcp (v2 v 149 0 (v 37 0)) 38 150 0 0 12) 39 151 0 0 12) 40 152 0 0 12) := XI.cpy hX_4 (fun x h j => Exists.elim h (fun _ h => h))
  show WV _ _ _ 53 _ _ _ (vcp (vcp (vcp (v2 v 149 0 (v 37 0)) 38 150 0 0 12) 39 151 0 0 12) 40 152 0 0 12) _
  refine r_ex 7 (pc' := 65) (lo' := [some (.inr (.inr (some 149))), some (.inr (.inr (some 37)))]) (st' := [.inl 12, .inl 0, .inr (.inr (some 153)), .inl 0, .inr (.inr (some 41))]) rfl ?_
  refine r_copy2 (pc' := 68) (pc0 := 65) (len := 3) rfl (s_41 _) (s_153 _) (Or.inl rfl) (by omega) (by decide) (by decide) rfl ?_
  have hX_6 : XI (vcp (vcp (vcp (vcp (v2 v 149 0 (v 37 0)) 38 150 0 0 12) 39 151 0 0 12) 40 152 0 0 12) 41 153 0 0 12) := XI.cpy hX_5 (fun x h j => Exists.elim h (fun _ h => h))
  show WV _ _ _ 68 _ _ _ (vcp (vcp (vcp (vcp (v2 v 149 0 (v 37 0)) 38 150 0 0 12) 39 151 0 0 12) 40 152 0 0 12) 41 153 0 0 12) _
  refine r_ret (rr := none) (I := .return_) (pc0 := 68) (len := 1) rfl rfl ?_
  exact hQ hX_6 

theorem e_cl_eaTake145_33 {X : PX} {d b : Nat} {v : VS}  (hX : XI v)  : EvV X d 54 [.inr (.inr (some 149)), .inr (.inr (some 37))] b v none b (cl_eaTake145_33 v) := EvV.of (w_cl_eaTake145_33 hX  (fun _ => ⟨rfl, rfl, rfl⟩))

theorem i_cl_eaTake145_33 {v : VS}  (hX : XI v)  : XI (cl_eaTake145_33 v) := by
  have q : WV (0, fun _ => 0, none) 0 54 0 [some (.inr (.inr (some 149))), some (.inr (.inr (some 37)))] [] 1 v (fun _ _ _ => XI (cl_eaTake145_33 v)) := w_cl_eaTake145_33 (X := (0, fun _ => 0, none)) (d := 0) (b := 1) hX  (fun q => q)
  obtain ⟨_, _, _, _, _, _, _, q⟩ := q
  exact q

theorem o_cl_eaTake145_33 {rk : Nat} {v : VS}  (hk : (rk < 149 ∨ 153 < rk)) : (cl_eaTake145_33 v ) rk = v rk := by
  unfold cl_eaTake145_33
  all_goals (show (vcp (vcp (vcp (vcp (v2 v 149 0 (v 37 0)) 38 150 0 0 12) 39 151 0 0 12) 40 152 0 0 12) 41 153 0 0 12) rk = _)
  all_goals (rw [vcp_row (by omega), vcp_row (by omega), vcp_row (by omega), vcp_row (by omega), v2_row (by omega)])

def cl_stTake145_33 (v : VS)  : VS :=
  (vcp (vcp (vcp (v2 v 154 0 (v 42 0)) 43 155 0 0 5) 44 156 0 0 5) 45 157 0 0 5)
theorem w_cl_stTake145_33 {X : PX} {d b : Nat} {v : VS}  (hX : XI v)  {Q : Option PV → Nat → VS → Prop} (hQ : XI (cl_stTake145_33 v) → Q none b (cl_stTake145_33 v)) : WV X d 55 0 [some (.inr (.inr (some 154))), some (.inr (.inr (some 42)))] [] b v Q := by
  rw [cl_stTake145_33] at hQ
  refine r_ex 3 (pc' := 5) (lo' := [some (.inr (.inr (some 154))), some (.inr (.inr (some 42)))]) (st' := [.inl (v 42 0), .inr (.inr (some 154))]) rfl ?_
  have hb_1 : 0 ≤ (v 42 0) ∧ (v 42 0) ≤ 4 := hX 42 0
  refine r_puti2 (j := 0) (pc' := 8) (pc0 := 5) (len := 3) rfl (s_154 _) rfl rfl rfl (Or.inl rfl) rfl rfl ?_
  have hX_2 : XI (v2 v 154 0 (v 42 0)) := XI.put hX (show 0 ≤ (v 42 0) ∧ (v 42 0) ≤ 4 from (by first | assumption | omega | (unfold R32 at *; omega) | (unfold R64 at *; omega) | (simp only [R32, R64] at *; omega)))
  refine r_ex 7 (pc' := 19) (lo' := [some (.inr (.inr (some 154))), some (.inr (.inr (some 42)))]) (st' := [.inl 5, .inl 0, .inr (.inr (some 155)), .inl 0, .inr (.inr (some 43))]) rfl ?_
  refine r_copy2 (pc' := 22) (pc0 := 19) (len := 3) rfl (s_43 _) (s_155 _) (Or.inl rfl) (by omega) (by decide) (by decide) rfl ?_
  have hX_3 : XI (vcp (v2 v 154 0 (v 42 0)) 43 155 0 0 5) := XI.cpy hX_2 (fun x h j => Exists.elim h (fun _ h => h))
  show WV _ _ _ 22 _ _ _ (vcp (v2 v 154 0 (v 42 0)) 43 155 0 0 5) _
  refine r_ex 7 (pc' := 33) (lo' := [some (.inr (.inr (some 154))), some (.inr (.inr (some 42)))]) (st' := [.inl 5, .inl 0, .inr (.inr (some 156)), .inl 0, .inr (.inr (some 44))]) rfl ?_
  refine r_copy2 (pc' := 36) (pc0 := 33) (len := 3) rfl (s_44 _) (s_156 _) (Or.inl rfl) (by omega) (by decide) (by decide) rfl ?_
  have hX_4 : XI (vcp (vcp (v2 v 154 0 (v 42 0)) 43 155 0 0 5) 44 156 0 0 5) := XI.cpy hX_3 (fun x h j => Exists.elim h (fun _ h => h))
  show WV _ _ _ 36 _ _ _ (vcp (vcp (v2 v 154 0 (v 42 0)) 43 155 0 0 5) 44 156 0 0 5) _
  refine r_ex 7 (pc' := 47) (lo' := [some (.inr (.inr (some 154))), some (.inr (.inr (some 42)))]) (st' := [.inl 5, .inl 0, .inr (.inr (some 157)), .inl 0, .inr (.inr (some 45))]) rfl ?_
  refine r_copy2 (pc' := 50) (pc0 := 47) (len := 3) rfl (s_45 _) (s_157 _) (Or.inl rfl) (by omega) (by decide) (by decide) rfl ?_
  have hX_5 : XI (vcp (vcp (vcp (v2 v 154 0 (v 42 0)) 43 155 0 0 5) 44 156 0 0 5) 45 157 0 0 5) := XI.cpy hX_4 (fun x h j => Exists.elim h (fun _ h => h))
  show WV _ _ _ 50 _ _ _ (vcp (vcp (vcp (v2 v 154 0 (v 42 0)) 43 155 0 0 5) 44 156 0 0 5) 45 157 0 0 5) _
  refine r_ret (rr := none) (I := .return_) (pc0 := 50) (len := 1) rfl rfl ?_
  exact hQ hX_5 

theorem e_cl_stTake145_33 {X : PX} {d b : Nat} {v : VS}  (hX : XI v)  : EvV X d 55 [.inr (.inr (some 154)), .inr (.inr (some 42))] b v none b (cl_stTake145_33 v) := EvV.of (w_cl_stTake145_33 hX  (fun _ => ⟨rfl, rfl, rfl⟩))

theorem i_cl_stTake145_33 {v : VS}  (hX : XI v)  : XI (cl_stTake145_33 v) := by
  have q : WV (0, fun _ => 0, none) 0 55 0 [some (.inr (.inr (some 154))), some (.inr (.inr (some 42)))] [] 1 v (fun _ _ _ => XI (cl_stTake145_33 v)) := w_cl_stTake145_33 (X := (0, fun _ => 0, none)) (d := 0) (b := 1) hX  (fun q => q)
  obtain ⟨_, _, _, _, _, _, _, q⟩ := q
  exact q

theorem o_cl_stTake145_33 {rk : Nat} {v : VS}  (hk : (rk < 154 ∨ 157 < rk)) : (cl_stTake145_33 v ) rk = v rk := by
  unfold cl_stTake145_33
  all_goals (show (vcp (vcp (vcp (v2 v 154 0 (v 42 0)) 43 155 0 0 5) 44 156 0 0 5) 45 157 0 0 5) rk = _)
  all_goals (rw [vcp_row (by omega), vcp_row (by omega), vcp_row (by omega), v2_row (by omega)])

def cl_spTake158_46 (v : VS)  : VS :=
  (vcp (vcp (vcp (v2 v 158 0 (v 46 0)) 47 159 0 0 6) 48 160 0 0 6) 49 161 0 0 6)
theorem w_cl_spTake158_46 {X : PX} {d b : Nat} {v : VS}  (hX : XI v)  {Q : Option PV → Nat → VS → Prop} (hQ : XI (cl_spTake158_46 v) → Q none b (cl_spTake158_46 v)) : WV X d 56 0 [some (.inr (.inr (some 158))), some (.inr (.inr (some 46)))] [] b v Q := by
  rw [cl_spTake158_46] at hQ
  refine r_ex 3 (pc' := 5) (lo' := [some (.inr (.inr (some 158))), some (.inr (.inr (some 46)))]) (st' := [.inl (v 46 0), .inr (.inr (some 158))]) rfl ?_
  have hb_1 : 0 ≤ (v 46 0) ∧ (v 46 0) ≤ 6 := hX 46 0
  refine r_puti2 (j := 0) (pc' := 8) (pc0 := 5) (len := 3) rfl (s_158 _) rfl rfl rfl (Or.inl rfl) rfl rfl ?_
  have hX_2 : XI (v2 v 158 0 (v 46 0)) := XI.put hX (show 0 ≤ (v 46 0) ∧ (v 46 0) ≤ 6 from (by first | assumption | omega | (unfold R32 at *; omega) | (unfold R64 at *; omega) | (simp only [R32, R64] at *; omega)))
  refine r_ex 7 (pc' := 20) (lo' := [some (.inr (.inr (some 158))), some (.inr (.inr (some 46)))]) (st' := [.inl 6, .inl 0, .inr (.inr (some 159)), .inl 0, .inr (.inr (some 47))]) rfl ?_
  refine r_copy2 (pc' := 23) (pc0 := 20) (len := 3) rfl (s_47 _) (s_159 _) (Or.inl rfl) (by omega) (by decide) (by decide) rfl ?_
  have hX_3 : XI (vcp (v2 v 158 0 (v 46 0)) 47 159 0 0 6) := XI.cpy hX_2 (fun x h j => Exists.elim h (fun _ h => h))
  show WV _ _ _ 23 _ _ _ (vcp (v2 v 158 0 (v 46 0)) 47 159 0 0 6) _
  refine r_ex 7 (pc' := 35) (lo' := [some (.inr (.inr (some 158))), some (.inr (.inr (some 46)))]) (st' := [.inl 6, .inl 0, .inr (.inr (some 160)), .inl 0, .inr (.inr (some 48))]) rfl ?_
  refine r_copy2 (pc' := 38) (pc0 := 35) (len := 3) rfl (s_48 _) (s_160 _) (Or.inl rfl) (by omega) (by decide) (by decide) rfl ?_
  have hX_4 : XI (vcp (vcp (v2 v 158 0 (v 46 0)) 47 159 0 0 6) 48 160 0 0 6) := XI.cpy hX_3 (fun x h j => Exists.elim h (fun _ h => h))
  show WV _ _ _ 38 _ _ _ (vcp (vcp (v2 v 158 0 (v 46 0)) 47 159 0 0 6) 48 160 0 0 6) _
  refine r_ex 7 (pc' := 50) (lo' := [some (.inr (.inr (some 158))), some (.inr (.inr (some 46)))]) (st' := [.inl 6, .inl 0, .inr (.inr (some 161)), .inl 0, .inr (.inr (some 49))]) rfl ?_
  refine r_copy2 (pc' := 53) (pc0 := 50) (len := 3) rfl (s_49 _) (s_161 _) (Or.inl rfl) (by omega) (by decide) (by decide) rfl ?_
  have hX_5 : XI (vcp (vcp (vcp (v2 v 158 0 (v 46 0)) 47 159 0 0 6) 48 160 0 0 6) 49 161 0 0 6) := XI.cpy hX_4 (fun x h j => Exists.elim h (fun _ h => h))
  show WV _ _ _ 53 _ _ _ (vcp (vcp (vcp (v2 v 158 0 (v 46 0)) 47 159 0 0 6) 48 160 0 0 6) 49 161 0 0 6) _
  refine r_ret (rr := none) (I := .return_) (pc0 := 53) (len := 1) rfl rfl ?_
  exact hQ hX_5 

theorem e_cl_spTake158_46 {X : PX} {d b : Nat} {v : VS}  (hX : XI v)  : EvV X d 56 [.inr (.inr (some 158)), .inr (.inr (some 46))] b v none b (cl_spTake158_46 v) := EvV.of (w_cl_spTake158_46 hX  (fun _ => ⟨rfl, rfl, rfl⟩))

theorem i_cl_spTake158_46 {v : VS}  (hX : XI v)  : XI (cl_spTake158_46 v) := by
  have q : WV (0, fun _ => 0, none) 0 56 0 [some (.inr (.inr (some 158))), some (.inr (.inr (some 46)))] [] 1 v (fun _ _ _ => XI (cl_spTake158_46 v)) := w_cl_spTake158_46 (X := (0, fun _ => 0, none)) (d := 0) (b := 1) hX  (fun q => q)
  obtain ⟨_, _, _, _, _, _, _, q⟩ := q
  exact q

theorem o_cl_spTake158_46 {rk : Nat} {v : VS}  (hk : (rk < 158 ∨ 161 < rk)) : (cl_spTake158_46 v ) rk = v rk := by
  unfold cl_spTake158_46
  all_goals (show (vcp (vcp (vcp (v2 v 158 0 (v 46 0)) 47 159 0 0 6) 48 160 0 0 6) 49 161 0 0 6) rk = _)
  all_goals (rw [vcp_row (by omega), vcp_row (by omega), vcp_row (by omega), v2_row (by omega)])

def cl_spTake162_50 (v : VS)  : VS :=
  (vcp (vcp (vcp (v2 v 162 0 (v 50 0)) 51 163 0 0 6) 52 164 0 0 6) 53 165 0 0 6)
theorem w_cl_spTake162_50 {X : PX} {d b : Nat} {v : VS}  (hX : XI v)  {Q : Option PV → Nat → VS → Prop} (hQ : XI (cl_spTake162_50 v) → Q none b (cl_spTake162_50 v)) : WV X d 56 0 [some (.inr (.inr (some 162))), some (.inr (.inr (some 50)))] [] b v Q := by
  rw [cl_spTake162_50] at hQ
  refine r_ex 3 (pc' := 5) (lo' := [some (.inr (.inr (some 162))), some (.inr (.inr (some 50)))]) (st' := [.inl (v 50 0), .inr (.inr (some 162))]) rfl ?_
  have hb_1 : 0 ≤ (v 50 0) ∧ (v 50 0) ≤ 6 := hX 50 0
  refine r_puti2 (j := 0) (pc' := 8) (pc0 := 5) (len := 3) rfl (s_162 _) rfl rfl rfl (Or.inl rfl) rfl rfl ?_
  have hX_2 : XI (v2 v 162 0 (v 50 0)) := XI.put hX (show 0 ≤ (v 50 0) ∧ (v 50 0) ≤ 6 from (by first | assumption | omega | (unfold R32 at *; omega) | (unfold R64 at *; omega) | (simp only [R32, R64] at *; omega)))
  refine r_ex 7 (pc' := 20) (lo' := [some (.inr (.inr (some 162))), some (.inr (.inr (some 50)))]) (st' := [.inl 6, .inl 0, .inr (.inr (some 163)), .inl 0, .inr (.inr (some 51))]) rfl ?_
  refine r_copy2 (pc' := 23) (pc0 := 20) (len := 3) rfl (s_51 _) (s_163 _) (Or.inl rfl) (by omega) (by decide) (by decide) rfl ?_
  have hX_3 : XI (vcp (v2 v 162 0 (v 50 0)) 51 163 0 0 6) := XI.cpy hX_2 (fun x h j => Exists.elim h (fun _ h => h))
  show WV _ _ _ 23 _ _ _ (vcp (v2 v 162 0 (v 50 0)) 51 163 0 0 6) _
  refine r_ex 7 (pc' := 35) (lo' := [some (.inr (.inr (some 162))), some (.inr (.inr (some 50)))]) (st' := [.inl 6, .inl 0, .inr (.inr (some 164)), .inl 0, .inr (.inr (some 52))]) rfl ?_
  refine r_copy2 (pc' := 38) (pc0 := 35) (len := 3) rfl (s_52 _) (s_164 _) (Or.inl rfl) (by omega) (by decide) (by decide) rfl ?_
  have hX_4 : XI (vcp (vcp (v2 v 162 0 (v 50 0)) 51 163 0 0 6) 52 164 0 0 6) := XI.cpy hX_3 (fun x h j => Exists.elim h (fun _ h => h))
  show WV _ _ _ 38 _ _ _ (vcp (vcp (v2 v 162 0 (v 50 0)) 51 163 0 0 6) 52 164 0 0 6) _
  refine r_ex 7 (pc' := 50) (lo' := [some (.inr (.inr (some 162))), some (.inr (.inr (some 50)))]) (st' := [.inl 6, .inl 0, .inr (.inr (some 165)), .inl 0, .inr (.inr (some 53))]) rfl ?_
  refine r_copy2 (pc' := 53) (pc0 := 50) (len := 3) rfl (s_53 _) (s_165 _) (Or.inl rfl) (by omega) (by decide) (by decide) rfl ?_
  have hX_5 : XI (vcp (vcp (vcp (v2 v 162 0 (v 50 0)) 51 163 0 0 6) 52 164 0 0 6) 53 165 0 0 6) := XI.cpy hX_4 (fun x h j => Exists.elim h (fun _ h => h))
  show WV _ _ _ 53 _ _ _ (vcp (vcp (vcp (v2 v 162 0 (v 50 0)) 51 163 0 0 6) 52 164 0 0 6) 53 165 0 0 6) _
  refine r_ret (rr := none) (I := .return_) (pc0 := 53) (len := 1) rfl rfl ?_
  exact hQ hX_5 

theorem e_cl_spTake162_50 {X : PX} {d b : Nat} {v : VS}  (hX : XI v)  : EvV X d 56 [.inr (.inr (some 162)), .inr (.inr (some 50))] b v none b (cl_spTake162_50 v) := EvV.of (w_cl_spTake162_50 hX  (fun _ => ⟨rfl, rfl, rfl⟩))

theorem i_cl_spTake162_50 {v : VS}  (hX : XI v)  : XI (cl_spTake162_50 v) := by
  have q : WV (0, fun _ => 0, none) 0 56 0 [some (.inr (.inr (some 162))), some (.inr (.inr (some 50)))] [] 1 v (fun _ _ _ => XI (cl_spTake162_50 v)) := w_cl_spTake162_50 (X := (0, fun _ => 0, none)) (d := 0) (b := 1) hX  (fun q => q)
  obtain ⟨_, _, _, _, _, _, _, q⟩ := q
  exact q

theorem o_cl_spTake162_50 {rk : Nat} {v : VS}  (hk : (rk < 162 ∨ 165 < rk)) : (cl_spTake162_50 v ) rk = v rk := by
  unfold cl_spTake162_50
  all_goals (show (vcp (vcp (vcp (v2 v 162 0 (v 50 0)) 51 163 0 0 6) 52 164 0 0 6) 53 165 0 0 6) rk = _)
  all_goals (rw [vcp_row (by omega), vcp_row (by omega), vcp_row (by omega), v2_row (by omega)])

def cl_spTake166_54 (v : VS)  : VS :=
  (vcp (vcp (vcp (v2 v 166 0 (v 54 0)) 55 167 0 0 6) 56 168 0 0 6) 57 169 0 0 6)
theorem w_cl_spTake166_54 {X : PX} {d b : Nat} {v : VS}  (hX : XI v)  {Q : Option PV → Nat → VS → Prop} (hQ : XI (cl_spTake166_54 v) → Q none b (cl_spTake166_54 v)) : WV X d 56 0 [some (.inr (.inr (some 166))), some (.inr (.inr (some 54)))] [] b v Q := by
  rw [cl_spTake166_54] at hQ
  refine r_ex 3 (pc' := 5) (lo' := [some (.inr (.inr (some 166))), some (.inr (.inr (some 54)))]) (st' := [.inl (v 54 0), .inr (.inr (some 166))]) rfl ?_
  have hb_1 : 0 ≤ (v 54 0) ∧ (v 54 0) ≤ 6 := hX 54 0
  refine r_puti2 (j := 0) (pc' := 8) (pc0 := 5) (len := 3) rfl (s_166 _) rfl rfl rfl (Or.inl rfl) rfl rfl ?_
  have hX_2 : XI (v2 v 166 0 (v 54 0)) := XI.put hX (show 0 ≤ (v 54 0) ∧ (v 54 0) ≤ 6 from (by first | assumption | omega | (unfold R32 at *; omega) | (unfold R64 at *; omega) | (simp only [R32, R64] at *; omega)))
  refine r_ex 7 (pc' := 20) (lo' := [some (.inr (.inr (some 166))), some (.inr (.inr (some 54)))]) (st' := [.inl 6, .inl 0, .inr (.inr (some 167)), .inl 0, .inr (.inr (some 55))]) rfl ?_
  refine r_copy2 (pc' := 23) (pc0 := 20) (len := 3) rfl (s_55 _) (s_167 _) (Or.inl rfl) (by omega) (by decide) (by decide) rfl ?_
  have hX_3 : XI (vcp (v2 v 166 0 (v 54 0)) 55 167 0 0 6) := XI.cpy hX_2 (fun x h j => Exists.elim h (fun _ h => h))
  show WV _ _ _ 23 _ _ _ (vcp (v2 v 166 0 (v 54 0)) 55 167 0 0 6) _
  refine r_ex 7 (pc' := 35) (lo' := [some (.inr (.inr (some 166))), some (.inr (.inr (some 54)))]) (st' := [.inl 6, .inl 0, .inr (.inr (some 168)), .inl 0, .inr (.inr (some 56))]) rfl ?_
  refine r_copy2 (pc' := 38) (pc0 := 35) (len := 3) rfl (s_56 _) (s_168 _) (Or.inl rfl) (by omega) (by decide) (by decide) rfl ?_
  have hX_4 : XI (vcp (vcp (v2 v 166 0 (v 54 0)) 55 167 0 0 6) 56 168 0 0 6) := XI.cpy hX_3 (fun x h j => Exists.elim h (fun _ h => h))
  show WV _ _ _ 38 _ _ _ (vcp (vcp (v2 v 166 0 (v 54 0)) 55 167 0 0 6) 56 168 0 0 6) _
  refine r_ex 7 (pc' := 50) (lo' := [some (.inr (.inr (some 166))), some (.inr (.inr (some 54)))]) (st' := [.inl 6, .inl 0, .inr (.inr (some 169)), .inl 0, .inr (.inr (some 57))]) rfl ?_
  refine r_copy2 (pc' := 53) (pc0 := 50) (len := 3) rfl (s_57 _) (s_169 _) (Or.inl rfl) (by omega) (by decide) (by decide) rfl ?_
  have hX_5 : XI (vcp (vcp (vcp (v2 v 166 0 (v 54 0)) 55 167 0 0 6) 56 168 0 0 6) 57 169 0 0 6) := XI.cpy hX_4 (fun x h j => Exists.elim h (fun _ h => h))
  show WV _ _ _ 53 _ _ _ (vcp (vcp (vcp (v2 v 166 0 (v 54 0)) 55 167 0 0 6) 56 168 0 0 6) 57 169 0 0 6) _
  refine r_ret (rr := none) (I := .return_) (pc0 := 53) (len := 1) rfl rfl ?_
  exact hQ hX_5 

theorem e_cl_spTake166_54 {X : PX} {d b : Nat} {v : VS}  (hX : XI v)  : EvV X d 56 [.inr (.inr (some 166)), .inr (.inr (some 54))] b v none b (cl_spTake166_54 v) := EvV.of (w_cl_spTake166_54 hX  (fun _ => ⟨rfl, rfl, rfl⟩))

theorem i_cl_spTake166_54 {v : VS}  (hX : XI v)  : XI (cl_spTake166_54 v) := by
  have q : WV (0, fun _ => 0, none) 0 56 0 [some (.inr (.inr (some 166))), some (.inr (.inr (some 54)))] [] 1 v (fun _ _ _ => XI (cl_spTake166_54 v)) := w_cl_spTake166_54 (X := (0, fun _ => 0, none)) (d := 0) (b := 1) hX  (fun q => q)
  obtain ⟨_, _, _, _, _, _, _, q⟩ := q
  exact q

theorem o_cl_spTake166_54 {rk : Nat} {v : VS}  (hk : (rk < 166 ∨ 169 < rk)) : (cl_spTake166_54 v ) rk = v rk := by
  unfold cl_spTake166_54
  all_goals (show (vcp (vcp (vcp (v2 v 166 0 (v 54 0)) 55 167 0 0 6) 56 168 0 0 6) 57 169 0 0 6) rk = _)
  all_goals (rw [vcp_row (by omega), vcp_row (by omega), vcp_row (by omega), v2_row (by omega)])

def cl_spTake170_58 (v : VS)  : VS :=
  (vcp (vcp (vcp (v2 v 170 0 (v 58 0)) 59 171 0 0 6) 60 172 0 0 6) 61 173 0 0 6)
theorem w_cl_spTake170_58 {X : PX} {d b : Nat} {v : VS}  (hX : XI v)  {Q : Option PV → Nat → VS → Prop} (hQ : XI (cl_spTake170_58 v) → Q none b (cl_spTake170_58 v)) : WV X d 56 0 [some (.inr (.inr (some 170))), some (.inr (.inr (some 58)))] [] b v Q := by
  rw [cl_spTake170_58] at hQ
  refine r_ex 3 (pc' := 5) (lo' := [some (.inr (.inr (some 170))), some (.inr (.inr (some 58)))]) (st' := [.inl (v 58 0), .inr (.inr (some 170))]) rfl ?_
  have hb_1 : 0 ≤ (v 58 0) ∧ (v 58 0) ≤ 6 := hX 58 0
  refine r_puti2 (j := 0) (pc' := 8) (pc0 := 5) (len := 3) rfl (s_170 _) rfl rfl rfl (Or.inl rfl) rfl rfl ?_
  have hX_2 : XI (v2 v 170 0 (v 58 0)) := XI.put hX (show 0 ≤ (v 58 0) ∧ (v 58 0) ≤ 6 from (by first | assumption | omega | (unfold R32 at *; omega) | (unfold R64 at *; omega) | (simp only [R32, R64] at *; omega)))
  refine r_ex 7 (pc' := 20) (lo' := [some (.inr (.inr (some 170))), some (.inr (.inr (some 58)))]) (st' := [.inl 6, .inl 0, .inr (.inr (some 171)), .inl 0, .inr (.inr (some 59))]) rfl ?_
  refine r_copy2 (pc' := 23) (pc0 := 20) (len := 3) rfl (s_59 _) (s_171 _) (Or.inl rfl) (by omega) (by decide) (by decide) rfl ?_
  have hX_3 : XI (vcp (v2 v 170 0 (v 58 0)) 59 171 0 0 6) := XI.cpy hX_2 (fun x h j => Exists.elim h (fun _ h => h))
  show WV _ _ _ 23 _ _ _ (vcp (v2 v 170 0 (v 58 0)) 59 171 0 0 6) _
  refine r_ex 7 (pc' := 35) (lo' := [some (.inr (.inr (some 170))), some (.inr (.inr (some 58)))]) (st' := [.inl 6, .inl 0, .inr (.inr (some 172)), .inl 0, .inr (.inr (some 60))]) rfl ?_
  refine r_copy2 (pc' := 38) (pc0 := 35) (len := 3) rfl (s_60 _) (s_172 _) (Or.inl rfl) (by omega) (by decide) (by decide) rfl ?_
  have hX_4 : XI (vcp (vcp (v2 v 170 0 (v 58 0)) 59 171 0 0 6) 60 172 0 0 6) := XI.cpy hX_3 (fun x h j => Exists.elim h (fun _ h => h))
  show WV _ _ _ 38 _ _ _ (vcp (vcp (v2 v 170 0 (v 58 0)) 59 171 0 0 6) 60 172 0 0 6) _
  refine r_ex 7 (pc' := 50) (lo' := [some (.inr (.inr (some 170))), some (.inr (.inr (some 58)))]) (st' := [.inl 6, .inl 0, .inr (.inr (some 173)), .inl 0, .inr (.inr (some 61))]) rfl ?_
  refine r_copy2 (pc' := 53) (pc0 := 50) (len := 3) rfl (s_61 _) (s_173 _) (Or.inl rfl) (by omega) (by decide) (by decide) rfl ?_
  have hX_5 : XI (vcp (vcp (vcp (v2 v 170 0 (v 58 0)) 59 171 0 0 6) 60 172 0 0 6) 61 173 0 0 6) := XI.cpy hX_4 (fun x h j => Exists.elim h (fun _ h => h))
  show WV _ _ _ 53 _ _ _ (vcp (vcp (vcp (v2 v 170 0 (v 58 0)) 59 171 0 0 6) 60 172 0 0 6) 61 173 0 0 6) _
  refine r_ret (rr := none) (I := .return_) (pc0 := 53) (len := 1) rfl rfl ?_
  exact hQ hX_5 

theorem e_cl_spTake170_58 {X : PX} {d b : Nat} {v : VS}  (hX : XI v)  : EvV X d 56 [.inr (.inr (some 170)), .inr (.inr (some 58))] b v none b (cl_spTake170_58 v) := EvV.of (w_cl_spTake170_58 hX  (fun _ => ⟨rfl, rfl, rfl⟩))

theorem i_cl_spTake170_58 {v : VS}  (hX : XI v)  : XI (cl_spTake170_58 v) := by
  have q : WV (0, fun _ => 0, none) 0 56 0 [some (.inr (.inr (some 170))), some (.inr (.inr (some 58)))] [] 1 v (fun _ _ _ => XI (cl_spTake170_58 v)) := w_cl_spTake170_58 (X := (0, fun _ => 0, none)) (d := 0) (b := 1) hX  (fun q => q)
  obtain ⟨_, _, _, _, _, _, _, q⟩ := q
  exact q

theorem o_cl_spTake170_58 {rk : Nat} {v : VS}  (hk : (rk < 170 ∨ 173 < rk)) : (cl_spTake170_58 v ) rk = v rk := by
  unfold cl_spTake170_58
  all_goals (show (vcp (vcp (vcp (v2 v 170 0 (v 58 0)) 59 171 0 0 6) 60 172 0 0 6) 61 173 0 0 6) rk = _)
  all_goals (rw [vcp_row (by omega), vcp_row (by omega), vcp_row (by omega), v2_row (by omega)])

def cl_copy145_33 (v : VS)  : VS :=
  (cl_spTake170_58 (cl_spTake166_54 (cl_spTake162_50 (cl_spTake158_46 (cl_stTake145_33 (cl_eaTake145_33 (vcp (vcp (vcp (v2 (v2 (v2 (v2 (v2 (v2 v 145 0 (v 33 0)) 145 1 (v 33 1)) 145 2 (v 33 2)) 145 3 (v 33 3)) 145 4 (v 33 4)) 145 5 (v 33 5)) 34 146 0 0 9) 35 147 0 0 9) 36 148 0 0 9)))))))
theorem w_cl_copy145_33 {X : PX} {d b : Nat} {v : VS}  (hX : XI v)  {Q : Option PV → Nat → VS → Prop} (hQ : XI (cl_copy145_33 v) → Q none b (cl_copy145_33 v)) : WV X (d + 1) 53 0 [some (.inr (.inr (some 145))), some (.inr (.inr (some 33)))] [] b v Q := by
  rw [cl_copy145_33] at hQ
  refine r_ex 3 (pc' := 5) (lo' := [some (.inr (.inr (some 145))), some (.inr (.inr (some 33)))]) (st' := [.inl (v 33 0), .inr (.inr (some 145))]) rfl ?_
  have hb_1 : 0 ≤ (v 33 0) ∧ (v 33 0) ≤ 9 := hX 33 0
  refine r_puti2 (j := 0) (pc' := 8) (pc0 := 5) (len := 3) rfl (s_145 _) rfl rfl rfl (Or.inl rfl) rfl rfl ?_
  have hX_2 : XI (v2 v 145 0 (v 33 0)) := XI.put hX (show 0 ≤ (v 33 0) ∧ (v 33 0) ≤ 9 from (by first | assumption | omega | (unfold R32 at *; omega) | (unfold R64 at *; omega) | (simp only [R32, R64] at *; omega)))
  refine r_ex 3 (pc' := 13) (lo' := [some (.inr (.inr (some 145))), some (.inr (.inr (some 33)))]) (st' := [.inl (v 33 1), .inr (.inr (some 145))]) rfl ?_
  have hb_3 : 0 ≤ (v 33 1) ∧ (v 33 1) ≤ 300 := hX_2 33 1
  refine r_puti2 (j := 1) (pc' := 16) (pc0 := 13) (len := 3) rfl (s_145 _) rfl rfl rfl (Or.inl rfl) rfl rfl ?_
  have hX_4 : XI (v2 (v2 v 145 0 (v 33 0)) 145 1 (v 33 1)) := XI.put hX_2 (show 0 ≤ (v 33 1) ∧ (v 33 1) ≤ 300 from (by first | assumption | omega | (unfold R32 at *; omega) | (unfold R64 at *; omega) | (simp only [R32, R64] at *; omega)))
  refine r_ex 3 (pc' := 21) (lo' := [some (.inr (.inr (some 145))), some (.inr (.inr (some 33)))]) (st' := [.inl (v 33 2), .inr (.inr (some 145))]) rfl ?_
  have hb_5 : 0 ≤ (v 33 2) ∧ (v 33 2) ≤ 2001 := hX_4 33 2
  refine r_puti2 (j := 2) (pc' := 24) (pc0 := 21) (len := 3) rfl (s_145 _) rfl rfl rfl (Or.inl rfl) rfl rfl ?_
  have hX_6 : XI (v2 (v2 (v2 v 145 0 (v 33 0)) 145 1 (v 33 1)) 145 2 (v 33 2)) := XI.put hX_4 (show 0 ≤ (v 33 2) ∧ (v 33 2) ≤ 2001 from (by first | assumption | omega | (unfold R32 at *; omega) | (unfold R64 at *; omega) | (simp only [R32, R64] at *; omega)))
  refine r_ex 3 (pc' := 29) (lo' := [some (.inr (.inr (some 145))), some (.inr (.inr (some 33)))]) (st' := [.inl (v 33 3), .inr (.inr (some 145))]) rfl ?_
  have hb_7 : 0 ≤ (v 33 3) ∧ (v 33 3) ≤ 9 := hX_6 33 3
  refine r_puti2 (j := 3) (pc' := 32) (pc0 := 29) (len := 3) rfl (s_145 _) rfl rfl rfl (Or.inl rfl) rfl rfl ?_
  have hX_8 : XI (v2 (v2 (v2 (v2 v 145 0 (v 33 0)) 145 1 (v 33 1)) 145 2 (v 33 2)) 145 3 (v 33 3)) := XI.put hX_6 (show 0 ≤ (v 33 3) ∧ (v 33 3) ≤ 9 from (by first | assumption | omega | (unfold R32 at *; omega) | (unfold R64 at *; omega) | (simp only [R32, R64] at *; omega)))
  refine r_ex 3 (pc' := 37) (lo' := [some (.inr (.inr (some 145))), some (.inr (.inr (some 33)))]) (st' := [.inl (v 33 4), .inr (.inr (some 145))]) rfl ?_
  have hb_9 : 0 ≤ (v 33 4) ∧ (v 33 4) ≤ 511 := hX_8 33 4
  refine r_puti2 (j := 4) (pc' := 40) (pc0 := 37) (len := 3) rfl (s_145 _) rfl rfl rfl (Or.inl rfl) rfl rfl ?_
  have hX_10 : XI (v2 (v2 (v2 (v2 (v2 v 145 0 (v 33 0)) 145 1 (v 33 1)) 145 2 (v 33 2)) 145 3 (v 33 3)) 145 4 (v 33 4)) := XI.put hX_8 (show 0 ≤ (v 33 4) ∧ (v 33 4) ≤ 511 from (by first | assumption | omega | (unfold R32 at *; omega) | (unfold R64 at *; omega) | (simp only [R32, R64] at *; omega)))
  refine r_ex 3 (pc' := 45) (lo' := [some (.inr (.inr (some 145))), some (.inr (.inr (some 33)))]) (st' := [.inl (v 33 5), .inr (.inr (some 145))]) rfl ?_
  have hb_11 : 0 ≤ (v 33 5) ∧ (v 33 5) ≤ 4095 := hX_10 33 5
  refine r_puti2 (j := 5) (pc' := 48) (pc0 := 45) (len := 3) rfl (s_145 _) rfl rfl rfl (Or.inl rfl) rfl rfl ?_
  have hX_12 : XI (v2 (v2 (v2 (v2 (v2 (v2 v 145 0 (v 33 0)) 145 1 (v 33 1)) 145 2 (v 33 2)) 145 3 (v 33 3)) 145 4 (v 33 4)) 145 5 (v 33 5)) := XI.put hX_10 (show 0 ≤ (v 33 5) ∧ (v 33 5) ≤ 4095 from (by first | assumption | omega | (unfold R32 at *; omega) | (unfold R64 at *; omega) | (simp only [R32, R64] at *; omega)))
  refine r_ex 7 (pc' := 60) (lo' := [some (.inr (.inr (some 145))), some (.inr (.inr (some 33)))]) (st' := [.inl 9, .inl 0, .inr (.inr (some 146)), .inl 0, .inr (.inr (some 34))]) rfl ?_
  refine r_copy2 (pc' := 63) (pc0 := 60) (len := 3) rfl (s_34 _) (s_146 _) (Or.inl rfl) (by omega) (by decide) (by decide) rfl ?_
  have hX_13 : XI (vcp (v2 (v2 (v2 (v2 (v2 (v2 v 145 0 (v 33 0)) 145 1 (v 33 1)) 145 2 (v 33 2)) 145 3 (v 33 3)) 145 4 (v 33 4)) 145 5 (v 33 5)) 34 146 0 0 9) := XI.cpy hX_12 (fun x h j => Exists.elim h (fun _ h => h))
  show WV _ _ _ 63 _ _ _ (vcp (v2 (v2 (v2 (v2 (v2 (v2 v 145 0 (v 33 0)) 145 1 (v 33 1)) 145 2 (v 33 2)) 145 3 (v 33 3)) 145 4 (v 33 4)) 145 5 (v 33 5)) 34 146 0 0 9) _
  refine r_ex 7 (pc' := 75) (lo' := [some (.inr (.inr (some 145))), some (.inr (.inr (some 33)))]) (st' := [.inl 9, .inl 0, .inr (.inr (some 147)), .inl 0, .inr (.inr (some 35))]) rfl ?_
  refine r_copy2 (pc' := 78) (pc0 := 75) (len := 3) rfl (s_35 _) (s_147 _) (Or.inl rfl) (by omega) (by decide) (by decide) rfl ?_
  have hX_14 : XI (vcp (vcp (v2 (v2 (v2 (v2 (v2 (v2 v 145 0 (v 33 0)) 145 1 (v 33 1)) 145 2 (v 33 2)) 145 3 (v 33 3)) 145 4 (v 33 4)) 145 5 (v 33 5)) 34 146 0 0 9) 35 147 0 0 9) := XI.cpy hX_13 (fun x h j => Exists.elim h (fun _ h => h))
  show WV _ _ _ 78 _ _ _ (vcp (vcp (v2 (v2 (v2 (v2 (v2 (v2 v 145 0 (v 33 0)) 145 1 (v 33 1)) 145 2 (v 33 2)) 145 3 (v 33 3)) 145 4 (v 33 4)) 145 5 (v 33 5)) 34 146 0 0 9) 35 147 0 0 9) _
  refine r_ex 7 (pc' := 90) (lo' := [some (.inr (.inr (some 145))), some (.inr (.inr (some 33)))]) (st' := [.inl 9, .inl 0, .inr (.inr (some 148)), .inl 0, .inr (.inr (some 36))]) rfl ?_
  refine r_copy2 (pc' := 93) (pc0 := 90) (len := 3) rfl (s_36 _) (s_148 _) (Or.inl rfl) (by omega) (by decide) (by decide) rfl ?_
  have hX_15 : XI (vcp (vcp (vcp (v2 (v2 (v2 (v2 (v2 (v2 v 145 0 (v 33 0)) 145 1 (v 33 1)) 145 2 (v 33 2)) 145 3 (v 33 3)) 145 4 (v 33 4)) 145 5 (v 33 5)) 34 146 0 0 9) 35 147 0 0 9) 36 148 0 0 9) := XI.cpy hX_14 (fun x h j => Exists.elim h (fun _ h => h))
  show WV _ _ _ 93 _ _ _ (vcp (vcp (vcp (v2 (v2 (v2 (v2 (v2 (v2 v 145 0 (v 33 0)) 145 1 (v 33 1)) 145 2 (v 33 2)) 145 3 (v 33 3)) 145 4 (v 33 4)) 145 5 (v 33 5)) 34 146 0 0 9) 35 147 0 0 9) 36 148 0 0 9) _
  refine r_ex 4 (pc' := 101) (lo' := [some (.inr (.inr (some 145))), some (.inr (.inr (some 33)))]) (st' := [.inr (.inr (some 37)), .inr (.inr (some 149))]) rfl ?_
  refine r_call (m := 54) (args := [.inr (.inr (some 149)), .inr (.inr (some 37))]) (n' := 53) (pc' := 104) (lo' := [some (.inr (.inr (some 145))), some (.inr (.inr (some 33)))]) (st' := []) (I := .invokevirtual 54) (pc0 := 101) (len := 3) rfl rfl rfl (e_cl_eaTake145_33 hX_15) ?_
  show WV _ _ _ 104 _ [] _ (cl_eaTake145_33 (vcp (vcp (vcp (v2 (v2 (v2 (v2 (v2 (v2 v 145 0 (v 33 0)) 145 1 (v 33 1)) 145 2 (v 33 2)) 145 3 (v 33 3)) 145 4 (v 33 4)) 145 5 (v 33 5)) 34 146 0 0 9) 35 147 0 0 9) 36 148 0 0 9)) _
  have hX_16 : XI (cl_eaTake145_33 (vcp (vcp (vcp (v2 (v2 (v2 (v2 (v2 (v2 v 145 0 (v 33 0)) 145 1 (v 33 1)) 145 2 (v 33 2)) 145 3 (v 33 3)) 145 4 (v 33 4)) 145 5 (v 33 5)) 34 146 0 0 9) 35 147 0 0 9) 36 148 0 0 9)) := i_cl_eaTake145_33 (v := (vcp (vcp (vcp (v2 (v2 (v2 (v2 (v2 (v2 v 145 0 (v 33 0)) 145 1 (v 33 1)) 145 2 (v 33 2)) 145 3 (v 33 3)) 145 4 (v 33 4)) 145 5 (v 33 5)) 34 146 0 0 9) 35 147 0 0 9) 36 148 0 0 9)) hX_15
  refine r_ex 4 (pc' := 112) (lo' := [some (.inr (.inr (some 145))), some (.inr (.inr (some 33)))]) (st' := [.inr (.inr (some 42)), .inr (.inr (some 154))]) rfl ?_
  refine r_call (m := 55) (args := [.inr (.inr (some 154)), .inr (.inr (some 42))]) (n' := 53) (pc' := 115) (lo' := [some (.inr (.inr (some 145))), some (.inr (.inr (some 33)))]) (st' := []) (I := .invokevirtual 55) (pc0 := 112) (len := 3) rfl rfl rfl (e_cl_stTake145_33 hX_16) ?_
  show WV _ _ _ 115 _ [] _ (cl_stTake145_33 (cl_eaTake145_33 (vcp (vcp (vcp (v2 (v2 (v2 (v2 (v2 (v2 v 145 0 (v 33 0)) 145 1 (v 33 1)) 145 2 (v 33 2)) 145 3 (v 33 3)) 145 4 (v 33 4)) 145 5 (v 33 5)) 34 146 0 0 9) 35 147 0 0 9) 36 148 0 0 9))) _
  have hX_17 : XI (cl_stTake145_33 (cl_eaTake145_33 (vcp (vcp (vcp (v2 (v2 (v2 (v2 (v2 (v2 v 145 0 (v 33 0)) 145 1 (v 33 1)) 145 2 (v 33 2)) 145 3 (v 33 3)) 145 4 (v 33 4)) 145 5 (v 33 5)) 34 146 0 0 9) 35 147 0 0 9) 36 148 0 0 9))) := i_cl_stTake145_33 (v := (cl_eaTake145_33 (vcp (vcp (vcp (v2 (v2 (v2 (v2 (v2 (v2 v 145 0 (v 33 0)) 145 1 (v 33 1)) 145 2 (v 33 2)) 145 3 (v 33 3)) 145 4 (v 33 4)) 145 5 (v 33 5)) 34 146 0 0 9) 35 147 0 0 9) 36 148 0 0 9))) hX_16
  refine r_ex 4 (pc' := 123) (lo' := [some (.inr (.inr (some 145))), some (.inr (.inr (some 33)))]) (st' := [.inr (.inr (some 46)), .inr (.inr (some 158))]) rfl ?_
  refine r_call (m := 56) (args := [.inr (.inr (some 158)), .inr (.inr (some 46))]) (n' := 53) (pc' := 126) (lo' := [some (.inr (.inr (some 145))), some (.inr (.inr (some 33)))]) (st' := []) (I := .invokevirtual 56) (pc0 := 123) (len := 3) rfl rfl rfl (e_cl_spTake158_46 hX_17) ?_
  show WV _ _ _ 126 _ [] _ (cl_spTake158_46 (cl_stTake145_33 (cl_eaTake145_33 (vcp (vcp (vcp (v2 (v2 (v2 (v2 (v2 (v2 v 145 0 (v 33 0)) 145 1 (v 33 1)) 145 2 (v 33 2)) 145 3 (v 33 3)) 145 4 (v 33 4)) 145 5 (v 33 5)) 34 146 0 0 9) 35 147 0 0 9) 36 148 0 0 9)))) _
  have hX_18 : XI (cl_spTake158_46 (cl_stTake145_33 (cl_eaTake145_33 (vcp (vcp (vcp (v2 (v2 (v2 (v2 (v2 (v2 v 145 0 (v 33 0)) 145 1 (v 33 1)) 145 2 (v 33 2)) 145 3 (v 33 3)) 145 4 (v 33 4)) 145 5 (v 33 5)) 34 146 0 0 9) 35 147 0 0 9) 36 148 0 0 9)))) := i_cl_spTake158_46 (v := (cl_stTake145_33 (cl_eaTake145_33 (vcp (vcp (vcp (v2 (v2 (v2 (v2 (v2 (v2 v 145 0 (v 33 0)) 145 1 (v 33 1)) 145 2 (v 33 2)) 145 3 (v 33 3)) 145 4 (v 33 4)) 145 5 (v 33 5)) 34 146 0 0 9) 35 147 0 0 9) 36 148 0 0 9)))) hX_17
  refine r_ex 4 (pc' := 134) (lo' := [some (.inr (.inr (some 145))), some (.inr (.inr (some 33)))]) (st' := [.inr (.inr (some 50)), .inr (.inr (some 162))]) rfl ?_
  refine r_call (m := 56) (args := [.inr (.inr (some 162)), .inr (.inr (some 50))]) (n' := 53) (pc' := 137) (lo' := [some (.inr (.inr (some 145))), some (.inr (.inr (some 33)))]) (st' := []) (I := .invokevirtual 56) (pc0 := 134) (len := 3) rfl rfl rfl (e_cl_spTake162_50 hX_18) ?_
  show WV _ _ _ 137 _ [] _ (cl_spTake162_50 (cl_spTake158_46 (cl_stTake145_33 (cl_eaTake145_33 (vcp (vcp (vcp (v2 (v2 (v2 (v2 (v2 (v2 v 145 0 (v 33 0)) 145 1 (v 33 1)) 145 2 (v 33 2)) 145 3 (v 33 3)) 145 4 (v 33 4)) 145 5 (v 33 5)) 34 146 0 0 9) 35 147 0 0 9) 36 148 0 0 9))))) _
  have hX_19 : XI (cl_spTake162_50 (cl_spTake158_46 (cl_stTake145_33 (cl_eaTake145_33 (vcp (vcp (vcp (v2 (v2 (v2 (v2 (v2 (v2 v 145 0 (v 33 0)) 145 1 (v 33 1)) 145 2 (v 33 2)) 145 3 (v 33 3)) 145 4 (v 33 4)) 145 5 (v 33 5)) 34 146 0 0 9) 35 147 0 0 9) 36 148 0 0 9))))) := i_cl_spTake162_50 (v := (cl_spTake158_46 (cl_stTake145_33 (cl_eaTake145_33 (vcp (vcp (vcp (v2 (v2 (v2 (v2 (v2 (v2 v 145 0 (v 33 0)) 145 1 (v 33 1)) 145 2 (v 33 2)) 145 3 (v 33 3)) 145 4 (v 33 4)) 145 5 (v 33 5)) 34 146 0 0 9) 35 147 0 0 9) 36 148 0 0 9))))) hX_18
  refine r_ex 4 (pc' := 145) (lo' := [some (.inr (.inr (some 145))), some (.inr (.inr (some 33)))]) (st' := [.inr (.inr (some 54)), .inr (.inr (some 166))]) rfl ?_
  refine r_call (m := 56) (args := [.inr (.inr (some 166)), .inr (.inr (some 54))]) (n' := 53) (pc' := 148) (lo' := [some (.inr (.inr (some 145))), some (.inr (.inr (some 33)))]) (st' := []) (I := .invokevirtual 56) (pc0 := 145) (len := 3) rfl rfl rfl (e_cl_spTake166_54 hX_19) ?_
  show WV _ _ _ 148 _ [] _ (cl_spTake166_54 (cl_spTake162_50 (cl_spTake158_46 (cl_stTake145_33 (cl_eaTake145_33 (vcp (vcp (vcp (v2 (v2 (v2 (v2 (v2 (v2 v 145 0 (v 33 0)) 145 1 (v 33 1)) 145 2 (v 33 2)) 145 3 (v 33 3)) 145 4 (v 33 4)) 145 5 (v 33 5)) 34 146 0 0 9) 35 147 0 0 9) 36 148 0 0 9)))))) _
  have hX_20 : XI (cl_spTake166_54 (cl_spTake162_50 (cl_spTake158_46 (cl_stTake145_33 (cl_eaTake145_33 (vcp (vcp (vcp (v2 (v2 (v2 (v2 (v2 (v2 v 145 0 (v 33 0)) 145 1 (v 33 1)) 145 2 (v 33 2)) 145 3 (v 33 3)) 145 4 (v 33 4)) 145 5 (v 33 5)) 34 146 0 0 9) 35 147 0 0 9) 36 148 0 0 9)))))) := i_cl_spTake166_54 (v := (cl_spTake162_50 (cl_spTake158_46 (cl_stTake145_33 (cl_eaTake145_33 (vcp (vcp (vcp (v2 (v2 (v2 (v2 (v2 (v2 v 145 0 (v 33 0)) 145 1 (v 33 1)) 145 2 (v 33 2)) 145 3 (v 33 3)) 145 4 (v 33 4)) 145 5 (v 33 5)) 34 146 0 0 9) 35 147 0 0 9) 36 148 0 0 9)))))) hX_19
  refine r_ex 4 (pc' := 156) (lo' := [some (.inr (.inr (some 145))), some (.inr (.inr (some 33)))]) (st' := [.inr (.inr (some 58)), .inr (.inr (some 170))]) rfl ?_
  refine r_call (m := 56) (args := [.inr (.inr (some 170)), .inr (.inr (some 58))]) (n' := 53) (pc' := 159) (lo' := [some (.inr (.inr (some 145))), some (.inr (.inr (some 33)))]) (st' := []) (I := .invokevirtual 56) (pc0 := 156) (len := 3) rfl rfl rfl (e_cl_spTake170_58 hX_20) ?_
  show WV _ _ _ 159 _ [] _ (cl_spTake170_58 (cl_spTake166_54 (cl_spTake162_50 (cl_spTake158_46 (cl_stTake145_33 (cl_eaTake145_33 (vcp (vcp (vcp (v2 (v2 (v2 (v2 (v2 (v2 v 145 0 (v 33 0)) 145 1 (v 33 1)) 145 2 (v 33 2)) 145 3 (v 33 3)) 145 4 (v 33 4)) 145 5 (v 33 5)) 34 146 0 0 9) 35 147 0 0 9) 36 148 0 0 9))))))) _
  have hX_21 : XI (cl_spTake170_58 (cl_spTake166_54 (cl_spTake162_50 (cl_spTake158_46 (cl_stTake145_33 (cl_eaTake145_33 (vcp (vcp (vcp (v2 (v2 (v2 (v2 (v2 (v2 v 145 0 (v 33 0)) 145 1 (v 33 1)) 145 2 (v 33 2)) 145 3 (v 33 3)) 145 4 (v 33 4)) 145 5 (v 33 5)) 34 146 0 0 9) 35 147 0 0 9) 36 148 0 0 9))))))) := i_cl_spTake170_58 (v := (cl_spTake166_54 (cl_spTake162_50 (cl_spTake158_46 (cl_stTake145_33 (cl_eaTake145_33 (vcp (vcp (vcp (v2 (v2 (v2 (v2 (v2 (v2 v 145 0 (v 33 0)) 145 1 (v 33 1)) 145 2 (v 33 2)) 145 3 (v 33 3)) 145 4 (v 33 4)) 145 5 (v 33 5)) 34 146 0 0 9) 35 147 0 0 9) 36 148 0 0 9))))))) hX_20
  refine r_ret (rr := none) (I := .return_) (pc0 := 159) (len := 1) rfl rfl ?_
  exact hQ hX_21 

theorem e_cl_copy145_33 {X : PX} {d b : Nat} {v : VS}  (hX : XI v)  : EvV X (d + 1) 53 [.inr (.inr (some 145)), .inr (.inr (some 33))] b v none b (cl_copy145_33 v) := EvV.of (w_cl_copy145_33 hX  (fun _ => ⟨rfl, rfl, rfl⟩))

theorem i_cl_copy145_33 {v : VS}  (hX : XI v)  : XI (cl_copy145_33 v) := by
  have q : WV (0, fun _ => 0, none) (0 + 1) 53 0 [some (.inr (.inr (some 145))), some (.inr (.inr (some 33)))] [] 1 v (fun _ _ _ => XI (cl_copy145_33 v)) := w_cl_copy145_33 (X := (0, fun _ => 0, none)) (d := 0) (b := 1) hX  (fun q => q)
  obtain ⟨_, _, _, _, _, _, _, q⟩ := q
  exact q

theorem o_cl_copy145_33 {rk : Nat} {v : VS}  (hk : (rk < 145 ∨ 173 < rk)) : (cl_copy145_33 v ) rk = v rk := by
  unfold cl_copy145_33
  all_goals (show (cl_spTake170_58 (cl_spTake166_54 (cl_spTake162_50 (cl_spTake158_46 (cl_stTake145_33 (cl_eaTake145_33 (vcp (vcp (vcp (v2 (v2 (v2 (v2 (v2 (v2 v 145 0 (v 33 0)) 145 1 (v 33 1)) 145 2 (v 33 2)) 145 3 (v 33 3)) 145 4 (v 33 4)) 145 5 (v 33 5)) 34 146 0 0 9) 35 147 0 0 9) 36 148 0 0 9))))))) rk = _)
  all_goals (rw [o_cl_spTake170_58 (by omega), o_cl_spTake166_54 (by omega), o_cl_spTake162_50 (by omega), o_cl_spTake158_46 (by omega), o_cl_stTake145_33 (by omega), o_cl_eaTake145_33 (by omega), vcp_row (by omega), vcp_row (by omega), vcp_row (by omega), v2_row (by omega), v2_row (by omega), v2_row (by omega), v2_row (by omega), v2_row (by omega), v2_row (by omega)])

def cl_eaTake174_33 (v : VS)  : VS :=
  (vcp (vcp (vcp (vcp (v2 v 178 0 (v 37 0)) 38 179 0 0 12) 39 180 0 0 12) 40 181 0 0 12) 41 182 0 0 12)
theorem w_cl_eaTake174_33 {X : PX} {d b : Nat} {v : VS}  (hX : XI v)  {Q : Option PV → Nat → VS → Prop} (hQ : XI (cl_eaTake174_33 v) → Q none b (cl_eaTake174_33 v)) : WV X d 54 0 [some (.inr (.inr (some 178))), some (.inr (.inr (some 37)))] [] b v Q := by
  rw [cl_eaTake174_33] at hQ
  refine r_ex 3 (pc' := 5) (lo' := [some (.inr (.inr (some 178))), some (.inr (.inr (some 37)))]) (st' := [.inl (v 37 0), .inr (.inr (some 178))]) rfl ?_
  have hb_1 : 0 ≤ (v 37 0) ∧ (v 37 0) ≤ 12 := hX 37 0
  refine r_puti2 (j := 0) (pc' := 8) (pc0 := 5) (len := 3) rfl (s_178 _) rfl rfl rfl (Or.inl rfl) rfl rfl ?_
  have hX_2 : XI (v2 v 178 0 (v 37 0)) := XI.put hX (show 0 ≤ (v 37 0) ∧ (v 37 0) ≤ 12 from (by first | assumption | omega | (unfold R32 at *; omega) | (unfold R64 at *; omega) | (simp only [R32, R64] at *; omega)))
  refine r_ex 7 (pc' := 20) (lo' := [some (.inr (.inr (some 178))), some (.inr (.inr (some 37)))]) (st' := [.inl 12, .inl 0, .inr (.inr (some 179)), .inl 0, .inr (.inr (some 38))]) rfl ?_
  refine r_copy2 (pc' := 23) (pc0 := 20) (len := 3) rfl (s_38 _) (s_179 _) (Or.inl rfl) (by omega) (by decide) (by decide) rfl ?_
  have hX_3 : XI (vcp (v2 v 178 0 (v 37 0)) 38 179 0 0 12) := XI.cpy hX_2 (fun x h j => Exists.elim h (fun _ h => h))
  show WV _ _ _ 23 _ _ _ (vcp (v2 v 178 0 (v 37 0)) 38 179 0 0 12) _
  refine r_ex 7 (pc' := 35) (lo' := [some (.inr (.inr (some 178))), some (.inr (.inr (some 37)))]) (st' := [.inl 12, .inl 0, .inr (.inr (some 180)), .inl 0, .inr (.inr (some 39))]) rfl ?_
  refine r_copy2 (pc' := 38) (pc0 := 35) (len := 3) rfl (s_39 _) (s_180 _) (Or.inl rfl) (by omega) (by decide) (by decide) rfl ?_
  have hX_4 : XI (vcp (vcp (v2 v 178 0 (v 37 0)) 38 179 0 0 12) 39 180 0 0 12) := XI.cpy hX_3 (fun x h j => Exists.elim h (fun _ h => h))
  show WV _ _ _ 38 _ _ _ (vcp (vcp (v2 v 178 0 (v 37 0)) 38 179 0 0 12) 39 180 0 0 12) _
  refine r_ex 7 (pc' := 50) (lo' := [some (.inr (.inr (some 178))), some (.inr (.inr (some 37)))]) (st' := [.inl 12, .inl 0, .inr (.inr (some 181)), .inl 0, .inr (.inr (some 40))]) rfl ?_
  refine r_copy2 (pc' := 53) (pc0 := 50) (len := 3) rfl (s_40 _) (s_181 _) (Or.inl rfl) (by omega) (by decide) (by decide) rfl ?_
  have hX_5 : XI (vcp (vcp (vcp (v2 v 178 0 (v 37 0)) 38 179 0 0 12) 39 180 0 0 12) 40 181 0 0 12) := XI.cpy hX_4 (fun x h j => Exists.elim h (fun _ h => h))
  show WV _ _ _ 53 _ _ _ (vcp (vcp (vcp (v2 v 178 0 (v 37 0)) 38 179 0 0 12) 39 180 0 0 12) 40 181 0 0 12) _
  refine r_ex 7 (pc' := 65) (lo' := [some (.inr (.inr (some 178))), some (.inr (.inr (some 37)))]) (st' := [.inl 12, .inl 0, .inr (.inr (some 182)), .inl 0, .inr (.inr (some 41))]) rfl ?_
  refine r_copy2 (pc' := 68) (pc0 := 65) (len := 3) rfl (s_41 _) (s_182 _) (Or.inl rfl) (by omega) (by decide) (by decide) rfl ?_
  have hX_6 : XI (vcp (vcp (vcp (vcp (v2 v 178 0 (v 37 0)) 38 179 0 0 12) 39 180 0 0 12) 40 181 0 0 12) 41 182 0 0 12) := XI.cpy hX_5 (fun x h j => Exists.elim h (fun _ h => h))
  show WV _ _ _ 68 _ _ _ (vcp (vcp (vcp (vcp (v2 v 178 0 (v 37 0)) 38 179 0 0 12) 39 180 0 0 12) 40 181 0 0 12) 41 182 0 0 12) _
  refine r_ret (rr := none) (I := .return_) (pc0 := 68) (len := 1) rfl rfl ?_
  exact hQ hX_6 

theorem e_cl_eaTake174_33 {X : PX} {d b : Nat} {v : VS}  (hX : XI v)  : EvV X d 54 [.inr (.inr (some 178)), .inr (.inr (some 37))] b v none b (cl_eaTake174_33 v) := EvV.of (w_cl_eaTake174_33 hX  (fun _ => ⟨rfl, rfl, rfl⟩))

theorem i_cl_eaTake174_33 {v : VS}  (hX : XI v)  : XI (cl_eaTake174_33 v) := by
  have q : WV (0, fun _ => 0, none) 0 54 0 [some (.inr (.inr (some 178))), some (.inr (.inr (some 37)))] [] 1 v (fun _ _ _ => XI (cl_eaTake174_33 v)) := w_cl_eaTake174_33 (X := (0, fun _ => 0, none)) (d := 0) (b := 1) hX  (fun q => q)
  obtain ⟨_, _, _, _, _, _, _, q⟩ := q
  exact q

theorem o_cl_eaTake174_33 {rk : Nat} {v : VS}  (hk : (rk < 178 ∨ 182 < rk)) : (cl_eaTake174_33 v ) rk = v rk := by
  unfold cl_eaTake174_33
  all_goals (show (vcp (vcp (vcp (vcp (v2 v 178 0 (v 37 0)) 38 179 0 0 12) 39 180 0 0 12) 40 181 0 0 12) 41 182 0 0 12) rk = _)
  all_goals (rw [vcp_row (by omega), vcp_row (by omega), vcp_row (by omega), vcp_row (by omega), v2_row (by omega)])

def cl_stTake174_33 (v : VS)  : VS :=
  (vcp (vcp (vcp (v2 v 183 0 (v 42 0)) 43 184 0 0 5) 44 185 0 0 5) 45 186 0 0 5)
theorem w_cl_stTake174_33 {X : PX} {d b : Nat} {v : VS}  (hX : XI v)  {Q : Option PV → Nat → VS → Prop} (hQ : XI (cl_stTake174_33 v) → Q none b (cl_stTake174_33 v)) : WV X d 55 0 [some (.inr (.inr (some 183))), some (.inr (.inr (some 42)))] [] b v Q := by
  rw [cl_stTake174_33] at hQ
  refine r_ex 3 (pc' := 5) (lo' := [some (.inr (.inr (some 183))), some (.inr (.inr (some 42)))]) (st' := [.inl (v 42 0), .inr (.inr (some 183))]) rfl ?_
  have hb_1 : 0 ≤ (v 42 0) ∧ (v 42 0) ≤ 4 := hX 42 0
  refine r_puti2 (j := 0) (pc' := 8) (pc0 := 5) (len := 3) rfl (s_183 _) rfl rfl rfl (Or.inl rfl) rfl rfl ?_
  have hX_2 : XI (v2 v 183 0 (v 42 0)) := XI.put hX (show 0 ≤ (v 42 0) ∧ (v 42 0) ≤ 4 from (by first | assumption | omega | (unfold R32 at *; omega) | (unfold R64 at *; omega) | (simp only [R32, R64] at *; omega)))
  refine r_ex 7 (pc' := 19) (lo' := [some (.inr (.inr (some 183))), some (.inr (.inr (some 42)))]) (st' := [.inl 5, .inl 0, .inr (.inr (some 184)), .inl 0, .inr (.inr (some 43))]) rfl ?_
  refine r_copy2 (pc' := 22) (pc0 := 19) (len := 3) rfl (s_43 _) (s_184 _) (Or.inl rfl) (by omega) (by decide) (by decide) rfl ?_
  have hX_3 : XI (vcp (v2 v 183 0 (v 42 0)) 43 184 0 0 5) := XI.cpy hX_2 (fun x h j => Exists.elim h (fun _ h => h))
  show WV _ _ _ 22 _ _ _ (vcp (v2 v 183 0 (v 42 0)) 43 184 0 0 5) _
  refine r_ex 7 (pc' := 33) (lo' := [some (.inr (.inr (some 183))), some (.inr (.inr (some 42)))]) (st' := [.inl 5, .inl 0, .inr (.inr (some 185)), .inl 0, .inr (.inr (some 44))]) rfl ?_
  refine r_copy2 (pc' := 36) (pc0 := 33) (len := 3) rfl (s_44 _) (s_185 _) (Or.inl rfl) (by omega) (by decide) (by decide) rfl ?_
  have hX_4 : XI (vcp (vcp (v2 v 183 0 (v 42 0)) 43 184 0 0 5) 44 185 0 0 5) := XI.cpy hX_3 (fun x h j => Exists.elim h (fun _ h => h))
  show WV _ _ _ 36 _ _ _ (vcp (vcp (v2 v 183 0 (v 42 0)) 43 184 0 0 5) 44 185 0 0 5) _
  refine r_ex 7 (pc' := 47) (lo' := [some (.inr (.inr (some 183))), some (.inr (.inr (some 42)))]) (st' := [.inl 5, .inl 0, .inr (.inr (some 186)), .inl 0, .inr (.inr (some 45))]) rfl ?_
  refine r_copy2 (pc' := 50) (pc0 := 47) (len := 3) rfl (s_45 _) (s_186 _) (Or.inl rfl) (by omega) (by decide) (by decide) rfl ?_
  have hX_5 : XI (vcp (vcp (vcp (v2 v 183 0 (v 42 0)) 43 184 0 0 5) 44 185 0 0 5) 45 186 0 0 5) := XI.cpy hX_4 (fun x h j => Exists.elim h (fun _ h => h))
  show WV _ _ _ 50 _ _ _ (vcp (vcp (vcp (v2 v 183 0 (v 42 0)) 43 184 0 0 5) 44 185 0 0 5) 45 186 0 0 5) _
  refine r_ret (rr := none) (I := .return_) (pc0 := 50) (len := 1) rfl rfl ?_
  exact hQ hX_5 

theorem e_cl_stTake174_33 {X : PX} {d b : Nat} {v : VS}  (hX : XI v)  : EvV X d 55 [.inr (.inr (some 183)), .inr (.inr (some 42))] b v none b (cl_stTake174_33 v) := EvV.of (w_cl_stTake174_33 hX  (fun _ => ⟨rfl, rfl, rfl⟩))

theorem i_cl_stTake174_33 {v : VS}  (hX : XI v)  : XI (cl_stTake174_33 v) := by
  have q : WV (0, fun _ => 0, none) 0 55 0 [some (.inr (.inr (some 183))), some (.inr (.inr (some 42)))] [] 1 v (fun _ _ _ => XI (cl_stTake174_33 v)) := w_cl_stTake174_33 (X := (0, fun _ => 0, none)) (d := 0) (b := 1) hX  (fun q => q)
  obtain ⟨_, _, _, _, _, _, _, q⟩ := q
  exact q

theorem o_cl_stTake174_33 {rk : Nat} {v : VS}  (hk : (rk < 183 ∨ 186 < rk)) : (cl_stTake174_33 v ) rk = v rk := by
  unfold cl_stTake174_33
  all_goals (show (vcp (vcp (vcp (v2 v 183 0 (v 42 0)) 43 184 0 0 5) 44 185 0 0 5) 45 186 0 0 5) rk = _)
  all_goals (rw [vcp_row (by omega), vcp_row (by omega), vcp_row (by omega), v2_row (by omega)])

def cl_spTake187_46 (v : VS)  : VS :=
  (vcp (vcp (vcp (v2 v 187 0 (v 46 0)) 47 188 0 0 6) 48 189 0 0 6) 49 190 0 0 6)
theorem w_cl_spTake187_46 {X : PX} {d b : Nat} {v : VS}  (hX : XI v)  {Q : Option PV → Nat → VS → Prop} (hQ : XI (cl_spTake187_46 v) → Q none b (cl_spTake187_46 v)) : WV X d 56 0 [some (.inr (.inr (some 187))), some (.inr (.inr (some 46)))] [] b v Q := by
  rw [cl_spTake187_46] at hQ
  refine r_ex 3 (pc' := 5) (lo' := [some (.inr (.inr (some 187))), some (.inr (.inr (some 46)))]) (st' := [.inl (v 46 0), .inr (.inr (some 187))]) rfl ?_
  have hb_1 : 0 ≤ (v 46 0) ∧ (v 46 0) ≤ 6 := hX 46 0
  refine r_puti2 (j := 0) (pc' := 8) (pc0 := 5) (len := 3) rfl (s_187 _) rfl rfl rfl (Or.inl rfl) rfl rfl ?_
  have hX_2 : XI (v2 v 187 0 (v 46 0)) := XI.put hX (show 0 ≤ (v 46 0) ∧ (v 46 0) ≤ 6 from (by first | assumption | omega | (unfold R32 at *; omega) | (unfold R64 at *; omega) | (simp only [R32, R64] at *; omega)))
  refine r_ex 7 (pc' := 20) (lo' := [some (.inr (.inr (some 187))), some (.inr (.inr (some 46)))]) (st' := [.inl 6, .inl 0, .inr (.inr (some 188)), .inl 0, .inr (.inr (some 47))]) rfl ?_
  refine r_copy2 (pc' := 23) (pc0 := 20) (len := 3) rfl (s_47 _) (s_188 _) (Or.inl rfl) (by omega) (by decide) (by decide) rfl ?_
  have hX_3 : XI (vcp (v2 v 187 0 (v 46 0)) 47 188 0 0 6) := XI.cpy hX_2 (fun x h j => Exists.elim h (fun _ h => h))
  show WV _ _ _ 23 _ _ _ (vcp (v2 v 187 0 (v 46 0)) 47 188 0 0 6) _
  refine r_ex 7 (pc' := 35) (lo' := [some (.inr (.inr (some 187))), some (.inr (.inr (some 46)))]) (st' := [.inl 6, .inl 0, .inr (.inr (some 189)), .inl 0, .inr (.inr (some 48))]) rfl ?_
  refine r_copy2 (pc' := 38) (pc0 := 35) (len := 3) rfl (s_48 _) (s_189 _) (Or.inl rfl) (by omega) (by decide) (by decide) rfl ?_
  have hX_4 : XI (vcp (vcp (v2 v 187 0 (v 46 0)) 47 188 0 0 6) 48 189 0 0 6) := XI.cpy hX_3 (fun x h j => Exists.elim h (fun _ h => h))
  show WV _ _ _ 38 _ _ _ (vcp (vcp (v2 v 187 0 (v 46 0)) 47 188 0 0 6) 48 189 0 0 6) _
  refine r_ex 7 (pc' := 50) (lo' := [some (.inr (.inr (some 187))), some (.inr (.inr (some 46)))]) (st' := [.inl 6, .inl 0, .inr (.inr (some 190)), .inl 0, .inr (.inr (some 49))]) rfl ?_
  refine r_copy2 (pc' := 53) (pc0 := 50) (len := 3) rfl (s_49 _) (s_190 _) (Or.inl rfl) (by omega) (by decide) (by decide) rfl ?_
  have hX_5 : XI (vcp (vcp (vcp (v2 v 187 0 (v 46 0)) 47 188 0 0 6) 48 189 0 0 6) 49 190 0 0 6) := XI.cpy hX_4 (fun x h j => Exists.elim h (fun _ h => h))
  show WV _ _ _ 53 _ _ _ (vcp (vcp (vcp (v2 v 187 0 (v 46 0)) 47 188 0 0 6) 48 189 0 0 6) 49 190 0 0 6) _
  refine r_ret (rr := none) (I := .return_) (pc0 := 53) (len := 1) rfl rfl ?_
  exact hQ hX_5 

theorem e_cl_spTake187_46 {X : PX} {d b : Nat} {v : VS}  (hX : XI v)  : EvV X d 56 [.inr (.inr (some 187)), .inr (.inr (some 46))] b v none b (cl_spTake187_46 v) := EvV.of (w_cl_spTake187_46 hX  (fun _ => ⟨rfl, rfl, rfl⟩))

theorem i_cl_spTake187_46 {v : VS}  (hX : XI v)  : XI (cl_spTake187_46 v) := by
  have q : WV (0, fun _ => 0, none) 0 56 0 [some (.inr (.inr (some 187))), some (.inr (.inr (some 46)))] [] 1 v (fun _ _ _ => XI (cl_spTake187_46 v)) := w_cl_spTake187_46 (X := (0, fun _ => 0, none)) (d := 0) (b := 1) hX  (fun q => q)
  obtain ⟨_, _, _, _, _, _, _, q⟩ := q
  exact q

theorem o_cl_spTake187_46 {rk : Nat} {v : VS}  (hk : (rk < 187 ∨ 190 < rk)) : (cl_spTake187_46 v ) rk = v rk := by
  unfold cl_spTake187_46
  all_goals (show (vcp (vcp (vcp (v2 v 187 0 (v 46 0)) 47 188 0 0 6) 48 189 0 0 6) 49 190 0 0 6) rk = _)
  all_goals (rw [vcp_row (by omega), vcp_row (by omega), vcp_row (by omega), v2_row (by omega)])

def cl_spTake191_50 (v : VS)  : VS :=
  (vcp (vcp (vcp (v2 v 191 0 (v 50 0)) 51 192 0 0 6) 52 193 0 0 6) 53 194 0 0 6)
theorem w_cl_spTake191_50 {X : PX} {d b : Nat} {v : VS}  (hX : XI v)  {Q : Option PV → Nat → VS → Prop} (hQ : XI (cl_spTake191_50 v) → Q none b (cl_spTake191_50 v)) : WV X d 56 0 [some (.inr (.inr (some 191))), some (.inr (.inr (some 50)))] [] b v Q := by
  rw [cl_spTake191_50] at hQ
  refine r_ex 3 (pc' := 5) (lo' := [some (.inr (.inr (some 191))), some (.inr (.inr (some 50)))]) (st' := [.inl (v 50 0), .inr (.inr (some 191))]) rfl ?_
  have hb_1 : 0 ≤ (v 50 0) ∧ (v 50 0) ≤ 6 := hX 50 0
  refine r_puti2 (j := 0) (pc' := 8) (pc0 := 5) (len := 3) rfl (s_191 _) rfl rfl rfl (Or.inl rfl) rfl rfl ?_
  have hX_2 : XI (v2 v 191 0 (v 50 0)) := XI.put hX (show 0 ≤ (v 50 0) ∧ (v 50 0) ≤ 6 from (by first | assumption | omega | (unfold R32 at *; omega) | (unfold R64 at *; omega) | (simp only [R32, R64] at *; omega)))
  refine r_ex 7 (pc' := 20) (lo' := [some (.inr (.inr (some 191))), some (.inr (.inr (some 50)))]) (st' := [.inl 6, .inl 0, .inr (.inr (some 192)), .inl 0, .inr (.inr (some 51))]) rfl ?_
  refine r_copy2 (pc' := 23) (pc0 := 20) (len := 3) rfl (s_51 _) (s_192 _) (Or.inl rfl) (by omega) (by decide) (by decide) rfl ?_
  have hX_3 : XI (vcp (v2 v 191 0 (v 50 0)) 51 192 0 0 6) := XI.cpy hX_2 (fun x h j => Exists.elim h (fun _ h => h))
  show WV _ _ _ 23 _ _ _ (vcp (v2 v 191 0 (v 50 0)) 51 192 0 0 6) _
  refine r_ex 7 (pc' := 35) (lo' := [some (.inr (.inr (some 191))), some (.inr (.inr (some 50)))]) (st' := [.inl 6, .inl 0, .inr (.inr (some 193)), .inl 0, .inr (.inr (some 52))]) rfl ?_
  refine r_copy2 (pc' := 38) (pc0 := 35) (len := 3) rfl (s_52 _) (s_193 _) (Or.inl rfl) (by omega) (by decide) (by decide) rfl ?_
  have hX_4 : XI (vcp (vcp (v2 v 191 0 (v 50 0)) 51 192 0 0 6) 52 193 0 0 6) := XI.cpy hX_3 (fun x h j => Exists.elim h (fun _ h => h))
  show WV _ _ _ 38 _ _ _ (vcp (vcp (v2 v 191 0 (v 50 0)) 51 192 0 0 6) 52 193 0 0 6) _
  refine r_ex 7 (pc' := 50) (lo' := [some (.inr (.inr (some 191))), some (.inr (.inr (some 50)))]) (st' := [.inl 6, .inl 0, .inr (.inr (some 194)), .inl 0, .inr (.inr (some 53))]) rfl ?_
  refine r_copy2 (pc' := 53) (pc0 := 50) (len := 3) rfl (s_53 _) (s_194 _) (Or.inl rfl) (by omega) (by decide) (by decide) rfl ?_
  have hX_5 : XI (vcp (vcp (vcp (v2 v 191 0 (v 50 0)) 51 192 0 0 6) 52 193 0 0 6) 53 194 0 0 6) := XI.cpy hX_4 (fun x h j => Exists.elim h (fun _ h => h))
  show WV _ _ _ 53 _ _ _ (vcp (vcp (vcp (v2 v 191 0 (v 50 0)) 51 192 0 0 6) 52 193 0 0 6) 53 194 0 0 6) _
  refine r_ret (rr := none) (I := .return_) (pc0 := 53) (len := 1) rfl rfl ?_
  exact hQ hX_5 

theorem e_cl_spTake191_50 {X : PX} {d b : Nat} {v : VS}  (hX : XI v)  : EvV X d 56 [.inr (.inr (some 191)), .inr (.inr (some 50))] b v none b (cl_spTake191_50 v) := EvV.of (w_cl_spTake191_50 hX  (fun _ => ⟨rfl, rfl, rfl⟩))

theorem i_cl_spTake191_50 {v : VS}  (hX : XI v)  : XI (cl_spTake191_50 v) := by
  have q : WV (0, fun _ => 0, none) 0 56 0 [some (.inr (.inr (some 191))), some (.inr (.inr (some 50)))] [] 1 v (fun _ _ _ => XI (cl_spTake191_50 v)) := w_cl_spTake191_50 (X := (0, fun _ => 0, none)) (d := 0) (b := 1) hX  (fun q => q)
  obtain ⟨_, _, _, _, _, _, _, q⟩ := q
  exact q

theorem o_cl_spTake191_50 {rk : Nat} {v : VS}  (hk : (rk < 191 ∨ 194 < rk)) : (cl_spTake191_50 v ) rk = v rk := by
  unfold cl_spTake191_50
  all_goals (show (vcp (vcp (vcp (v2 v 191 0 (v 50 0)) 51 192 0 0 6) 52 193 0 0 6) 53 194 0 0 6) rk = _)
  all_goals (rw [vcp_row (by omega), vcp_row (by omega), vcp_row (by omega), v2_row (by omega)])

def cl_spTake195_54 (v : VS)  : VS :=
  (vcp (vcp (vcp (v2 v 195 0 (v 54 0)) 55 196 0 0 6) 56 197 0 0 6) 57 198 0 0 6)
theorem w_cl_spTake195_54 {X : PX} {d b : Nat} {v : VS}  (hX : XI v)  {Q : Option PV → Nat → VS → Prop} (hQ : XI (cl_spTake195_54 v) → Q none b (cl_spTake195_54 v)) : WV X d 56 0 [some (.inr (.inr (some 195))), some (.inr (.inr (some 54)))] [] b v Q := by
  rw [cl_spTake195_54] at hQ
  refine r_ex 3 (pc' := 5) (lo' := [some (.inr (.inr (some 195))), some (.inr (.inr (some 54)))]) (st' := [.inl (v 54 0), .inr (.inr (some 195))]) rfl ?_
  have hb_1 : 0 ≤ (v 54 0) ∧ (v 54 0) ≤ 6 := hX 54 0
  refine r_puti2 (j := 0) (pc' := 8) (pc0 := 5) (len := 3) rfl (s_195 _) rfl rfl rfl (Or.inl rfl) rfl rfl ?_
  have hX_2 : XI (v2 v 195 0 (v 54 0)) := XI.put hX (show 0 ≤ (v 54 0) ∧ (v 54 0) ≤ 6 from (by first | assumption | omega | (unfold R32 at *; omega) | (unfold R64 at *; omega) | (simp only [R32, R64] at *; omega)))
  refine r_ex 7 (pc' := 20) (lo' := [some (.inr (.inr (some 195))), some (.inr (.inr (some 54)))]) (st' := [.inl 6, .inl 0, .inr (.inr (some 196)), .inl 0, .inr (.inr (some 55))]) rfl ?_
  refine r_copy2 (pc' := 23) (pc0 := 20) (len := 3) rfl (s_55 _) (s_196 _) (Or.inl rfl) (by omega) (by decide) (by decide) rfl ?_
  have hX_3 : XI (vcp (v2 v 195 0 (v 54 0)) 55 196 0 0 6) := XI.cpy hX_2 (fun x h j => Exists.elim h (fun _ h => h))
  show WV _ _ _ 23 _ _ _ (vcp (v2 v 195 0 (v 54 0)) 55 196 0 0 6) _
  refine r_ex 7 (pc' := 35) (lo' := [some (.inr (.inr (some 195))), some (.inr (.inr (some 54)))]) (st' := [.inl 6, .inl 0, .inr (.inr (some 197)), .inl 0, .inr (.inr (some 56))]) rfl ?_
  refine r_copy2 (pc' := 38) (pc0 := 35) (len := 3) rfl (s_56 _) (s_197 _) (Or.inl rfl) (by omega) (by decide) (by decide) rfl ?_
  have hX_4 : XI (vcp (vcp (v2 v 195 0 (v 54 0)) 55 196 0 0 6) 56 197 0 0 6) := XI.cpy hX_3 (fun x h j => Exists.elim h (fun _ h => h))
  show WV _ _ _ 38 _ _ _ (vcp (vcp (v2 v 195 0 (v 54 0)) 55 196 0 0 6) 56 197 0 0 6) _
  refine r_ex 7 (pc' := 50) (lo' := [some (.inr (.inr (some 195))), some (.inr (.inr (some 54)))]) (st' := [.inl 6, .inl 0, .inr (.inr (some 198)), .inl 0, .inr (.inr (some 57))]) rfl ?_
  refine r_copy2 (pc' := 53) (pc0 := 50) (len := 3) rfl (s_57 _) (s_198 _) (Or.inl rfl) (by omega) (by decide) (by decide) rfl ?_
  have hX_5 : XI (vcp (vcp (vcp (v2 v 195 0 (v 54 0)) 55 196 0 0 6) 56 197 0 0 6) 57 198 0 0 6) := XI.cpy hX_4 (fun x h j => Exists.elim h (fun _ h => h))
  show WV _ _ _ 53 _ _ _ (vcp (vcp (vcp (v2 v 195 0 (v 54 0)) 55 196 0 0 6) 56 197 0 0 6) 57 198 0 0 6) _
  refine r_ret (rr := none) (I := .return_) (pc0 := 53) (len := 1) rfl rfl ?_
  exact hQ hX_5 

theorem e_cl_spTake195_54 {X : PX} {d b : Nat} {v : VS}  (hX : XI v)  : EvV X d 56 [.inr (.inr (some 195)), .inr (.inr (some 54))] b v none b (cl_spTake195_54 v) := EvV.of (w_cl_spTake195_54 hX  (fun _ => ⟨rfl, rfl, rfl⟩))

theorem i_cl_spTake195_54 {v : VS}  (hX : XI v)  : XI (cl_spTake195_54 v) := by
  have q : WV (0, fun _ => 0, none) 0 56 0 [some (.inr (.inr (some 195))), some (.inr (.inr (some 54)))] [] 1 v (fun _ _ _ => XI (cl_spTake195_54 v)) := w_cl_spTake195_54 (X := (0, fun _ => 0, none)) (d := 0) (b := 1) hX  (fun q => q)
  obtain ⟨_, _, _, _, _, _, _, q⟩ := q
  exact q

theorem o_cl_spTake195_54 {rk : Nat} {v : VS}  (hk : (rk < 195 ∨ 198 < rk)) : (cl_spTake195_54 v ) rk = v rk := by
  unfold cl_spTake195_54
  all_goals (show (vcp (vcp (vcp (v2 v 195 0 (v 54 0)) 55 196 0 0 6) 56 197 0 0 6) 57 198 0 0 6) rk = _)
  all_goals (rw [vcp_row (by omega), vcp_row (by omega), vcp_row (by omega), v2_row (by omega)])

def cl_spTake199_58 (v : VS)  : VS :=
  (vcp (vcp (vcp (v2 v 199 0 (v 58 0)) 59 200 0 0 6) 60 201 0 0 6) 61 202 0 0 6)
theorem w_cl_spTake199_58 {X : PX} {d b : Nat} {v : VS}  (hX : XI v)  {Q : Option PV → Nat → VS → Prop} (hQ : XI (cl_spTake199_58 v) → Q none b (cl_spTake199_58 v)) : WV X d 56 0 [some (.inr (.inr (some 199))), some (.inr (.inr (some 58)))] [] b v Q := by
  rw [cl_spTake199_58] at hQ
  refine r_ex 3 (pc' := 5) (lo' := [some (.inr (.inr (some 199))), some (.inr (.inr (some 58)))]) (st' := [.inl (v 58 0), .inr (.inr (some 199))]) rfl ?_
  have hb_1 : 0 ≤ (v 58 0) ∧ (v 58 0) ≤ 6 := hX 58 0
  refine r_puti2 (j := 0) (pc' := 8) (pc0 := 5) (len := 3) rfl (s_199 _) rfl rfl rfl (Or.inl rfl) rfl rfl ?_
  have hX_2 : XI (v2 v 199 0 (v 58 0)) := XI.put hX (show 0 ≤ (v 58 0) ∧ (v 58 0) ≤ 6 from (by first | assumption | omega | (unfold R32 at *; omega) | (unfold R64 at *; omega) | (simp only [R32, R64] at *; omega)))
  refine r_ex 7 (pc' := 20) (lo' := [some (.inr (.inr (some 199))), some (.inr (.inr (some 58)))]) (st' := [.inl 6, .inl 0, .inr (.inr (some 200)), .inl 0, .inr (.inr (some 59))]) rfl ?_
  refine r_copy2 (pc' := 23) (pc0 := 20) (len := 3) rfl (s_59 _) (s_200 _) (Or.inl rfl) (by omega) (by decide) (by decide) rfl ?_
  have hX_3 : XI (vcp (v2 v 199 0 (v 58 0)) 59 200 0 0 6) := XI.cpy hX_2 (fun x h j => Exists.elim h (fun _ h => h))
  show WV _ _ _ 23 _ _ _ (vcp (v2 v 199 0 (v 58 0)) 59 200 0 0 6) _
  refine r_ex 7 (pc' := 35) (lo' := [some (.inr (.inr (some 199))), some (.inr (.inr (some 58)))]) (st' := [.inl 6, .inl 0, .inr (.inr (some 201)), .inl 0, .inr (.inr (some 60))]) rfl ?_
  refine r_copy2 (pc' := 38) (pc0 := 35) (len := 3) rfl (s_60 _) (s_201 _) (Or.inl rfl) (by omega) (by decide) (by decide) rfl ?_
  have hX_4 : XI (vcp (vcp (v2 v 199 0 (v 58 0)) 59 200 0 0 6) 60 201 0 0 6) := XI.cpy hX_3 (fun x h j => Exists.elim h (fun _ h => h))
  show WV _ _ _ 38 _ _ _ (vcp (vcp (v2 v 199 0 (v 58 0)) 59 200 0 0 6) 60 201 0 0 6) _
  refine r_ex 7 (pc' := 50) (lo' := [some (.inr (.inr (some 199))), some (.inr (.inr (some 58)))]) (st' := [.inl 6, .inl 0, .inr (.inr (some 202)), .inl 0, .inr (.inr (some 61))]) rfl ?_
  refine r_copy2 (pc' := 53) (pc0 := 50) (len := 3) rfl (s_61 _) (s_202 _) (Or.inl rfl) (by omega) (by decide) (by decide) rfl ?_
  have hX_5 : XI (vcp (vcp (vcp (v2 v 199 0 (v 58 0)) 59 200 0 0 6) 60 201 0 0 6) 61 202 0 0 6) := XI.cpy hX_4 (fun x h j => Exists.elim h (fun _ h => h))
  show WV _ _ _ 53 _ _ _ (vcp (vcp (vcp (v2 v 199 0 (v 58 0)) 59 200 0 0 6) 60 201 0 0 6) 61 202 0 0 6) _
  refine r_ret (rr := none) (I := .return_) (pc0 := 53) (len := 1) rfl rfl ?_
  exact hQ hX_5 

theorem e_cl_spTake199_58 {X : PX} {d b : Nat} {v : VS}  (hX : XI v)  : EvV X d 56 [.inr (.inr (some 199)), .inr (.inr (some 58))] b v none b (cl_spTake199_58 v) := EvV.of (w_cl_spTake199_58 hX  (fun _ => ⟨rfl, rfl, rfl⟩))

theorem i_cl_spTake199_58 {v : VS}  (hX : XI v)  : XI (cl_spTake199_58 v) := by
  have q : WV (0, fun _ => 0, none) 0 56 0 [some (.inr (.inr (some 199))), some (.inr (.inr (some 58)))] [] 1 v (fun _ _ _ => XI (cl_spTake199_58 v)) := w_cl_spTake199_58 (X := (0, fun _ => 0, none)) (d := 0) (b := 1) hX  (fun q => q)
  obtain ⟨_, _, _, _, _, _, _, q⟩ := q
  exact q

theorem o_cl_spTake199_58 {rk : Nat} {v : VS}  (hk : (rk < 199 ∨ 202 < rk)) : (cl_spTake199_58 v ) rk = v rk := by
  unfold cl_spTake199_58
  all_goals (show (vcp (vcp (vcp (v2 v 199 0 (v 58 0)) 59 200 0 0 6) 60 201 0 0 6) 61 202 0 0 6) rk = _)
  all_goals (rw [vcp_row (by omega), vcp_row (by omega), vcp_row (by omega), v2_row (by omega)])

def cl_copy174_33 (v : VS)  : VS :=
  (cl_spTake199_58 (cl_spTake195_54 (cl_spTake191_50 (cl_spTake187_46 (cl_stTake174_33 (cl_eaTake174_33 (vcp (vcp (vcp (v2 (v2 (v2 (v2 (v2 (v2 v 174 0 (v 33 0)) 174 1 (v 33 1)) 174 2 (v 33 2)) 174 3 (v 33 3)) 174 4 (v 33 4)) 174 5 (v 33 5)) 34 175 0 0 9) 35 176 0 0 9) 36 177 0 0 9)))))))
theorem w_cl_copy174_33 {X : PX} {d b : Nat} {v : VS}  (hX : XI v)  {Q : Option PV → Nat → VS → Prop} (hQ : XI (cl_copy174_33 v) → Q none b (cl_copy174_33 v)) : WV X (d + 1) 53 0 [some (.inr (.inr (some 174))), some (.inr (.inr (some 33)))] [] b v Q := by
  rw [cl_copy174_33] at hQ
  refine r_ex 3 (pc' := 5) (lo' := [some (.inr (.inr (some 174))), some (.inr (.inr (some 33)))]) (st' := [.inl (v 33 0), .inr (.inr (some 174))]) rfl ?_
  have hb_1 : 0 ≤ (v 33 0) ∧ (v 33 0) ≤ 9 := hX 33 0
  refine r_puti2 (j := 0) (pc' := 8) (pc0 := 5) (len := 3) rfl (s_174 _) rfl rfl rfl (Or.inl rfl) rfl rfl ?_
  have hX_2 : XI (v2 v 174 0 (v 33 0)) := XI.put hX (show 0 ≤ (v 33 0) ∧ (v 33 0) ≤ 9 from (by first | assumption | omega | (unfold R32 at *; omega) | (unfold R64 at *; omega) | (simp only [R32, R64] at *; omega)))
  refine r_ex 3 (pc' := 13) (lo' := [some (.inr (.inr (some 174))), some (.inr (.inr (some 33)))]) (st' := [.inl (v 33 1), .inr (.inr (some 174))]) rfl ?_
  have hb_3 : 0 ≤ (v 33 1) ∧ (v 33 1) ≤ 300 := hX_2 33 1
  refine r_puti2 (j := 1) (pc' := 16) (pc0 := 13) (len := 3) rfl (s_174 _) rfl rfl rfl (Or.inl rfl) rfl rfl ?_
  have hX_4 : XI (v2 (v2 v 174 0 (v 33 0)) 174 1 (v 33 1)) := XI.put hX_2 (show 0 ≤ (v 33 1) ∧ (v 33 1) ≤ 300 from (by first | assumption | omega | (unfold R32 at *; omega) | (unfold R64 at *; omega) | (simp only [R32, R64] at *; omega)))
  refine r_ex 3 (pc' := 21) (lo' := [some (.inr (.inr (some 174))), some (.inr (.inr (some 33)))]) (st' := [.inl (v 33 2), .inr (.inr (some 174))]) rfl ?_
  have hb_5 : 0 ≤ (v 33 2) ∧ (v 33 2) ≤ 2001 := hX_4 33 2
  refine r_puti2 (j := 2) (pc' := 24) (pc0 := 21) (len := 3) rfl (s_174 _) rfl rfl rfl (Or.inl rfl) rfl rfl ?_
  have hX_6 : XI (v2 (v2 (v2 v 174 0 (v 33 0)) 174 1 (v 33 1)) 174 2 (v 33 2)) := XI.put hX_4 (show 0 ≤ (v 33 2) ∧ (v 33 2) ≤ 2001 from (by first | assumption | omega | (unfold R32 at *; omega) | (unfold R64 at *; omega) | (simp only [R32, R64] at *; omega)))
  refine r_ex 3 (pc' := 29) (lo' := [some (.inr (.inr (some 174))), some (.inr (.inr (some 33)))]) (st' := [.inl (v 33 3), .inr (.inr (some 174))]) rfl ?_
  have hb_7 : 0 ≤ (v 33 3) ∧ (v 33 3) ≤ 9 := hX_6 33 3
  refine r_puti2 (j := 3) (pc' := 32) (pc0 := 29) (len := 3) rfl (s_174 _) rfl rfl rfl (Or.inl rfl) rfl rfl ?_
  have hX_8 : XI (v2 (v2 (v2 (v2 v 174 0 (v 33 0)) 174 1 (v 33 1)) 174 2 (v 33 2)) 174 3 (v 33 3)) := XI.put hX_6 (show 0 ≤ (v 33 3) ∧ (v 33 3) ≤ 9 from (by first | assumption | omega | (unfold R32 at *; omega) | (unfold R64 at *; omega) | (simp only [R32, R64] at *; omega)))
  refine r_ex 3 (pc' := 37) (lo' := [some (.inr (.inr (some 174))), some (.inr (.inr (some 33)))]) (st' := [.inl (v 33 4), .inr (.inr (some 174))]) rfl ?_
  have hb_9 : 0 ≤ (v 33 4) ∧ (v 33 4) ≤ 511 := hX_8 33 4
  refine r_puti2 (j := 4) (pc' := 40) (pc0 := 37) (len := 3) rfl (s_174 _) rfl rfl rfl (Or.inl rfl) rfl rfl ?_
  have hX_10 : XI (v2 (v2 (v2 (v2 (v2 v 174 0 (v 33 0)) 174 1 (v 33 1)) 174 2 (v 33 2)) 174 3 (v 33 3)) 174 4 (v 33 4)) := XI.put hX_8 (show 0 ≤ (v 33 4) ∧ (v 33 4) ≤ 511 from (by first | assumption | omega | (unfold R32 at *; omega) | (unfold R64 at *; omega) | (simp only [R32, R64] at *; omega)))
  refine r_ex 3 (pc' := 45) (lo' := [some (.inr (.inr (some 174))), some (.inr (.inr (some 33)))]) (st' := [.inl (v 33 5), .inr (.inr (some 174))]) rfl ?_
  have hb_11 : 0 ≤ (v 33 5) ∧ (v 33 5) ≤ 4095 := hX_10 33 5
  refine r_puti2 (j := 5) (pc' := 48) (pc0 := 45) (len := 3) rfl (s_174 _) rfl rfl rfl (Or.inl rfl) rfl rfl ?_
  have hX_12 : XI (v2 (v2 (v2 (v2 (v2 (v2 v 174 0 (v 33 0)) 174 1 (v 33 1)) 174 2 (v 33 2)) 174 3 (v 33 3)) 174 4 (v 33 4)) 174 5 (v 33 5)) := XI.put hX_10 (show 0 ≤ (v 33 5) ∧ (v 33 5) ≤ 4095 from (by first | assumption | omega | (unfold R32 at *; omega) | (unfold R64 at *; omega) | (simp only [R32, R64] at *; omega)))
  refine r_ex 7 (pc' := 60) (lo' := [some (.inr (.inr (some 174))), some (.inr (.inr (some 33)))]) (st' := [.inl 9, .inl 0, .inr (.inr (some 175)), .inl 0, .inr (.inr (some 34))]) rfl ?_
  refine r_copy2 (pc' := 63) (pc0 := 60) (len := 3) rfl (s_34 _) (s_175 _) (Or.inl rfl) (by omega) (by decide) (by decide) rfl ?_
  have hX_13 : XI (vcp (v2 (v2 (v2 (v2 (v2 (v2 v 174 0 (v 33 0)) 174 1 (v 33 1)) 174 2 (v 33 2)) 174 3 (v 33 3)) 174 4 (v 33 4)) 174 5 (v 33 5)) 34 175 0 0 9) := XI.cpy hX_12 (fun x h j => Exists.elim h (fun _ h => h))
  show WV _ _ _ 63 _ _ _ (vcp (v2 (v2 (v2 (v2 (v2 (v2 v 174 0 (v 33 0)) 174 1 (v 33 1)) 174 2 (v 33 2)) 174 3 (v 33 3)) 174 4 (v 33 4)) 174 5 (v 33 5)) 34 175 0 0 9) _
  refine r_ex 7 (pc' := 75) (lo' := [some (.inr (.inr (some 174))), some (.inr (.inr (some 33)))]) (st' := [.inl 9, .inl 0, .inr (.inr (some 176)), .inl 0, .inr (.inr (some 35))]) rfl ?_
  refine r_copy2 (pc' := 78) (pc0 := 75) (len := 3) rfl (s_35 _) (s_176 _) (Or.inl rfl) (by omega) (by decide) (by decide) rfl ?_
  have hX_14 : XI (vcp (vcp (v2 (v2 (v2 (v2 (v2 (v2 v 174 0 (v 33 0)) 174 1 (v 33 1)) 174 2 (v 33 2)) 174 3 (v 33 3)) 174 4 (v 33 4)) 174 5 (v 33 5)) 34 175 0 0 9) 35 176 0 0 9) := XI.cpy hX_13 (fun x h j => Exists.elim h (fun _ h => h))
  show WV _ _ _ 78 _ _ _ (vcp (vcp (v2 (v2 (v2 (v2 (v2 (v2 v 174 0 (v 33 0)) 174 1 (v 33 1)) 174 2 (v 33 2)) 174 3 (v 33 3)) 174 4 (v 33 4)) 174 5 (v 33 5)) 34 175 0 0 9) 35 176 0 0 9) _
  refine r_ex 7 (pc' := 90) (lo' := [some (.inr (.inr (some 174))), some (.inr (.inr (some 33)))]) (st' := [.inl 9, .inl 0, .inr (.inr (some 177)), .inl 0, .inr (.inr (some 36))]) rfl ?_
  refine r_copy2 (pc' := 93) (pc0 := 90) (len := 3) rfl (s_36 _) (s_177 _) (Or.inl rfl) (by omega) (by decide) (by decide) rfl ?_
  have hX_15 : XI (vcp (vcp (vcp (v2 (v2 (v2 (v2 (v2 (v2 v 174 0 (v 33 0)) 174 1 (v 33 1)) 174 2 (v 33 2)) 174 3 (v 33 3)) 174 4 (v 33 4)) 174 5 (v 33 5)) 34 175 0 0 9) 35 176 0 0 9) 36 177 0 0 9) := XI.cpy hX_14 (fun x h j => Exists.elim h (fun _ h => h))
  show WV _ _ _ 93 _ _ _ (vcp (vcp (vcp (v2 (v2 (v2 (v2 (v2 (v2 v 174 0 (v 33 0)) 174 1 (v 33 1)) 174 2 (v 33 2)) 174 3 (v 33 3)) 174 4 (v 33 4)) 174 5 (v 33 5)) 34 175 0 0 9) 35 176 0 0 9) 36 177 0 0 9) _
  refine r_ex 4 (pc' := 101) (lo' := [some (.inr (.inr (some 174))), some (.inr (.inr (some 33)))]) (st' := [.inr (.inr (some 37)), .inr (.inr (some 178))]) rfl ?_
  refine r_call (m := 54) (args := [.inr (.inr (some 178)), .inr (.inr (some 37))]) (n' := 53) (pc' := 104) (lo' := [some (.inr (.inr (some 174))), some (.inr (.inr (some 33)))]) (st' := []) (I := .invokevirtual 54) (pc0 := 101) (len := 3) rfl rfl rfl (e_cl_eaTake174_33 hX_15) ?_
  show WV _ _ _ 104 _ [] _ (cl_eaTake174_33 (vcp (vcp (vcp (v2 (v2 (v2 (v2 (v2 (v2 v 174 0 (v 33 0)) 174 1 (v 33 1)) 174 2 (v 33 2)) 174 3 (v 33 3)) 174 4 (v 33 4)) 174 5 (v 33 5)) 34 175 0 0 9) 35 176 0 0 9) 36 177 0 0 9)) _
  have hX_16 : XI (cl_eaTake174_33 (vcp (vcp (vcp (v2 (v2 (v2 (v2 (v2 (v2 v 174 0 (v 33 0)) 174 1 (v 33 1)) 174 2 (v 33 2)) 174 3 (v 33 3)) 174 4 (v 33 4)) 174 5 (v 33 5)) 34 175 0 0 9) 35 176 0 0 9) 36 177 0 0 9)) := i_cl_eaTake174_33 (v := (vcp (vcp (vcp (v2 (v2 (v2 (v2 (v2 (v2 v 174 0 (v 33 0)) 174 1 (v 33 1)) 174 2 (v 33 2)) 174 3 (v 33 3)) 174 4 (v 33 4)) 174 5 (v 33 5)) 34 175 0 0 9) 35 176 0 0 9) 36 177 0 0 9)) hX_15
  refine r_ex 4 (pc' := 112) (lo' := [some (.inr (.inr (some 174))), some (.inr (.inr (some 33)))]) (st' := [.inr (.inr (some 42)), .inr (.inr (some 183))]) rfl ?_
  refine r_call (m := 55) (args := [.inr (.inr (some 183)), .inr (.inr (some 42))]) (n' := 53) (pc' := 115) (lo' := [some (.inr (.inr (some 174))), some (.inr (.inr (some 33)))]) (st' := []) (I := .invokevirtual 55) (pc0 := 112) (len := 3) rfl rfl rfl (e_cl_stTake174_33 hX_16) ?_
  show WV _ _ _ 115 _ [] _ (cl_stTake174_33 (cl_eaTake174_33 (vcp (vcp (vcp (v2 (v2 (v2 (v2 (v2 (v2 v 174 0 (v 33 0)) 174 1 (v 33 1)) 174 2 (v 33 2)) 174 3 (v 33 3)) 174 4 (v 33 4)) 174 5 (v 33 5)) 34 175 0 0 9) 35 176 0 0 9) 36 177 0 0 9))) _
  have hX_17 : XI (cl_stTake174_33 (cl_eaTake174_33 (vcp (vcp (vcp (v2 (v2 (v2 (v2 (v2 (v2 v 174 0 (v 33 0)) 174 1 (v 33 1)) 174 2 (v 33 2)) 174 3 (v 33 3)) 174 4 (v 33 4)) 174 5 (v 33 5)) 34 175 0 0 9) 35 176 0 0 9) 36 177 0 0 9))) := i_cl_stTake174_33 (v := (cl_eaTake174_33 (vcp (vcp (vcp (v2 (v2 (v2 (v2 (v2 (v2 v 174 0 (v 33 0)) 174 1 (v 33 1)) 174 2 (v 33 2)) 174 3 (v 33 3)) 174 4 (v 33 4)) 174 5 (v 33 5)) 34 175 0 0 9) 35 176 0 0 9) 36 177 0 0 9))) hX_16
  refine r_ex 4 (pc' := 123) (lo' := [some (.inr (.inr (some 174))), some (.inr (.inr (some 33)))]) (st' := [.inr (.inr (some 46)), .inr (.inr (some 187))]) rfl ?_
  refine r_call (m := 56) (args := [.inr (.inr (some 187)), .inr (.inr (some 46))]) (n' := 53) (pc' := 126) (lo' := [some (.inr (.inr (some 174))), some (.inr (.inr (some 33)))]) (st' := []) (I := .invokevirtual 56) (pc0 := 123) (len := 3) rfl rfl rfl (e_cl_spTake187_46 hX_17) ?_
  show WV _ _ _ 126 _ [] _ (cl_spTake187_46 (cl_stTake174_33 (cl_eaTake174_33 (vcp (vcp (vcp (v2 (v2 (v2 (v2 (v2 (v2 v 174 0 (v 33 0)) 174 1 (v 33 1)) 174 2 (v 33 2)) 174 3 (v 33 3)) 174 4 (v 33 4)) 174 5 (v 33 5)) 34 175 0 0 9) 35 176 0 0 9) 36 177 0 0 9)))) _
  have hX_18 : XI (cl_spTake187_46 (cl_stTake174_33 (cl_eaTake174_33 (vcp (vcp (vcp (v2 (v2 (v2 (v2 (v2 (v2 v 174 0 (v 33 0)) 174 1 (v 33 1)) 174 2 (v 33 2)) 174 3 (v 33 3)) 174 4 (v 33 4)) 174 5 (v 33 5)) 34 175 0 0 9) 35 176 0 0 9) 36 177 0 0 9)))) := i_cl_spTake187_46 (v := (cl_stTake174_33 (cl_eaTake174_33 (vcp (vcp (vcp (v2 (v2 (v2 (v2 (v2 (v2 v 174 0 (v 33 0)) 174 1 (v 33 1)) 174 2 (v 33 2)) 174 3 (v 33 3)) 174 4 (v 33 4)) 174 5 (v 33 5)) 34 175 0 0 9) 35 176 0 0 9) 36 177 0 0 9)))) hX_17
  refine r_ex 4 (pc' := 134) (lo' := [some (.inr (.inr (some 174))), some (.inr (.inr (some 33)))]) (st' := [.inr (.inr (some 50)), .inr (.inr (some 191))]) rfl ?_
  refine r_call (m := 56) (args := [.inr (.inr (some 191)), .inr (.inr (some 50))]) (n' := 53) (pc' := 137) (lo' := [some (.inr (.inr (some 174))), some (.inr (.inr (some 33)))]) (st' := []) (I := .invokevirtual 56) (pc0 := 134) (len := 3) rfl rfl rfl (e_cl_spTake191_50 hX_18) ?_
  show WV _ _ _ 137 _ [] _ (cl_spTake191_50 (cl_spTake187_46 (cl_stTake174_33 (cl_eaTake174_33 (vcp (vcp (vcp (v2 (v2 (v2 (v2 (v2 (v2 v 174 0 (v 33 0)) 174 1 (v 33 1)) 174 2 (v 33 2)) 174 3 (v 33 3)) 174 4 (v 33 4)) 174 5 (v 33 5)) 34 175 0 0 9) 35 176 0 0 9) 36 177 0 0 9))))) _
  have hX_19 : XI (cl_spTake191_50 (cl_spTake187_46 (cl_stTake174_33 (cl_eaTake174_33 (vcp (vcp (vcp (v2 (v2 (v2 (v2 (v2 (v2 v 174 0 (v 33 0)) 174 1 (v 33 1)) 174 2 (v 33 2)) 174 3 (v 33 3)) 174 4 (v 33 4)) 174 5 (v 33 5)) 34 175 0 0 9) 35 176 0 0 9) 36 177 0 0 9))))) := i_cl_spTake191_50 (v := (cl_spTake187_46 (cl_stTake174_33 (cl_eaTake174_33 (vcp (vcp (vcp (v2 (v2 (v2 (v2 (v2 (v2 v 174 0 (v 33 0)) 174 1 (v 33 1)) 174 2 (v 33 2)) 174 3 (v 33 3)) 174 4 (v 33 4)) 174 5 (v 33 5)) 34 175 0 0 9) 35 176 0 0 9) 36 177 0 0 9))))) hX_18
  refine r_ex 4 (pc' := 145) (lo' := [some (.inr (.inr (some 174))), some (.inr (.inr (some 33)))]) (st' := [.inr (.inr (some 54)), .inr (.inr (some 195))]) rfl ?_
  refine r_call (m := 56) (args := [.inr (.inr (some 195)), .inr (.inr (some 54))]) (n' := 53) (pc' := 148) (lo' := [some (.inr (.inr (some 174))), some (.inr (.inr (some 33)))]) (st' := []) (I := .invokevirtual 56) (pc0 := 145) (len := 3) rfl rfl rfl (e_cl_spTake195_54 hX_19) ?_
  show WV _ _ _ 148 _ [] _ (cl_spTake195_54 (cl_spTake191_50 (cl_spTake187_46 (cl_stTake174_33 (cl_eaTake174_33 (vcp (vcp (vcp (v2 (v2 (v2 (v2 (v2 (v2 v 174 0 (v 33 0)) 174 1 (v 33 1)) 174 2 (v 33 2)) 174 3 (v 33 3)) 174 4 (v 33 4)) 174 5 (v 33 5)) 34 175 0 0 9) 35 176 0 0 9) 36 177 0 0 9)))))) _
  have hX_20 : XI (cl_spTake195_54 (cl_spTake191_50 (cl_spTake187_46 (cl_stTake174_33 (cl_eaTake174_33 (vcp (vcp (vcp (v2 (v2 (v2 (v2 (v2 (v2 v 174 0 (v 33 0)) 174 1 (v 33 1)) 174 2 (v 33 2)) 174 3 (v 33 3)) 174 4 (v 33 4)) 174 5 (v 33 5)) 34 175 0 0 9) 35 176 0 0 9) 36 177 0 0 9)))))) := i_cl_spTake195_54 (v := (cl_spTake191_50 (cl_spTake187_46 (cl_stTake174_33 (cl_eaTake174_33 (vcp (vcp (vcp (v2 (v2 (v2 (v2 (v2 (v2 v 174 0 (v 33 0)) 174 1 (v 33 1)) 174 2 (v 33 2)) 174 3 (v 33 3)) 174 4 (v 33 4)) 174 5 (v 33 5)) 34 175 0 0 9) 35 176 0 0 9) 36 177 0 0 9)))))) hX_19
  refine r_ex 4 (pc' := 156) (lo' := [some (.inr (.inr (some 174))), some (.inr (.inr (some 33)))]) (st' := [.inr (.inr (some 58)), .inr (.inr (some 199))]) rfl ?_
  refine r_call (m := 56) (args := [.inr (.inr (some 199)), .inr (.inr (some 58))]) (n' := 53) (pc' := 159) (lo' := [some (.inr (.inr (some 174))), some (.inr (.inr (some 33)))]) (st' := []) (I := .invokevirtual 56) (pc0 := 156) (len := 3) rfl rfl rfl (e_cl_spTake199_58 hX_20) ?_
  show WV _ _ _ 159 _ [] _ (cl_spTake199_58 (cl_spTake195_54 (cl_spTake191_50 (cl_spTake187_46 (cl_stTake174_33 (cl_eaTake174_33 (vcp (vcp (vcp (v2 (v2 (v2 (v2 (v2 (v2 v 174 0 (v 33 0)) 174 1 (v 33 1)) 174 2 (v 33 2)) 174 3 (v 33 3)) 174 4 (v 33 4)) 174 5 (v 33 5)) 34 175 0 0 9) 35 176 0 0 9) 36 177 0 0 9))))))) _
  have hX_21 : XI (cl_spTake199_58 (cl_spTake195_54 (cl_spTake191_50 (cl_spTake187_46 (cl_stTake174_33 (cl_eaTake174_33 (vcp (vcp (vcp (v2 (v2 (v2 (v2 (v2 (v2 v 174 0 (v 33 0)) 174 1 (v 33 1)) 174 2 (v 33 2)) 174 3 (v 33 3)) 174 4 (v 33 4)) 174 5 (v 33 5)) 34 175 0 0 9) 35 176 0 0 9) 36 177 0 0 9))))))) := i_cl_spTake199_58 (v := (cl_spTake195_54 (cl_spTake191_50 (cl_spTake187_46 (cl_stTake174_33 (cl_eaTake174_33 (vcp (vcp (vcp (v2 (v2 (v2 (v2 (v2 (v2 v 174 0 (v 33 0)) 174 1 (v 33 1)) 174 2 (v 33 2)) 174 3 (v 33 3)) 174 4 (v 33 4)) 174 5 (v 33 5)) 34 175 0 0 9) 35 176 0 0 9) 36 177 0 0 9))))))) hX_20
  refine r_ret (rr := none) (I := .return_) (pc0 := 159) (len := 1) rfl rfl ?_
  exact hQ hX_21 

theorem e_cl_copy174_33 {X : PX} {d b : Nat} {v : VS}  (hX : XI v)  : EvV X (d + 1) 53 [.inr (.inr (some 174)), .inr (.inr (some 33))] b v none b (cl_copy174_33 v) := EvV.of (w_cl_copy174_33 hX  (fun _ => ⟨rfl, rfl, rfl⟩))

theorem i_cl_copy174_33 {v : VS}  (hX : XI v)  : XI (cl_copy174_33 v) := by
  have q : WV (0, fun _ => 0, none) (0 + 1) 53 0 [some (.inr (.inr (some 174))), some (.inr (.inr (some 33)))] [] 1 v (fun _ _ _ => XI (cl_copy174_33 v)) := w_cl_copy174_33 (X := (0, fun _ => 0, none)) (d := 0) (b := 1) hX  (fun q => q)
  obtain ⟨_, _, _, _, _, _, _, q⟩ := q
  exact q

theorem o_cl_copy174_33 {rk : Nat} {v : VS}  (hk : (rk < 174 ∨ 202 < rk)) : (cl_copy174_33 v ) rk = v rk := by
  unfold cl_copy174_33
  all_goals (show (cl_spTake199_58 (cl_spTake195_54 (cl_spTake191_50 (cl_spTake187_46 (cl_stTake174_33 (cl_eaTake174_33 (vcp (vcp (vcp (v2 (v2 (v2 (v2 (v2 (v2 v 174 0 (v 33 0)) 174 1 (v 33 1)) 174 2 (v 33 2)) 174 3 (v 33 3)) 174 4 (v 33 4)) 174 5 (v 33 5)) 34 175 0 0 9) 35 176 0 0 9) 36 177 0 0 9))))))) rk = _)
  all_goals (rw [o_cl_spTake199_58 (by omega), o_cl_spTake195_54 (by omega), o_cl_spTake191_50 (by omega), o_cl_spTake187_46 (by omega), o_cl_stTake174_33 (by omega), o_cl_eaTake174_33 (by omega), vcp_row (by omega), vcp_row (by omega), vcp_row (by omega), v2_row (by omega), v2_row (by omega), v2_row (by omega), v2_row (by omega), v2_row (by omega), v2_row (by omega)])
