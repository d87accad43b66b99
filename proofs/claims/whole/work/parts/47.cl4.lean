/-! what is asked of the run, II -/
theorem clr_in {x c : Int} {k : Nat} (hx : 0 ≤ x ∧ x < 2 ^ k) : 0 ≤ clrb x c ∧ clrb x c < 2 ^ k := by
  unfold clrb
  split
  · rename_i h
    unfold bt at h
    have hp : (0 : Int) < 2 ^ c.toNat := Int.pow_pos (by omega)
    have h1 : x / 2 ^ c.toNat ≠ 0 := by intro q; rw [q] at h; omega
    have h2 : 0 ≤ x / 2 ^ c.toNat := Int.ediv_nonneg hx.1 (by omega)
    have h3 := Int.mul_ediv_add_emod x (2 ^ c.toNat)
    have h4 : 0 ≤ x % 2 ^ c.toNat := Int.emod_nonneg x (by omega)
    have h5 : 2 ^ c.toNat * 1 ≤ 2 ^ c.toNat * (x / 2 ^ c.toNat) := Int.mul_le_mul_of_nonneg_left (by omega) (by omega)
    omega
  · exact hx
theorem wb_in {v : VS} {x c s : Int} {k : Nat} (hx : 0 ≤ x ∧ x < 2 ^ k) (hc : 0 ≤ c ∧ c < k) : 0 ≤ cl_withBit v x c s ∧ cl_withBit v x c s < 2 ^ k := by
  unfold cl_withBit
  split
  · exact setb_in hx hc
  · exact clr_in hx

def cl_muffle (v : VS) (c : Int) (i : Int) : Int × VS :=
  (if 0 ≤ c ∧ c < v 33 0 then (if i < 0 then ((-2), v) else (if 1 < i then ((-2), v) else ((cl_bit v (v 33 4) c), (v2 (v2 v 33 4 (cl_withBit v (v 33 4) c i)) 0 10 1)))) else ((-2), v))
theorem w_cl_muffle {X : PX} {d b : Nat} {v : VS} {c : Int} {i : Int} (hX : XI v) (hp_a : R32 c) (hp_b : R32 i) {Q : Option PV → Nat → VS → Prop} (hQ : XI (cl_muffle v c i).2 → Q (some (.inl (cl_muffle v c i).1)) b (cl_muffle v c i).2) : WV X (d + 1) 106 0 [some (.inr (.inr (some 0))), some (.inl c), some (.inl i), none] [] b v Q := by
  rw [cl_muffle] at hQ
  refine r_ex 2 (pc' := 2) (lo' := [some (.inr (.inr (some 0))), some (.inl c), some (.inl i), none]) (st' := [.inl c, .inr (.inr (some 0))]) rfl ?_
  have hp_1 : R32 c := (by first | assumption | omega | (unfold R32 at *; omega) | (unfold R64 at *; omega) | (simp only [R32, R64] at *; omega))
  have hb_2 : 0 ≤ v 33 0 ∧ v 33 0 ≤ 9 := hX 33 0
  refine r_callb (P := 0 ≤ c ∧ c < v 33 0) (m := 62) (args := [.inr (.inr (some 0)), .inl c]) (n' := 106) (pc' := 5) (lo' := [some (.inr (.inr (some 0))), some (.inl c), some (.inl i), none]) (st' := []) (I := .invokevirtual 62) (pc0 := 2) (len := 3) rfl rfl rfl (e_cl_isChurch hX hp_1) (fun h_2 => ?_) (fun h_2 => ?_)
  · show WV _ _ _ 5 _ _ _ _ _
    rw [if_pos h_2] at hQ
    refine r_ex 2 (pc' := 9) (lo' := [some (.inr (.inr (some 0))), some (.inl c), some (.inl i), none]) (st' := [.inl i]) rfl ?_
    refine n_if_lt (pc0 := 9) (len := 3) (t := 17) rfl (by first | assumption | omega | (unfold R32 at *; omega) | (unfold R64 at *; omega) | (simp only [R32, R64] at *; omega)) (fun h_9 => ?_) (fun h_9 => ?_)
    · show WV _ _ _ 17 _ _ _ _ _
      rw [if_pos h_9] at hQ
      refine r_ex 1 (pc' := 19) (lo' := [some (.inr (.inr (some 0))), some (.inl c), some (.inl i), none]) (st' := [.inl (-2)]) rfl ?_
      refine r_ret (rr := some (.inl (-2))) (I := .ireturn) (pc0 := 19) (len := 1) rfl rfl ?_
      exact hQ hX 
    · show WV _ _ _ 12 _ _ _ _ _
      rw [if_neg h_9] at hQ
      refine r_ex 2 (pc' := 14) (lo' := [some (.inr (.inr (some 0))), some (.inl c), some (.inl i), none]) (st' := [.inl 1, .inl i]) rfl ?_
      refine n_ic_le (pc0 := 14) (len := 3) (t := 20) rfl (by first | assumption | omega | (unfold R32 at *; omega) | (unfold R64 at *; omega) | (simp only [R32, R64] at *; omega)) (by first | assumption | omega | (unfold R32 at *; omega) | (unfold R64 at *; omega) | (simp only [R32, R64] at *; omega)) (fun h_14 => ?_) (fun h_14 => ?_)
      · show WV _ _ _ 20 _ _ _ _ _
        rw [if_neg h_14] at hQ
        refine r_ex 4 (pc' := 28) (lo' := [some (.inr (.inr (some 0))), some (.inl c), some (.inl i), none]) (st' := [.inl c, .inl (v 33 4)]) rfl ?_
        have hb_3 : 0 ≤ (v 33 4) ∧ (v 33 4) ≤ 511 := hX 33 4
        have hp_4 : 0 ≤ (v 33 4) ∧ (v 33 4) < 4096 := (by first | assumption | omega | (unfold R32 at *; omega) | (unfold R64 at *; omega) | (simp only [R32, R64] at *; omega))
        have hp_5 : 0 ≤ c ∧ c < 12 := (by first | assumption | omega | (unfold R32 at *; omega) | (unfold R64 at *; omega) | (simp only [R32, R64] at *; omega))
        refine r_call (m := 63) (args := [.inl (v 33 4), .inl c]) (n' := 106) (pc' := 31) (lo' := [some (.inr (.inr (some 0))), some (.inl c), some (.inl i), none]) (st' := []) (I := .invokestatic 63) (pc0 := 28) (len := 3) rfl rfl rfl (e_cl_bit hX hp_4 hp_5) ?_
        show WV _ _ _ 31 _ [.inl (cl_bit v (v 33 4) c)] _ _ _
        have hb_6 := n_cl_bit (v := v) (c := (v 33 4)) (k := c) hX hp_4 hp_5
        refine r_ex 8 (pc' := 45) (lo' := [some (.inr (.inr (some 0))), some (.inl c), some (.inl i), some (.inl (cl_bit v (v 33 4) c))]) (st' := [.inl i, .inl c, .inl (v 33 4), .inr (.inr (some 33))]) rfl ?_
        have hp_7 : 0 ≤ (v 33 4) ∧ (v 33 4) < 4096 := (by first | assumption | omega | (unfold R32 at *; omega) | (unfold R64 at *; omega) | (simp only [R32, R64] at *; omega))
        have hp_8 : 0 ≤ c ∧ c < 12 := (by first | assumption | omega | (unfold R32 at *; omega) | (unfold R64 at *; omega) | (simp only [R32, R64] at *; omega))
        have hp_9 : R32 i := (by first | assumption | omega | (unfold R32 at *; omega) | (unfold R64 at *; omega) | (simp only [R32, R64] at *; omega))
        refine r_call (m := 107) (args := [.inl (v 33 4), .inl c, .inl i]) (n' := 106) (pc' := 48) (lo' := [some (.inr (.inr (some 0))), some (.inl c), some (.inl i), some (.inl (cl_bit v (v 33 4) c))]) (st' := [.inr (.inr (some 33))]) (I := .invokestatic 107) (pc0 := 45) (len := 3) rfl rfl rfl (e_cl_withBit hX hp_7 hp_8 hp_9) ?_
        show WV _ _ _ 48 _ [.inl (cl_withBit v (v 33 4) c i), .inr (.inr (some 33))] _ _ _
        have hwb := wb_in (v := v) (x := v 33 4) (c := c) (s := i) (k := 9) (by omega) (by omega)
        refine r_puti2 (j := 4) (pc' := 51) (pc0 := 48) (len := 3) rfl (s_33 _) rfl rfl rfl (Or.inl rfl) rfl rfl ?_
        have hX_10 : XI (v2 v 33 4 (cl_withBit v (v 33 4) c i)) := XI.put hX (show 0 ≤ (cl_withBit v (v 33 4) c i) ∧ (cl_withBit v (v 33 4) c i) ≤ 511 from (by first | assumption | omega | (unfold R32 at *; omega) | (unfold R64 at *; omega) | (simp only [R32, R64] at *; omega)))
        refine r_ex 2 (pc' := 53) (lo' := [some (.inr (.inr (some 0))), some (.inl c), some (.inl i), some (.inl (cl_bit v (v 33 4) c))]) (st' := [.inl 1, .inr (.inr (some 0))]) rfl ?_
        refine r_puti2 (j := 10) (pc' := 56) (pc0 := 53) (len := 3) rfl (s_0 _) rfl rfl rfl (Or.inr rfl) rfl rfl ?_
        have hX_11 : XI (v2 (v2 v 33 4 (cl_withBit v (v 33 4) c i)) 0 10 1) := XI.put hX_10 (show 0 ≤ 1 ∧ 1 ≤ 1 from (by first | assumption | omega | (unfold R32 at *; omega) | (unfold R64 at *; omega) | (simp only [R32, R64] at *; omega)))
        refine r_ex 1 (pc' := 57) (lo' := [some (.inr (.inr (some 0))), some (.inl c), some (.inl i), some (.inl (cl_bit v (v 33 4) c))]) (st' := [.inl (cl_bit v (v 33 4) c)]) rfl ?_
        refine r_ret (rr := some (.inl (cl_bit v (v 33 4) c))) (I := .ireturn) (pc0 := 57) (len := 1) rfl rfl ?_
        exact hQ hX_11 
      · show WV _ _ _ 17 _ _ _ _ _
        rw [if_pos h_14] at hQ
        refine r_ex 1 (pc' := 19) (lo' := [some (.inr (.inr (some 0))), some (.inl c), some (.inl i), none]) (st' := [.inl (-2)]) rfl ?_
        refine r_ret (rr := some (.inl (-2))) (I := .ireturn) (pc0 := 19) (len := 1) rfl rfl ?_
        exact hQ hX 
  · show WV _ _ _ 5 _ _ _ _ _
    rw [if_neg h_2] at hQ
    refine r_ex 2 (pc' := 19) (lo' := [some (.inr (.inr (some 0))), some (.inl c), some (.inl i), none]) (st' := [.inl (-2)]) rfl ?_
    refine r_ret (rr := some (.inl (-2))) (I := .ireturn) (pc0 := 19) (len := 1) rfl rfl ?_
    exact hQ hX 

theorem e_cl_muffle {X : PX} {d b : Nat} {v : VS} {c : Int} {i : Int} (hX : XI v) (hp_a : R32 c) (hp_b : R32 i) : EvV X (d + 1) 106 [.inr (.inr (some 0)), .inl c, .inl i] b v (some (.inl (cl_muffle v c i).1)) b ((cl_muffle v c i).2) := EvV.of (w_cl_muffle hX hp_a hp_b (fun _ => ⟨rfl, rfl, rfl⟩))

theorem i_cl_muffle {v : VS} {c : Int} {i : Int} (hX : XI v) (hp_a : R32 c) (hp_b : R32 i) : XI ((cl_muffle v c i).2) := by
  have q : WV (0, fun _ => 0, none) (0 + 1) 106 0 [some (.inr (.inr (some 0))), some (.inl c), some (.inl i), none] [] 1 v (fun _ _ _ => XI ((cl_muffle v c i).2)) := w_cl_muffle (X := (0, fun _ => 0, none)) (d := 0) (b := 1) hX hp_a hp_b (fun q => q)
  obtain ⟨_, _, _, _, _, _, _, q⟩ := q
  exact q

theorem o_cl_muffle {rk : Nat} {v : VS} {c : Int} {i : Int} (hk : (rk < 0 ∨ 0 < rk) ∧ (rk < 33 ∨ 33 < rk)) : (cl_muffle v c i).2 rk = v rk := by
  unfold cl_muffle
  by_cases hc_ : 0 ≤ c ∧ c < v 33 0
  · rw [if_pos hc_]
    by_cases hc_ : i < 0
    · rw [if_pos hc_]
      all_goals (show v rk = _)
      all_goals rfl
    · rw [if_neg hc_]
      by_cases hc_ : 1 < i
      · rw [if_pos hc_]
        all_goals (show v rk = _)
        all_goals rfl
      · rw [if_neg hc_]
        all_goals (show (v2 (v2 v 33 4 (cl_withBit v (v 33 4) c i)) 0 10 1) rk = _)
        all_goals (rw [v2_row (by omega), v2_row (by omega)])
  · rw [if_neg hc_]
    all_goals (show v rk = _)
    all_goals rfl

def cl_cut (v : VS) (c : Int) (i : Int) : Int × VS :=
  (if 0 ≤ c ∧ c < v 37 0 then (if i < 0 then ((-2), v) else (if 1 < i then ((-2), v) else ((cl_bit v (v 33 5) c), (v2 (v2 v 33 5 (cl_withBit v (v 33 5) c i)) 0 10 1)))) else ((-2), v))
theorem w_cl_cut {X : PX} {d b : Nat} {v : VS} {c : Int} {i : Int} (hX : XI v) (hp_a : R32 c) (hp_b : R32 i) {Q : Option PV → Nat → VS → Prop} (hQ : XI (cl_cut v c i).2 → Q (some (.inl (cl_cut v c i).1)) b (cl_cut v c i).2) : WV X (d + 1) 108 0 [some (.inr (.inr (some 0))), some (.inl c), some (.inl i), none] [] b v Q := by
  rw [cl_cut] at hQ
  refine r_ex 2 (pc' := 2) (lo' := [some (.inr (.inr (some 0))), some (.inl c), some (.inl i), none]) (st' := [.inl c, .inr (.inr (some 0))]) rfl ?_
  have hp_1 : R32 c := (by first | assumption | omega | (unfold R32 at *; omega) | (unfold R64 at *; omega) | (simp only [R32, R64] at *; omega))
  have hb_2 : 0 ≤ v 37 0 ∧ v 37 0 ≤ 12 := hX 37 0
  refine r_callb (P := 0 ≤ c ∧ c < v 37 0) (m := 65) (args := [.inr (.inr (some 0)), .inl c]) (n' := 108) (pc' := 5) (lo' := [some (.inr (.inr (some 0))), some (.inl c), some (.inl i), none]) (st' := []) (I := .invokevirtual 65) (pc0 := 2) (len := 3) rfl rfl rfl (e_cl_isEar hX hp_1) (fun h_2 => ?_) (fun h_2 => ?_)
  · show WV _ _ _ 5 _ _ _ _ _
    rw [if_pos h_2] at hQ
    refine r_ex 2 (pc' := 9) (lo' := [some (.inr (.inr (some 0))), some (.inl c), some (.inl i), none]) (st' := [.inl i]) rfl ?_
    refine n_if_lt (pc0 := 9) (len := 3) (t := 17) rfl (by first | assumption | omega | (unfold R32 at *; omega) | (unfold R64 at *; omega) | (simp only [R32, R64] at *; omega)) (fun h_9 => ?_) (fun h_9 => ?_)
    · show WV _ _ _ 17 _ _ _ _ _
      rw [if_pos h_9] at hQ
      refine r_ex 1 (pc' := 19) (lo' := [some (.inr (.inr (some 0))), some (.inl c), some (.inl i), none]) (st' := [.inl (-2)]) rfl ?_
      refine r_ret (rr := some (.inl (-2))) (I := .ireturn) (pc0 := 19) (len := 1) rfl rfl ?_
      exact hQ hX 
    · show WV _ _ _ 12 _ _ _ _ _
      rw [if_neg h_9] at hQ
      refine r_ex 2 (pc' := 14) (lo' := [some (.inr (.inr (some 0))), some (.inl c), some (.inl i), none]) (st' := [.inl 1, .inl i]) rfl ?_
      refine n_ic_le (pc0 := 14) (len := 3) (t := 20) rfl (by first | assumption | omega | (unfold R32 at *; omega) | (unfold R64 at *; omega) | (simp only [R32, R64] at *; omega)) (by first | assumption | omega | (unfold R32 at *; omega) | (unfold R64 at *; omega) | (simp only [R32, R64] at *; omega)) (fun h_14 => ?_) (fun h_14 => ?_)
      · show WV _ _ _ 20 _ _ _ _ _
        rw [if_neg h_14] at hQ
        refine r_ex 4 (pc' := 28) (lo' := [some (.inr (.inr (some 0))), some (.inl c), some (.inl i), none]) (st' := [.inl c, .inl (v 33 5)]) rfl ?_
        have hb_3 : 0 ≤ (v 33 5) ∧ (v 33 5) ≤ 4095 := hX 33 5
        have hp_4 : 0 ≤ (v 33 5) ∧ (v 33 5) < 4096 := (by first | assumption | omega | (unfold R32 at *; omega) | (unfold R64 at *; omega) | (simp only [R32, R64] at *; omega))
        have hp_5 : 0 ≤ c ∧ c < 12 := (by first | assumption | omega | (unfold R32 at *; omega) | (unfold R64 at *; omega) | (simp only [R32, R64] at *; omega))
        refine r_call (m := 63) (args := [.inl (v 33 5), .inl c]) (n' := 108) (pc' := 31) (lo' := [some (.inr (.inr (some 0))), some (.inl c), some (.inl i), none]) (st' := []) (I := .invokestatic 63) (pc0 := 28) (len := 3) rfl rfl rfl (e_cl_bit hX hp_4 hp_5) ?_
        show WV _ _ _ 31 _ [.inl (cl_bit v (v 33 5) c)] _ _ _
        have hb_6 := n_cl_bit (v := v) (c := (v 33 5)) (k := c) hX hp_4 hp_5
        refine r_ex 8 (pc' := 45) (lo' := [some (.inr (.inr (some 0))), some (.inl c), some (.inl i), some (.inl (cl_bit v (v 33 5) c))]) (st' := [.inl i, .inl c, .inl (v 33 5), .inr (.inr (some 33))]) rfl ?_
        have hp_7 : 0 ≤ (v 33 5) ∧ (v 33 5) < 4096 := (by first | assumption | omega | (unfold R32 at *; omega) | (unfold R64 at *; omega) | (simp only [R32, R64] at *; omega))
        have hp_8 : 0 ≤ c ∧ c < 12 := (by first | assumption | omega | (unfold R32 at *; omega) | (unfold R64 at *; omega) | (simp only [R32, R64] at *; omega))
        have hp_9 : R32 i := (by first | assumption | omega | (unfold R32 at *; omega) | (unfold R64 at *; omega) | (simp only [R32, R64] at *; omega))
        refine r_call (m := 107) (args := [.inl (v 33 5), .inl c, .inl i]) (n' := 108) (pc' := 48) (lo' := [some (.inr (.inr (some 0))), some (.inl c), some (.inl i), some (.inl (cl_bit v (v 33 5) c))]) (st' := [.inr (.inr (some 33))]) (I := .invokestatic 107) (pc0 := 45) (len := 3) rfl rfl rfl (e_cl_withBit hX hp_7 hp_8 hp_9) ?_
        show WV _ _ _ 48 _ [.inl (cl_withBit v (v 33 5) c i), .inr (.inr (some 33))] _ _ _
        have hwb := wb_in (v := v) (x := v 33 5) (c := c) (s := i) (k := 12) (by omega) (by omega)
        refine r_puti2 (j := 5) (pc' := 51) (pc0 := 48) (len := 3) rfl (s_33 _) rfl rfl rfl (Or.inl rfl) rfl rfl ?_
        have hX_10 : XI (v2 v 33 5 (cl_withBit v (v 33 5) c i)) := XI.put hX (show 0 ≤ (cl_withBit v (v 33 5) c i) ∧ (cl_withBit v (v 33 5) c i) ≤ 4095 from (by first | assumption | omega | (unfold R32 at *; omega) | (unfold R64 at *; omega) | (simp only [R32, R64] at *; omega)))
        refine r_ex 2 (pc' := 53) (lo' := [some (.inr (.inr (some 0))), some (.inl c), some (.inl i), some (.inl (cl_bit v (v 33 5) c))]) (st' := [.inl 1, .inr (.inr (some 0))]) rfl ?_
        refine r_puti2 (j := 10) (pc' := 56) (pc0 := 53) (len := 3) rfl (s_0 _) rfl rfl rfl (Or.inr rfl) rfl rfl ?_
        have hX_11 : XI (v2 (v2 v 33 5 (cl_withBit v (v 33 5) c i)) 0 10 1) := XI.put hX_10 (show 0 ≤ 1 ∧ 1 ≤ 1 from (by first | assumption | omega | (unfold R32 at *; omega) | (unfold R64 at *; omega) | (simp only [R32, R64] at *; omega)))
        refine r_ex 1 (pc' := 57) (lo' := [some (.inr (.inr (some 0))), some (.inl c), some (.inl i), some (.inl (cl_bit v (v 33 5) c))]) (st' := [.inl (cl_bit v (v 33 5) c)]) rfl ?_
        refine r_ret (rr := some (.inl (cl_bit v (v 33 5) c))) (I := .ireturn) (pc0 := 57) (len := 1) rfl rfl ?_
        exact hQ hX_11 
      · show WV _ _ _ 17 _ _ _ _ _
        rw [if_pos h_14] at hQ
        refine r_ex 1 (pc' := 19) (lo' := [some (.inr (.inr (some 0))), some (.inl c), some (.inl i), none]) (st' := [.inl (-2)]) rfl ?_
        refine r_ret (rr := some (.inl (-2))) (I := .ireturn) (pc0 := 19) (len := 1) rfl rfl ?_
        exact hQ hX 
  · show WV _ _ _ 5 _ _ _ _ _
    rw [if_neg h_2] at hQ
    refine r_ex 2 (pc' := 19) (lo' := [some (.inr (.inr (some 0))), some (.inl c), some (.inl i), none]) (st' := [.inl (-2)]) rfl ?_
    refine r_ret (rr := some (.inl (-2))) (I := .ireturn) (pc0 := 19) (len := 1) rfl rfl ?_
    exact hQ hX 

theorem e_cl_cut {X : PX} {d b : Nat} {v : VS} {c : Int} {i : Int} (hX : XI v) (hp_a : R32 c) (hp_b : R32 i) : EvV X (d + 1) 108 [.inr (.inr (some 0)), .inl c, .inl i] b v (some (.inl (cl_cut v c i).1)) b ((cl_cut v c i).2) := EvV.of (w_cl_cut hX hp_a hp_b (fun _ => ⟨rfl, rfl, rfl⟩))

theorem i_cl_cut {v : VS} {c : Int} {i : Int} (hX : XI v) (hp_a : R32 c) (hp_b : R32 i) : XI ((cl_cut v c i).2) := by
  have q : WV (0, fun _ => 0, none) (0 + 1) 108 0 [some (.inr (.inr (some 0))), some (.inl c), some (.inl i), none] [] 1 v (fun _ _ _ => XI ((cl_cut v c i).2)) := w_cl_cut (X := (0, fun _ => 0, none)) (d := 0) (b := 1) hX hp_a hp_b (fun q => q)
  obtain ⟨_, _, _, _, _, _, _, q⟩ := q
  exact q

theorem o_cl_cut {rk : Nat} {v : VS} {c : Int} {i : Int} (hk : (rk < 0 ∨ 0 < rk) ∧ (rk < 33 ∨ 33 < rk)) : (cl_cut v c i).2 rk = v rk := by
  unfold cl_cut
  by_cases hc_ : 0 ≤ c ∧ c < v 37 0
  · rw [if_pos hc_]
    by_cases hc_ : i < 0
    · rw [if_pos hc_]
      all_goals (show v rk = _)
      all_goals rfl
    · rw [if_neg hc_]
      by_cases hc_ : 1 < i
      · rw [if_pos hc_]
        all_goals (show v rk = _)
        all_goals rfl
      · rw [if_neg hc_]
        all_goals (show (v2 (v2 v 33 5 (cl_withBit v (v 33 5) c i)) 0 10 1) rk = _)
        all_goals (rw [v2_row (by omega), v2_row (by omega)])
  · rw [if_neg hc_]
    all_goals (show v rk = _)
    all_goals rfl

def cl_passes (v : VS) (c : Int) (w : Int) : Int × VS :=
  (if 0 ≤ c ∧ c < v 37 0 then (if w = 0 then (((cl_asItIs v) 86 ((c).toNat)), (cl_asItIs v)) else (if w = 1 then (((cl_asItIs v) 87 ((c).toNat)), (cl_asItIs v)) else (if w = 2 then (((cl_asItIs v) 88 ((c).toNat)), (cl_asItIs v)) else ((-2), v)))) else ((-2), v))
theorem w_cl_passes {X : PX} {d b : Nat} {v : VS} {c : Int} {w : Int} (hX : XI v) (hp_a : R32 c) (hp_b : R32 w) {Q : Option PV → Nat → VS → Prop} (hQ : XI (cl_passes v c w).2 → Q (some (.inl (cl_passes v c w).1)) b (cl_passes v c w).2) : WV X (d + 1 + 1 + 1 + 1 + 1 + 1 + 1) 132 0 [some (.inr (.inr (some 0))), some (.inl c), some (.inl w)] [] b v Q := by
  rw [cl_passes] at hQ
  refine r_ex 2 (pc' := 2) (lo' := [some (.inr (.inr (some 0))), some (.inl c), some (.inl w)]) (st' := [.inl c, .inr (.inr (some 0))]) rfl ?_
  have hp_1 : R32 c := (by first | assumption | omega | (unfold R32 at *; omega) | (unfold R64 at *; omega) | (simp only [R32, R64] at *; omega))
  have hb_2 : 0 ≤ v 37 0 ∧ v 37 0 ≤ 12 := hX 37 0
  refine r_callb (P := 0 ≤ c ∧ c < v 37 0) (m := 65) (args := [.inr (.inr (some 0)), .inl c]) (n' := 132) (pc' := 5) (lo' := [some (.inr (.inr (some 0))), some (.inl c), some (.inl w)]) (st' := []) (I := .invokevirtual 65) (pc0 := 2) (len := 3) rfl rfl rfl (e_cl_isEar hX hp_1) (fun h_2 => ?_) (fun h_2 => ?_)
  · show WV _ _ _ 5 _ _ _ _ _
    rw [if_pos h_2] at hQ
    refine r_ex 2 (pc' := 12) (lo' := [some (.inr (.inr (some 0))), some (.inl c), some (.inl w)]) (st' := [.inl w]) rfl ?_
    by_cases h_12_0 : w = 0
    · refine n_ts (pc' := 40) (pc0 := 12) (len := 28) (x := w) (y := 0) rfl h_12_0 rfl ?_
      rw [if_pos h_12_0] at hQ
      refine r_ex 1 (pc' := 41) (lo' := [some (.inr (.inr (some 0))), some (.inl c), some (.inl w)]) (st' := [.inr (.inr (some 0))]) rfl ?_
      refine r_call (m := 72) (args := [.inr (.inr (some 0))]) (n' := 132) (pc' := 44) (lo' := [some (.inr (.inr (some 0))), some (.inl c), some (.inl w)]) (st' := []) (I := .invokevirtual 72) (pc0 := 41) (len := 3) rfl rfl rfl (e_cl_asItIs hX) ?_
      show WV _ _ _ 44 _ [.inr (.inr (some 79))] _ (cl_asItIs v) _
      have hX_4 : XI (cl_asItIs v) := i_cl_asItIs (v := v) hX
      refine r_ex 2 (pc' := 48) (lo' := [some (.inr (.inr (some 0))), some (.inl c), some (.inl w)]) (st' := [.inl c, .inr (.inr (some 86))]) rfl ?_
      refine r_iald2 (j := 0) (x := ((cl_asItIs v) 86 ((c).toNat))) (pc' := 49) (pc0 := 48) (len := 1) rfl (s_86 _) (by first | assumption | omega | (unfold R32 at *; omega) | (unfold R64 at *; omega) | (simp only [R32, R64] at *; omega)) (by decide) rfl rfl ?_
      refine r_ret (rr := some (.inl ((cl_asItIs v) 86 ((c).toNat)))) (I := .ireturn) (pc0 := 49) (len := 1) rfl rfl ?_
      exact hQ hX_4 
    · rw [if_neg h_12_0] at hQ
      by_cases h_12_1 : w = 1
      · refine n_ts (pc' := 50) (pc0 := 12) (len := 28) (x := w) (y := 1) rfl h_12_1 rfl ?_
        rw [if_pos h_12_1] at hQ
        refine r_ex 1 (pc' := 51) (lo' := [some (.inr (.inr (some 0))), some (.inl c), some (.inl w)]) (st' := [.inr (.inr (some 0))]) rfl ?_
        refine r_call (m := 72) (args := [.inr (.inr (some 0))]) (n' := 132) (pc' := 54) (lo' := [some (.inr (.inr (some 0))), some (.inl c), some (.inl w)]) (st' := []) (I := .invokevirtual 72) (pc0 := 51) (len := 3) rfl rfl rfl (e_cl_asItIs hX) ?_
        show WV _ _ _ 54 _ [.inr (.inr (some 79))] _ (cl_asItIs v) _
        have hX_6 : XI (cl_asItIs v) := i_cl_asItIs (v := v) hX
        refine r_ex 2 (pc' := 58) (lo' := [some (.inr (.inr (some 0))), some (.inl c), some (.inl w)]) (st' := [.inl c, .inr (.inr (some 87))]) rfl ?_
        refine r_iald2 (j := 0) (x := ((cl_asItIs v) 87 ((c).toNat))) (pc' := 59) (pc0 := 58) (len := 1) rfl (s_87 _) (by first | assumption | omega | (unfold R32 at *; omega) | (unfold R64 at *; omega) | (simp only [R32, R64] at *; omega)) (by decide) rfl rfl ?_
        refine r_ret (rr := some (.inl ((cl_asItIs v) 87 ((c).toNat)))) (I := .ireturn) (pc0 := 59) (len := 1) rfl rfl ?_
        exact hQ hX_6 
      · rw [if_neg h_12_1] at hQ
        by_cases h_12_2 : w = 2
        · refine n_ts (pc' := 60) (pc0 := 12) (len := 28) (x := w) (y := 2) rfl h_12_2 rfl ?_
          rw [if_pos h_12_2] at hQ
          refine r_ex 1 (pc' := 61) (lo' := [some (.inr (.inr (some 0))), some (.inl c), some (.inl w)]) (st' := [.inr (.inr (some 0))]) rfl ?_
          refine r_call (m := 72) (args := [.inr (.inr (some 0))]) (n' := 132) (pc' := 64) (lo' := [some (.inr (.inr (some 0))), some (.inl c), some (.inl w)]) (st' := []) (I := .invokevirtual 72) (pc0 := 61) (len := 3) rfl rfl rfl (e_cl_asItIs hX) ?_
          show WV _ _ _ 64 _ [.inr (.inr (some 79))] _ (cl_asItIs v) _
          have hX_8 : XI (cl_asItIs v) := i_cl_asItIs (v := v) hX
          refine r_ex 2 (pc' := 68) (lo' := [some (.inr (.inr (some 0))), some (.inl c), some (.inl w)]) (st' := [.inl c, .inr (.inr (some 88))]) rfl ?_
          refine r_iald2 (j := 0) (x := ((cl_asItIs v) 88 ((c).toNat))) (pc' := 69) (pc0 := 68) (len := 1) rfl (s_88 _) (by first | assumption | omega | (unfold R32 at *; omega) | (unfold R64 at *; omega) | (simp only [R32, R64] at *; omega)) (by decide) rfl rfl ?_
          refine r_ret (rr := some (.inl ((cl_asItIs v) 88 ((c).toNat)))) (I := .ireturn) (pc0 := 69) (len := 1) rfl rfl ?_
          exact hQ hX_8 
        · rw [if_neg h_12_2] at hQ
          refine n_ts_d (pc' := 70) (pc0 := 12) (len := 28) (x := w) rfl (by first | assumption | omega | (unfold R32 at *; omega) | (unfold R64 at *; omega) | (simp only [R32, R64] at *; omega)) (by first | assumption | omega | (unfold R32 at *; omega) | (unfold R64 at *; omega) | (simp only [R32, R64] at *; omega)) ?_
          refine r_ex 1 (pc' := 72) (lo' := [some (.inr (.inr (some 0))), some (.inl c), some (.inl w)]) (st' := [.inl (-2)]) rfl ?_
          refine r_ret (rr := some (.inl (-2))) (I := .ireturn) (pc0 := 72) (len := 1) rfl rfl ?_
          exact hQ hX 
  · show WV _ _ _ 5 _ _ _ _ _
    rw [if_neg h_2] at hQ
    refine r_ex 2 (pc' := 10) (lo' := [some (.inr (.inr (some 0))), some (.inl c), some (.inl w)]) (st' := [.inl (-2)]) rfl ?_
    refine r_ret (rr := some (.inl (-2))) (I := .ireturn) (pc0 := 10) (len := 1) rfl rfl ?_
    exact hQ hX 

theorem e_cl_passes {X : PX} {d b : Nat} {v : VS} {c : Int} {w : Int} (hX : XI v) (hp_a : R32 c) (hp_b : R32 w) : EvV X (d + 1 + 1 + 1 + 1 + 1 + 1 + 1) 132 [.inr (.inr (some 0)), .inl c, .inl w] b v (some (.inl (cl_passes v c w).1)) b ((cl_passes v c w).2) := EvV.of (w_cl_passes hX hp_a hp_b (fun _ => ⟨rfl, rfl, rfl⟩))

theorem i_cl_passes {v : VS} {c : Int} {w : Int} (hX : XI v) (hp_a : R32 c) (hp_b : R32 w) : XI ((cl_passes v c w).2) := by
  have q : WV (0, fun _ => 0, none) (0 + 1 + 1 + 1 + 1 + 1 + 1 + 1) 132 0 [some (.inr (.inr (some 0))), some (.inl c), some (.inl w)] [] 1 v (fun _ _ _ => XI ((cl_passes v c w).2)) := w_cl_passes (X := (0, fun _ => 0, none)) (d := 0) (b := 1) hX hp_a hp_b (fun q => q)
  obtain ⟨_, _, _, _, _, _, _, q⟩ := q
  exact q

theorem o_cl_passes {rk : Nat} {v : VS} {c : Int} {w : Int} (hk : (rk < 0 ∨ 0 < rk) ∧ (rk < 67 ∨ 90 < rk) ∧ (rk < 105 ∨ 105 < rk)) : (cl_passes v c w).2 rk = v rk := by
  unfold cl_passes
  by_cases hc_ : 0 ≤ c ∧ c < v 37 0
  · rw [if_pos hc_]
    by_cases hc_ : w = 0
    · rw [if_pos hc_]
      all_goals (show (cl_asItIs v) rk = _)
      all_goals (rw [o_cl_asItIs (by omega)])
    · rw [if_neg hc_]
      by_cases hc_ : w = 1
      · rw [if_pos hc_]
        all_goals (show (cl_asItIs v) rk = _)
        all_goals (rw [o_cl_asItIs (by omega)])
      · rw [if_neg hc_]
        by_cases hc_ : w = 2
        · rw [if_pos hc_]
          all_goals (show (cl_asItIs v) rk = _)
          all_goals (rw [o_cl_asItIs (by omega)])
        · rw [if_neg hc_]
          all_goals (show v rk = _)
          all_goals rfl
  · rw [if_neg hc_]
    all_goals (show v rk = _)
    all_goals rfl

def cl_wave_30 : Nat → VS → Int → Int → Int → Int
  | 0, v, i, n, j => 0
  | f + 1, v, i, n, j => (if j < (v 79 4) then (if (cl_comesOf79 v j i) = 0 then (cl_wave_30 f v i n (j + 1)) else (cl_wave_30 f v i (n + 1) (j + 1))) else n)
def cl_wave (v : VS) (i : Int) : Int × VS :=
  (if 0 < v 33 2 then (if 0 ≤ i ∧ i < (cl_asItIs v) 79 4 then ((cl_wave_30 301 (cl_asItIs v) i 0 i), (cl_asItIs v)) else ((-1), (cl_asItIs v))) else ((-2), v))
theorem l_cl_wave_30 {X : PX} {d b : Nat} {Q : Option PV → Nat → VS → Prop}  : ∀ (f : Nat) (v : VS) (i : Int) (n : Int) (j : Int) (o0 : Option PV), XI v → (0 ≤ j ∧ j ≤ 300) → (0 ≤ i ∧ i ≤ 299) → (0 ≤ n ∧ n ≤ j) → (300 < j + f) → (∀ qx0 : Option PV, ∀ qx1 : Option PV, ∀ qx2 : Option PV, ∀ qx4 : Option PV, (0 ≤ (cl_wave_30 f v i n j) ∧ (cl_wave_30 f v i n j) ≤ 300) → WV X (d + 1 + 1 + 1 + 1 + 1 + 1 + 1) 133 58 [qx0, qx1, qx2, some (.inl (cl_wave_30 f v i n j)), qx4] [] b v Q) → WV X (d + 1 + 1 + 1 + 1 + 1 + 1 + 1) 133 30 [o0, some (.inl i), some (.inr (.inr (some 79))), some (.inl n), some (.inl j)] [] b v Q := by
  intro f
  induction f with
  | zero =>
    intro v i n j o0 hX hi_0 hi_1 hi_2 hf hK
    exfalso
    omega
  | succ f ih =>
    intro v i n j o0 hX hi_0 hi_1 hi_2 hf hK
    rw [cl_wave_30] at hK
    refine r_ex 3 (pc' := 36) (lo' := [o0, some (.inl i), some (.inr (.inr (some 79))), some (.inl n), some (.inl j)]) (st' := [.inl (v 79 4), .inl j]) rfl ?_
    have hb_5 : 0 ≤ (v 79 4) ∧ (v 79 4) ≤ 300 := hX 79 4
    refine n_ic_ge (pc0 := 36) (len := 3) (t := 58) rfl (by first | assumption | omega | (unfold R32 at *; omega) | (unfold R64 at *; omega) | (simp only [R32, R64] at *; omega)) (by first | assumption | omega | (unfold R32 at *; omega) | (unfold R64 at *; omega) | (simp only [R32, R64] at *; omega)) (fun h_36 => ?_) (fun h_36 => ?_)
    · show WV _ _ _ 58 _ _ _ _ _
      rw [if_neg h_36] at hK
      exact hK _ _ _ _  (by first | assumption | omega | (unfold R32 at *; omega) | (unfold R64 at *; omega) | (simp only [R32, R64] at *; omega))
    · show WV _ _ _ 39 _ _ _ _ _
      rw [if_pos h_36] at hK
      refine r_ex 3 (pc' := 43) (lo' := [o0, some (.inl i), some (.inr (.inr (some 79))), some (.inl n), some (.inl j)]) (st' := [.inl i, .inl j, .inr (.inr (some 79))]) rfl ?_
      have hp_6 : 0 ≤ j ∧ j ≤ 299 := (by first | assumption | omega | (unfold R32 at *; omega) | (unfold R64 at *; omega) | (simp only [R32, R64] at *; omega))
      have hp_7 : 0 ≤ i ∧ i ≤ 299 := (by first | assumption | omega | (unfold R32 at *; omega) | (unfold R64 at *; omega) | (simp only [R32, R64] at *; omega))
      refine r_call (m := 134) (args := [.inr (.inr (some 79)), .inl j, .inl i]) (n' := 133) (pc' := 46) (lo' := [o0, some (.inl i), some (.inr (.inr (some 79))), some (.inl n), some (.inl j)]) (st' := []) (I := .invokevirtual 134) (pc0 := 43) (len := 3) rfl rfl rfl (e_cl_comesOf79 hX hp_6 hp_7) ?_
      show WV _ _ _ 46 _ [.inl (cl_comesOf79 v j i)] _ _ _
      have hb_8 := n_cl_comesOf79 (v := v) (i := j) (o := i) hX hp_6 hp_7
      refine n_if_eq (pc0 := 46) (len := 3) (t := 52) rfl (by first | assumption | omega | (unfold R32 at *; omega) | (unfold R64 at *; omega) | (simp only [R32, R64] at *; omega)) (fun h_46 => ?_) (fun h_46 => ?_)
      · show WV _ _ _ 52 _ _ _ _ _
        rw [if_pos h_46] at hK
        refine r_ex 2 (pc' := 30) (lo' := [o0, some (.inl i), some (.inr (.inr (some 79))), some (.inl n), some (.inl (j + 1))]) (st' := []) rfl ?_
        refine ih v i n (j + 1) _ hX (by first | assumption | omega | (unfold R32 at *; omega) | (unfold R64 at *; omega) | (simp only [R32, R64] at *; omega)) (by first | assumption | omega | (unfold R32 at *; omega) | (unfold R64 at *; omega) | (simp only [R32, R64] at *; omega)) (by first | assumption | omega | (unfold R32 at *; omega) | (unfold R64 at *; omega) | (simp only [R32, R64] at *; omega)) (by first | assumption | omega | (unfold R32 at *; omega) | (unfold R64 at *; omega) | (simp only [R32, R64] at *; omega)) hK
      · show WV _ _ _ 49 _ _ _ _ _
        rw [if_neg h_46] at hK
        refine r_ex 3 (pc' := 30) (lo' := [o0, some (.inl i), some (.inr (.inr (some 79))), some (.inl (n + 1)), some (.inl (j + 1))]) (st' := []) rfl ?_
        refine ih v i (n + 1) (j + 1) _ hX (by first | assumption | omega | (unfold R32 at *; omega) | (unfold R64 at *; omega) | (simp only [R32, R64] at *; omega)) (by first | assumption | omega | (unfold R32 at *; omega) | (unfold R64 at *; omega) | (simp only [R32, R64] at *; omega)) (by first | assumption | omega | (unfold R32 at *; omega) | (unfold R64 at *; omega) | (simp only [R32, R64] at *; omega)) (by first | assumption | omega | (unfold R32 at *; omega) | (unfold R64 at *; omega) | (simp only [R32, R64] at *; omega)) hK

theorem w_cl_wave {X : PX} {d b : Nat} {v : VS} {i : Int} (hX : XI v) (hp_a : R32 i) {Q : Option PV → Nat → VS → Prop} (hQ : XI (cl_wave v i).2 → Q (some (.inl (cl_wave v i).1)) b (cl_wave v i).2) : WV X (d + 1 + 1 + 1 + 1 + 1 + 1 + 1) 133 0 [some (.inr (.inr (some 0))), some (.inl i), none, none, none] [] b v Q := by
  rw [cl_wave] at hQ
  refine r_ex 1 (pc' := 1) (lo' := [some (.inr (.inr (some 0))), some (.inl i), none, none, none]) (st' := [.inr (.inr (some 0))]) rfl ?_
  have hb_1 : 0 ≤ v 33 2 ∧ v 33 2 ≤ 2001 := hX 33 2
  refine r_callb (P := 0 < v 33 2) (m := 71) (args := [.inr (.inr (some 0))]) (n' := 133) (pc' := 4) (lo' := [some (.inr (.inr (some 0))), some (.inl i), none, none, none]) (st' := []) (I := .invokevirtual 71) (pc0 := 1) (len := 3) rfl rfl rfl (e_cl_hasBay hX) (fun h_1 => ?_) (fun h_1 => ?_)
  · show WV _ _ _ 4 _ _ _ _ _
    rw [if_pos h_1] at hQ
    refine r_ex 2 (pc' := 11) (lo' := [some (.inr (.inr (some 0))), some (.inl i), none, none, none]) (st' := [.inr (.inr (some 0))]) rfl ?_
    refine r_call (m := 72) (args := [.inr (.inr (some 0))]) (n' := 133) (pc' := 14) (lo' := [some (.inr (.inr (some 0))), some (.inl i), none, none, none]) (st' := []) (I := .invokevirtual 72) (pc0 := 11) (len := 3) rfl rfl rfl (e_cl_asItIs hX) ?_
    show WV _ _ _ 14 _ [.inr (.inr (some 79))] _ (cl_asItIs v) _
    have hX_2 : XI (cl_asItIs v) := i_cl_asItIs (v := v) hX
    refine r_ex 3 (pc' := 17) (lo' := [some (.inr (.inr (some 0))), some (.inl i), some (.inr (.inr (some 79))), none, none]) (st' := [.inl i, .inr (.inr (some 79))]) rfl ?_
    have hp_3 : R32 i := (by first | assumption | omega | (unfold R32 at *; omega) | (unfold R64 at *; omega) | (simp only [R32, R64] at *; omega))
    have hb_4 : 0 ≤ (cl_asItIs v) 79 4 ∧ (cl_asItIs v) 79 4 ≤ 300 := hX_2 79 4
    refine r_callb (P := 0 ≤ i ∧ i < (cl_asItIs v) 79 4) (m := 87) (args := [.inr (.inr (some 79)), .inl i]) (n' := 133) (pc' := 20) (lo' := [some (.inr (.inr (some 0))), some (.inl i), some (.inr (.inr (some 79))), none, none]) (st' := []) (I := .invokevirtual 87) (pc0 := 17) (len := 3) rfl rfl rfl (e_cl_has79 hX_2 hp_3) (fun h_17 => ?_) (fun h_17 => ?_)
    · show WV _ _ _ 20 _ _ _ _ _
      rw [if_pos h_17] at hQ
      refine r_ex 5 (pc' := 30) (lo' := [some (.inr (.inr (some 0))), some (.inl i), some (.inr (.inr (some 79))), some (.inl 0), some (.inl i)]) (st' := []) rfl ?_
      refine l_cl_wave_30 301 (cl_asItIs v) i 0 i _ hX_2 (by first | assumption | omega | (unfold R32 at *; omega) | (unfold R64 at *; omega) | (simp only [R32, R64] at *; omega)) (by first | assumption | omega | (unfold R32 at *; omega) | (unfold R64 at *; omega) | (simp only [R32, R64] at *; omega)) (by first | assumption | omega | (unfold R32 at *; omega) | (unfold R64 at *; omega) | (simp only [R32, R64] at *; omega)) (by first | assumption | omega | (unfold R32 at *; omega) | (unfold R64 at *; omega) | (simp only [R32, R64] at *; omega)) (fun o0_9 o1_9 o2_9 o4_9  hv_9_0 => ?_)
      show WV _ _ _ 58 _ _ _ _ _
      refine r_ex 1 (pc' := 59) (lo' := [o0_9, o1_9, o2_9, some (.inl (cl_wave_30 301 (cl_asItIs v) i 0 i)), o4_9]) (st' := [.inl (cl_wave_30 301 (cl_asItIs v) i 0 i)]) rfl ?_
      refine r_ret (rr := some (.inl (cl_wave_30 301 (cl_asItIs v) i 0 i))) (I := .ireturn) (pc0 := 59) (len := 1) rfl rfl ?_
      exact hQ hX_2 
    · show WV _ _ _ 20 _ _ _ _ _
      rw [if_neg h_17] at hQ
      refine r_ex 2 (pc' := 24) (lo' := [some (.inr (.inr (some 0))), some (.inl i), some (.inr (.inr (some 79))), none, none]) (st' := [.inl (-1)]) rfl ?_
      refine r_ret (rr := some (.inl (-1))) (I := .ireturn) (pc0 := 24) (len := 1) rfl rfl ?_
      exact hQ hX_2 
  · show WV _ _ _ 4 _ _ _ _ _
    rw [if_neg h_1] at hQ
    refine r_ex 2 (pc' := 9) (lo' := [some (.inr (.inr (some 0))), some (.inl i), none, none, none]) (st' := [.inl (-2)]) rfl ?_
    refine r_ret (rr := some (.inl (-2))) (I := .ireturn) (pc0 := 9) (len := 1) rfl rfl ?_
    exact hQ hX 

theorem e_cl_wave {X : PX} {d b : Nat} {v : VS} {i : Int} (hX : XI v) (hp_a : R32 i) : EvV X (d + 1 + 1 + 1 + 1 + 1 + 1 + 1) 133 [.inr (.inr (some 0)), .inl i] b v (some (.inl (cl_wave v i).1)) b ((cl_wave v i).2) := EvV.of (w_cl_wave hX hp_a (fun _ => ⟨rfl, rfl, rfl⟩))

theorem i_cl_wave {v : VS} {i : Int} (hX : XI v) (hp_a : R32 i) : XI ((cl_wave v i).2) := by
  have q : WV (0, fun _ => 0, none) (0 + 1 + 1 + 1 + 1 + 1 + 1 + 1) 133 0 [some (.inr (.inr (some 0))), some (.inl i), none, none, none] [] 1 v (fun _ _ _ => XI ((cl_wave v i).2)) := w_cl_wave (X := (0, fun _ => 0, none)) (d := 0) (b := 1) hX hp_a (fun q => q)
  obtain ⟨_, _, _, _, _, _, _, q⟩ := q
  exact q

theorem o_cl_wave {rk : Nat} {v : VS} {i : Int} (hk : (rk < 0 ∨ 0 < rk) ∧ (rk < 67 ∨ 90 < rk) ∧ (rk < 105 ∨ 105 < rk)) : (cl_wave v i).2 rk = v rk := by
  unfold cl_wave
  by_cases hc_ : 0 < v 33 2
  · rw [if_pos hc_]
    by_cases hc_ : 0 ≤ i ∧ i < (cl_asItIs v) 79 4
    · rw [if_pos hc_]
      all_goals (show (cl_asItIs v) rk = _)
      all_goals (rw [o_cl_asItIs (by omega)])
    · rw [if_neg hc_]
      all_goals (show (cl_asItIs v) rk = _)
      all_goals (rw [o_cl_asItIs (by omega)])
  · rw [if_neg hc_]
    all_goals (show v rk = _)
    all_goals rfl

def cl_depth (v : VS) (i : Int) : Int × VS :=
  (if 0 < v 33 2 then (if 0 ≤ i ∧ i < (cl_asItIs v) 79 4 then ((cl_stepsOf79 (cl_asItIs v) i), (cl_asItIs v)) else ((-1), (cl_asItIs v))) else ((-2), v))
theorem w_cl_depth {X : PX} {d b : Nat} {v : VS} {i : Int} (hX : XI v) (hp_a : R32 i) {Q : Option PV → Nat → VS → Prop} (hQ : XI (cl_depth v i).2 → Q (some (.inl (cl_depth v i).1)) b (cl_depth v i).2) : WV X (d + 1 + 1 + 1 + 1 + 1 + 1 + 1) 135 0 [some (.inr (.inr (some 0))), some (.inl i), none] [] b v Q := by
  rw [cl_depth] at hQ
  refine r_ex 1 (pc' := 1) (lo' := [some (.inr (.inr (some 0))), some (.inl i), none]) (st' := [.inr (.inr (some 0))]) rfl ?_
  have hb_1 : 0 ≤ v 33 2 ∧ v 33 2 ≤ 2001 := hX 33 2
  refine r_callb (P := 0 < v 33 2) (m := 71) (args := [.inr (.inr (some 0))]) (n' := 135) (pc' := 4) (lo' := [some (.inr (.inr (some 0))), some (.inl i), none]) (st' := []) (I := .invokevirtual 71) (pc0 := 1) (len := 3) rfl rfl rfl (e_cl_hasBay hX) (fun h_1 => ?_) (fun h_1 => ?_)
  · show WV _ _ _ 4 _ _ _ _ _
    rw [if_pos h_1] at hQ
    refine r_ex 2 (pc' := 11) (lo' := [some (.inr (.inr (some 0))), some (.inl i), none]) (st' := [.inr (.inr (some 0))]) rfl ?_
    refine r_call (m := 72) (args := [.inr (.inr (some 0))]) (n' := 135) (pc' := 14) (lo' := [some (.inr (.inr (some 0))), some (.inl i), none]) (st' := []) (I := .invokevirtual 72) (pc0 := 11) (len := 3) rfl rfl rfl (e_cl_asItIs hX) ?_
    show WV _ _ _ 14 _ [.inr (.inr (some 79))] _ (cl_asItIs v) _
    have hX_2 : XI (cl_asItIs v) := i_cl_asItIs (v := v) hX
    refine r_ex 3 (pc' := 17) (lo' := [some (.inr (.inr (some 0))), some (.inl i), some (.inr (.inr (some 79)))]) (st' := [.inl i, .inr (.inr (some 79))]) rfl ?_
    have hp_3 : R32 i := (by first | assumption | omega | (unfold R32 at *; omega) | (unfold R64 at *; omega) | (simp only [R32, R64] at *; omega))
    have hb_4 : 0 ≤ (cl_asItIs v) 79 4 ∧ (cl_asItIs v) 79 4 ≤ 300 := hX_2 79 4
    refine r_callb (P := 0 ≤ i ∧ i < (cl_asItIs v) 79 4) (m := 87) (args := [.inr (.inr (some 79)), .inl i]) (n' := 135) (pc' := 20) (lo' := [some (.inr (.inr (some 0))), some (.inl i), some (.inr (.inr (some 79)))]) (st' := []) (I := .invokevirtual 87) (pc0 := 17) (len := 3) rfl rfl rfl (e_cl_has79 hX_2 hp_3) (fun h_17 => ?_) (fun h_17 => ?_)
    · show WV _ _ _ 20 _ _ _ _ _
      rw [if_pos h_17] at hQ
      refine r_ex 3 (pc' := 25) (lo' := [some (.inr (.inr (some 0))), some (.inl i), some (.inr (.inr (some 79)))]) (st' := [.inl i, .inr (.inr (some 79))]) rfl ?_
      have hp_5 : 0 ≤ i ∧ i ≤ 299 := (by first | assumption | omega | (unfold R32 at *; omega) | (unfold R64 at *; omega) | (simp only [R32, R64] at *; omega))
      refine r_call (m := 136) (args := [.inr (.inr (some 79)), .inl i]) (n' := 135) (pc' := 28) (lo' := [some (.inr (.inr (some 0))), some (.inl i), some (.inr (.inr (some 79)))]) (st' := []) (I := .invokevirtual 136) (pc0 := 25) (len := 3) rfl rfl rfl (e_cl_stepsOf79 hX_2 hp_5) ?_
      show WV _ _ _ 28 _ [.inl (cl_stepsOf79 (cl_asItIs v) i)] _ _ _
      have hb_6 := n_cl_stepsOf79 (v := (cl_asItIs v)) (i := i) hX_2 hp_5
      refine r_ex 1 (pc' := 32) (lo' := [some (.inr (.inr (some 0))), some (.inl i), some (.inr (.inr (some 79)))]) (st' := [.inl (cl_stepsOf79 (cl_asItIs v) i)]) rfl ?_
      refine r_ret (rr := some (.inl (cl_stepsOf79 (cl_asItIs v) i))) (I := .ireturn) (pc0 := 32) (len := 1) rfl rfl ?_
      exact hQ hX_2 
    · show WV _ _ _ 20 _ _ _ _ _
      rw [if_neg h_17] at hQ
      refine r_ex 2 (pc' := 32) (lo' := [some (.inr (.inr (some 0))), some (.inl i), some (.inr (.inr (some 79)))]) (st' := [.inl (-1)]) rfl ?_
      refine r_ret (rr := some (.inl (-1))) (I := .ireturn) (pc0 := 32) (len := 1) rfl rfl ?_
      exact hQ hX_2 
  · show WV _ _ _ 4 _ _ _ _ _
    rw [if_neg h_1] at hQ
    refine r_ex 2 (pc' := 9) (lo' := [some (.inr (.inr (some 0))), some (.inl i), none]) (st' := [.inl (-2)]) rfl ?_
    refine r_ret (rr := some (.inl (-2))) (I := .ireturn) (pc0 := 9) (len := 1) rfl rfl ?_
    exact hQ hX 

theorem e_cl_depth {X : PX} {d b : Nat} {v : VS} {i : Int} (hX : XI v) (hp_a : R32 i) : EvV X (d + 1 + 1 + 1 + 1 + 1 + 1 + 1) 135 [.inr (.inr (some 0)), .inl i] b v (some (.inl (cl_depth v i).1)) b ((cl_depth v i).2) := EvV.of (w_cl_depth hX hp_a (fun _ => ⟨rfl, rfl, rfl⟩))

theorem i_cl_depth {v : VS} {i : Int} (hX : XI v) (hp_a : R32 i) : XI ((cl_depth v i).2) := by
  have q : WV (0, fun _ => 0, none) (0 + 1 + 1 + 1 + 1 + 1 + 1 + 1) 135 0 [some (.inr (.inr (some 0))), some (.inl i), none] [] 1 v (fun _ _ _ => XI ((cl_depth v i).2)) := w_cl_depth (X := (0, fun _ => 0, none)) (d := 0) (b := 1) hX hp_a (fun q => q)
  obtain ⟨_, _, _, _, _, _, _, q⟩ := q
  exact q

theorem o_cl_depth {rk : Nat} {v : VS} {i : Int} (hk : (rk < 0 ∨ 0 < rk) ∧ (rk < 67 ∨ 90 < rk) ∧ (rk < 105 ∨ 105 < rk)) : (cl_depth v i).2 rk = v rk := by
  unfold cl_depth
  by_cases hc_ : 0 < v 33 2
  · rw [if_pos hc_]
    by_cases hc_ : 0 ≤ i ∧ i < (cl_asItIs v) 79 4
    · rw [if_pos hc_]
      all_goals (show (cl_asItIs v) rk = _)
      all_goals (rw [o_cl_asItIs (by omega)])
    · rw [if_neg hc_]
      all_goals (show (cl_asItIs v) rk = _)
      all_goals (rw [o_cl_asItIs (by omega)])
  · rw [if_neg hc_]
    all_goals (show v rk = _)
    all_goals rfl

def cl_source (v : VS) (i : Int) : Int × VS :=
  (if 0 < v 33 2 then (if 0 ≤ i ∧ i < (cl_asItIs v) 79 4 then ((cl_startOf79 (cl_asItIs v) i), (cl_asItIs v)) else ((-1), (cl_asItIs v))) else ((-2), v))
theorem w_cl_source {X : PX} {d b : Nat} {v : VS} {i : Int} (hX : XI v) (hp_a : R32 i) {Q : Option PV → Nat → VS → Prop} (hQ : XI (cl_source v i).2 → Q (some (.inl (cl_source v i).1)) b (cl_source v i).2) : WV X (d + 1 + 1 + 1 + 1 + 1 + 1 + 1) 137 0 [some (.inr (.inr (some 0))), some (.inl i), none] [] b v Q := by
  rw [cl_source] at hQ
  refine r_ex 1 (pc' := 1) (lo' := [some (.inr (.inr (some 0))), some (.inl i), none]) (st' := [.inr (.inr (some 0))]) rfl ?_
  have hb_1 : 0 ≤ v 33 2 ∧ v 33 2 ≤ 2001 := hX 33 2
  refine r_callb (P := 0 < v 33 2) (m := 71) (args := [.inr (.inr (some 0))]) (n' := 137) (pc' := 4) (lo' := [some (.inr (.inr (some 0))), some (.inl i), none]) (st' := []) (I := .invokevirtual 71) (pc0 := 1) (len := 3) rfl rfl rfl (e_cl_hasBay hX) (fun h_1 => ?_) (fun h_1 => ?_)
  · show WV _ _ _ 4 _ _ _ _ _
    rw [if_pos h_1] at hQ
    refine r_ex 2 (pc' := 11) (lo' := [some (.inr (.inr (some 0))), some (.inl i), none]) (st' := [.inr (.inr (some 0))]) rfl ?_
    refine r_call (m := 72) (args := [.inr (.inr (some 0))]) (n' := 137) (pc' := 14) (lo' := [some (.inr (.inr (some 0))), some (.inl i), none]) (st' := []) (I := .invokevirtual 72) (pc0 := 11) (len := 3) rfl rfl rfl (e_cl_asItIs hX) ?_
    show WV _ _ _ 14 _ [.inr (.inr (some 79))] _ (cl_asItIs v) _
    have hX_2 : XI (cl_asItIs v) := i_cl_asItIs (v := v) hX
    refine r_ex 3 (pc' := 17) (lo' := [some (.inr (.inr (some 0))), some (.inl i), some (.inr (.inr (some 79)))]) (st' := [.inl i, .inr (.inr (some 79))]) rfl ?_
    have hp_3 : R32 i := (by first | assumption | omega | (unfold R32 at *; omega) | (unfold R64 at *; omega) | (simp only [R32, R64] at *; omega))
    have hb_4 : 0 ≤ (cl_asItIs v) 79 4 ∧ (cl_asItIs v) 79 4 ≤ 300 := hX_2 79 4
    refine r_callb (P := 0 ≤ i ∧ i < (cl_asItIs v) 79 4) (m := 87) (args := [.inr (.inr (some 79)), .inl i]) (n' := 137) (pc' := 20) (lo' := [some (.inr (.inr (some 0))), some (.inl i), some (.inr (.inr (some 79)))]) (st' := []) (I := .invokevirtual 87) (pc0 := 17) (len := 3) rfl rfl rfl (e_cl_has79 hX_2 hp_3) (fun h_17 => ?_) (fun h_17 => ?_)
    · show WV _ _ _ 20 _ _ _ _ _
      rw [if_pos h_17] at hQ
      refine r_ex 3 (pc' := 25) (lo' := [some (.inr (.inr (some 0))), some (.inl i), some (.inr (.inr (some 79)))]) (st' := [.inl i, .inr (.inr (some 79))]) rfl ?_
      have hp_5 : 0 ≤ i ∧ i ≤ 299 := (by first | assumption | omega | (unfold R32 at *; omega) | (unfold R64 at *; omega) | (simp only [R32, R64] at *; omega))
      refine r_call (m := 138) (args := [.inr (.inr (some 79)), .inl i]) (n' := 137) (pc' := 28) (lo' := [some (.inr (.inr (some 0))), some (.inl i), some (.inr (.inr (some 79)))]) (st' := []) (I := .invokevirtual 138) (pc0 := 25) (len := 3) rfl rfl rfl (e_cl_startOf79 hX_2 hp_5) ?_
      show WV _ _ _ 28 _ [.inl (cl_startOf79 (cl_asItIs v) i)] _ _ _
      have hb_6 := n_cl_startOf79 (v := (cl_asItIs v)) (i := i) hX_2 hp_5
      refine r_ex 1 (pc' := 32) (lo' := [some (.inr (.inr (some 0))), some (.inl i), some (.inr (.inr (some 79)))]) (st' := [.inl (cl_startOf79 (cl_asItIs v) i)]) rfl ?_
      refine r_ret (rr := some (.inl (cl_startOf79 (cl_asItIs v) i))) (I := .ireturn) (pc0 := 32) (len := 1) rfl rfl ?_
      exact hQ hX_2 
    · show WV _ _ _ 20 _ _ _ _ _
      rw [if_neg h_17] at hQ
      refine r_ex 2 (pc' := 32) (lo' := [some (.inr (.inr (some 0))), some (.inl i), some (.inr (.inr (some 79)))]) (st' := [.inl (-1)]) rfl ?_
      refine r_ret (rr := some (.inl (-1))) (I := .ireturn) (pc0 := 32) (len := 1) rfl rfl ?_
      exact hQ hX_2 
  · show WV _ _ _ 4 _ _ _ _ _
    rw [if_neg h_1] at hQ
    refine r_ex 2 (pc' := 9) (lo' := [some (.inr (.inr (some 0))), some (.inl i), none]) (st' := [.inl (-2)]) rfl ?_
    refine r_ret (rr := some (.inl (-2))) (I := .ireturn) (pc0 := 9) (len := 1) rfl rfl ?_
    exact hQ hX 

theorem e_cl_source {X : PX} {d b : Nat} {v : VS} {i : Int} (hX : XI v) (hp_a : R32 i) : EvV X (d + 1 + 1 + 1 + 1 + 1 + 1 + 1) 137 [.inr (.inr (some 0)), .inl i] b v (some (.inl (cl_source v i).1)) b ((cl_source v i).2) := EvV.of (w_cl_source hX hp_a (fun _ => ⟨rfl, rfl, rfl⟩))

theorem i_cl_source {v : VS} {i : Int} (hX : XI v) (hp_a : R32 i) : XI ((cl_source v i).2) := by
  have q : WV (0, fun _ => 0, none) (0 + 1 + 1 + 1 + 1 + 1 + 1 + 1) 137 0 [some (.inr (.inr (some 0))), some (.inl i), none] [] 1 v (fun _ _ _ => XI ((cl_source v i).2)) := w_cl_source (X := (0, fun _ => 0, none)) (d := 0) (b := 1) hX hp_a (fun q => q)
  obtain ⟨_, _, _, _, _, _, _, q⟩ := q
  exact q

theorem o_cl_source {rk : Nat} {v : VS} {i : Int} (hk : (rk < 0 ∨ 0 < rk) ∧ (rk < 67 ∨ 90 < rk) ∧ (rk < 105 ∨ 105 < rk)) : (cl_source v i).2 rk = v rk := by
  unfold cl_source
  by_cases hc_ : 0 < v 33 2
  · rw [if_pos hc_]
    by_cases hc_ : 0 ≤ i ∧ i < (cl_asItIs v) 79 4
    · rw [if_pos hc_]
      all_goals (show (cl_asItIs v) rk = _)
      all_goals (rw [o_cl_asItIs (by omega)])
    · rw [if_neg hc_]
      all_goals (show (cl_asItIs v) rk = _)
      all_goals (rw [o_cl_asItIs (by omega)])
  · rw [if_neg hc_]
    all_goals (show v rk = _)
    all_goals rfl

def cl_lap_35 : Nat → VS → Int → Int → Int → Int × VS
  | 0, v, c, a, j => (0, v)
  | f + 1, v, c, a, j => (if j < (v 79 4) then (if (v 81 ((j).toNat)) = c then (if (cl_comesOf79 v j a) = 0 then (cl_lap_35 f v c a (j + 1)) else (((v 80 ((j).toNat)) - (v 80 ((a).toNat))), v)) else (cl_lap_35 f v c a (j + 1))) else ((-1), v))
def cl_lap (v : VS) (c : Int) : Int × VS :=
  (if 0 ≤ c ∧ c < v 33 0 then (if (cl_nextOf79 (cl_asItIs v) c 0) = (-1) then ((-1), (cl_asItIs v)) else (cl_lap_35 301 (cl_asItIs v) c (cl_nextOf79 (cl_asItIs v) c 0) ((cl_nextOf79 (cl_asItIs v) c 0) + 1))) else ((-2), v))
theorem l_cl_lap_35 {X : PX} {d b : Nat} {Q : Option PV → Nat → VS → Prop}  : ∀ (f : Nat) (v : VS) (c : Int) (a : Int) (j : Int) (o0 : Option PV), XI v → (0 ≤ j ∧ j ≤ 300) → (R32 c) → (0 ≤ a ∧ a ≤ 299) → (300 < j + f) → (XI (cl_lap_35 f v c a j).2 → Q (some (.inl (cl_lap_35 f v c a j).1)) b (cl_lap_35 f v c a j).2) → WV X (d + 1 + 1 + 1 + 1 + 1 + 1 + 1) 139 35 [o0, some (.inl c), some (.inr (.inr (some 79))), some (.inl a), some (.inl j)] [] b v Q := by
  intro f
  induction f with
  | zero =>
    intro v c a j o0 hX hi_0 hi_1 hi_2 hf hQ
    exfalso
    omega
  | succ f ih =>
    intro v c a j o0 hX hi_0 hi_1 hi_2 hf hQ
    rw [cl_lap_35] at hQ
    refine r_ex 3 (pc' := 41) (lo' := [o0, some (.inl c), some (.inr (.inr (some 79))), some (.inl a), some (.inl j)]) (st' := [.inl (v 79 4), .inl j]) rfl ?_
    have hb_7 : 0 ≤ (v 79 4) ∧ (v 79 4) ≤ 300 := hX 79 4
    refine n_ic_ge (pc0 := 41) (len := 3) (t := 86) rfl (by first | assumption | omega | (unfold R32 at *; omega) | (unfold R64 at *; omega) | (simp only [R32, R64] at *; omega)) (by first | assumption | omega | (unfold R32 at *; omega) | (unfold R64 at *; omega) | (simp only [R32, R64] at *; omega)) (fun h_41 => ?_) (fun h_41 => ?_)
    · show WV _ _ _ 86 _ _ _ _ _
      rw [if_neg h_41] at hQ
      refine r_ex 1 (pc' := 87) (lo' := [o0, some (.inl c), some (.inr (.inr (some 79))), some (.inl a), some (.inl j)]) (st' := [.inl (-1)]) rfl ?_
      refine r_ret (rr := some (.inl (-1))) (I := .ireturn) (pc0 := 87) (len := 1) rfl rfl ?_
      exact hQ hX 
    · show WV _ _ _ 44 _ _ _ _ _
      rw [if_pos h_41] at hQ
      refine r_ex 3 (pc' := 50) (lo' := [o0, some (.inl c), some (.inr (.inr (some 79))), some (.inl a), some (.inl j)]) (st' := [.inl j, .inr (.inr (some 81))]) rfl ?_
      refine r_iald2 (j := 0) (x := (v 81 ((j).toNat))) (pc' := 51) (pc0 := 50) (len := 1) rfl (s_81 _) (by first | assumption | omega | (unfold R32 at *; omega) | (unfold R64 at *; omega) | (simp only [R32, R64] at *; omega)) (by decide) rfl rfl ?_
      have hb_8 : 0 ≤ (v 81 ((j).toNat)) ∧ (v 81 ((j).toNat)) ≤ 8 := hX 81 ((j).toNat)
      refine r_ex 1 (pc' := 52) (lo' := [o0, some (.inl c), some (.inr (.inr (some 79))), some (.inl a), some (.inl j)]) (st' := [.inl c, .inl (v 81 ((j).toNat))]) rfl ?_
      refine n_ic_ne (pc0 := 52) (len := 3) (t := 80) rfl (by first | assumption | omega | (unfold R32 at *; omega) | (unfold R64 at *; omega) | (simp only [R32, R64] at *; omega)) (by first | assumption | omega | (unfold R32 at *; omega) | (unfold R64 at *; omega) | (simp only [R32, R64] at *; omega)) (fun h_52 => ?_) (fun h_52 => ?_)
      · show WV _ _ _ 80 _ _ _ _ _
        rw [if_neg h_52] at hQ
        refine r_ex 2 (pc' := 35) (lo' := [o0, some (.inl c), some (.inr (.inr (some 79))), some (.inl a), some (.inl (j + 1))]) (st' := []) rfl ?_
        refine ih v c a (j + 1) _ hX (by first | assumption | omega | (unfold R32 at *; omega) | (unfold R64 at *; omega) | (simp only [R32, R64] at *; omega)) (by first | assumption | omega | (unfold R32 at *; omega) | (unfold R64 at *; omega) | (simp only [R32, R64] at *; omega)) (by first | assumption | omega | (unfold R32 at *; omega) | (unfold R64 at *; omega) | (simp only [R32, R64] at *; omega)) (by first | assumption | omega | (unfold R32 at *; omega) | (unfold R64 at *; omega) | (simp only [R32, R64] at *; omega)) hQ
      · show WV _ _ _ 55 _ _ _ _ _
        rw [if_pos h_52] at hQ
        refine r_ex 3 (pc' := 59) (lo' := [o0, some (.inl c), some (.inr (.inr (some 79))), some (.inl a), some (.inl j)]) (st' := [.inl a, .inl j, .inr (.inr (some 79))]) rfl ?_
        have hp_9 : 0 ≤ j ∧ j ≤ 299 := (by first | assumption | omega | (unfold R32 at *; omega) | (unfold R64 at *; omega) | (simp only [R32, R64] at *; omega))
        have hp_10 : 0 ≤ a ∧ a ≤ 299 := (by first | assumption | omega | (unfold R32 at *; omega) | (unfold R64 at *; omega) | (simp only [R32, R64] at *; omega))
        refine r_call (m := 134) (args := [.inr (.inr (some 79)), .inl j, .inl a]) (n' := 139) (pc' := 62) (lo' := [o0, some (.inl c), some (.inr (.inr (some 79))), some (.inl a), some (.inl j)]) (st' := []) (I := .invokevirtual 134) (pc0 := 59) (len := 3) rfl rfl rfl (e_cl_comesOf79 hX hp_9 hp_10) ?_
        show WV _ _ _ 62 _ [.inl (cl_comesOf79 v j a)] _ _ _
        have hb_11 := n_cl_comesOf79 (v := v) (i := j) (o := a) hX hp_9 hp_10
        refine n_if_eq (pc0 := 62) (len := 3) (t := 80) rfl (by first | assumption | omega | (unfold R32 at *; omega) | (unfold R64 at *; omega) | (simp only [R32, R64] at *; omega)) (fun h_62 => ?_) (fun h_62 => ?_)
        · show WV _ _ _ 80 _ _ _ _ _
          rw [if_pos h_62] at hQ
          refine r_ex 2 (pc' := 35) (lo' := [o0, some (.inl c), some (.inr (.inr (some 79))), some (.inl a), some (.inl (j + 1))]) (st' := []) rfl ?_
          refine ih v c a (j + 1) _ hX (by first | assumption | omega | (unfold R32 at *; omega) | (unfold R64 at *; omega) | (simp only [R32, R64] at *; omega)) (by first | assumption | omega | (unfold R32 at *; omega) | (unfold R64 at *; omega) | (simp only [R32, R64] at *; omega)) (by first | assumption | omega | (unfold R32 at *; omega) | (unfold R64 at *; omega) | (simp only [R32, R64] at *; omega)) (by first | assumption | omega | (unfold R32 at *; omega) | (unfold R64 at *; omega) | (simp only [R32, R64] at *; omega)) hQ
        · show WV _ _ _ 65 _ _ _ _ _
          rw [if_neg h_62] at hQ
          refine r_ex 3 (pc' := 71) (lo' := [o0, some (.inl c), some (.inr (.inr (some 79))), some (.inl a), some (.inl j)]) (st' := [.inl j, .inr (.inr (some 80))]) rfl ?_
          refine r_iald2 (j := 0) (x := (v 80 ((j).toNat))) (pc' := 72) (pc0 := 71) (len := 1) rfl (s_80 _) (by first | assumption | omega | (unfold R32 at *; omega) | (unfold R64 at *; omega) | (simp only [R32, R64] at *; omega)) (by decide) rfl rfl ?_
          have hb_12 : 0 ≤ (v 80 ((j).toNat)) ∧ (v 80 ((j).toNat)) ≤ 299 := hX 80 ((j).toNat)
          refine r_ex 3 (pc' := 77) (lo' := [o0, some (.inl c), some (.inr (.inr (some 79))), some (.inl a), some (.inl j)]) (st' := [.inl a, .inr (.inr (some 80)), .inl (v 80 ((j).toNat))]) rfl ?_
          refine r_iald2 (j := 0) (x := (v 80 ((a).toNat))) (pc' := 78) (pc0 := 77) (len := 1) rfl (s_80 _) (by first | assumption | omega | (unfold R32 at *; omega) | (unfold R64 at *; omega) | (simp only [R32, R64] at *; omega)) (by decide) rfl rfl ?_
          have hb_13 : 0 ≤ (v 80 ((a).toNat)) ∧ (v 80 ((a).toNat)) ≤ 299 := hX 80 ((a).toNat)
          refine r_ex 1 (pc' := 79) (lo' := [o0, some (.inl c), some (.inr (.inr (some 79))), some (.inl a), some (.inl j)]) (st' := [.inl ((v 80 ((j).toNat)) - (v 80 ((a).toNat)))]) rfl ?_
          refine r_ret (rr := some (.inl ((v 80 ((j).toNat)) - (v 80 ((a).toNat))))) (I := .ireturn) (pc0 := 79) (len := 1) rfl rfl ?_
          exact hQ hX 

theorem of_cl_lap_35 {rk : Nat}  : ∀ (f : Nat) {v : VS} {c : Int} {a : Int} {j : Int}, (cl_lap_35 f v c a j).2 rk = v rk := by
  intro f
  induction f with
  | zero => intro v c a j; rfl
  | succ f ih =>
    intro v c a j
    rw [cl_lap_35]
    by_cases hc_ : j < (v 79 4)
    · rw [if_pos hc_]
      by_cases hc_ : (v 81 ((j).toNat)) = c
      · rw [if_pos hc_]
        by_cases hc_ : (cl_comesOf79 v j a) = 0
        · rw [if_pos hc_]
          all_goals (rw [ih])
        · rw [if_neg hc_]
          all_goals (show v rk = _)
          all_goals rfl
      · rw [if_neg hc_]
        all_goals (rw [ih])
    · rw [if_neg hc_]
      all_goals (show v rk = _)
      all_goals rfl
theorem o_cl_lap_35 {rk : Nat} {f : Nat} {v : VS} {c : Int} {a : Int} {j : Int}  : (cl_lap_35 f v c a j).2 rk = v rk := of_cl_lap_35  f

theorem w_cl_lap {X : PX} {d b : Nat} {v : VS} {c : Int} (hX : XI v) (hp_a : R32 c) {Q : Option PV → Nat → VS → Prop} (hQ : XI (cl_lap v c).2 → Q (some (.inl (cl_lap v c).1)) b (cl_lap v c).2) : WV X (d + 1 + 1 + 1 + 1 + 1 + 1 + 1) 139 0 [some (.inr (.inr (some 0))), some (.inl c), none, none, none] [] b v Q := by
  rw [cl_lap] at hQ
  refine r_ex 2 (pc' := 2) (lo' := [some (.inr (.inr (some 0))), some (.inl c), none, none, none]) (st' := [.inl c, .inr (.inr (some 0))]) rfl ?_
  have hp_1 : R32 c := (by first | assumption | omega | (unfold R32 at *; omega) | (unfold R64 at *; omega) | (simp only [R32, R64] at *; omega))
  have hb_2 : 0 ≤ v 33 0 ∧ v 33 0 ≤ 9 := hX 33 0
  refine r_callb (P := 0 ≤ c ∧ c < v 33 0) (m := 62) (args := [.inr (.inr (some 0)), .inl c]) (n' := 139) (pc' := 5) (lo' := [some (.inr (.inr (some 0))), some (.inl c), none, none, none]) (st' := []) (I := .invokevirtual 62) (pc0 := 2) (len := 3) rfl rfl rfl (e_cl_isChurch hX hp_1) (fun h_2 => ?_) (fun h_2 => ?_)
  · show WV _ _ _ 5 _ _ _ _ _
    rw [if_pos h_2] at hQ
    refine r_ex 2 (pc' := 12) (lo' := [some (.inr (.inr (some 0))), some (.inl c), none, none, none]) (st' := [.inr (.inr (some 0))]) rfl ?_
    refine r_call (m := 72) (args := [.inr (.inr (some 0))]) (n' := 139) (pc' := 15) (lo' := [some (.inr (.inr (some 0))), some (.inl c), none, none, none]) (st' := []) (I := .invokevirtual 72) (pc0 := 12) (len := 3) rfl rfl rfl (e_cl_asItIs hX) ?_
    show WV _ _ _ 15 _ [.inr (.inr (some 79))] _ (cl_asItIs v) _
    have hX_3 : XI (cl_asItIs v) := i_cl_asItIs (v := v) hX
    refine r_ex 4 (pc' := 19) (lo' := [some (.inr (.inr (some 0))), some (.inl c), some (.inr (.inr (some 79))), none, none]) (st' := [.inl 0, .inl c, .inr (.inr (some 79))]) rfl ?_
    have hp_4 : R32 c := (by first | assumption | omega | (unfold R32 at *; omega) | (unfold R64 at *; omega) | (simp only [R32, R64] at *; omega))
    have hp_5 : 0 ≤ (0 : Int) ∧ (0 : Int) ≤ 300 := (by first | assumption | omega | (unfold R32 at *; omega) | (unfold R64 at *; omega) | (simp only [R32, R64] at *; omega))
    refine r_call (m := 93) (args := [.inr (.inr (some 79)), .inl c, .inl 0]) (n' := 139) (pc' := 22) (lo' := [some (.inr (.inr (some 0))), some (.inl c), some (.inr (.inr (some 79))), none, none]) (st' := []) (I := .invokevirtual 93) (pc0 := 19) (len := 3) rfl rfl rfl (e_cl_nextOf79 hX_3 hp_4 hp_5) ?_
    show WV _ _ _ 22 _ [.inl (cl_nextOf79 (cl_asItIs v) c 0)] _ _ _
    have hb_6 := n_cl_nextOf79 (v := (cl_asItIs v)) (c := c) (s := 0) hX_3 hp_4 hp_5
    refine r_ex 3 (pc' := 25) (lo' := [some (.inr (.inr (some 0))), some (.inl c), some (.inr (.inr (some 79))), some (.inl (cl_nextOf79 (cl_asItIs v) c 0)), none]) (st' := [.inl (-1), .inl (cl_nextOf79 (cl_asItIs v) c 0)]) rfl ?_
    refine n_ic_ne (pc0 := 25) (len := 3) (t := 30) rfl (by first | assumption | omega | (unfold R32 at *; omega) | (unfold R64 at *; omega) | (simp only [R32, R64] at *; omega)) (by first | assumption | omega | (unfold R32 at *; omega) | (unfold R64 at *; omega) | (simp only [R32, R64] at *; omega)) (fun h_25 => ?_) (fun h_25 => ?_)
    · show WV _ _ _ 30 _ _ _ _ _
      rw [if_neg h_25] at hQ
      refine r_ex 4 (pc' := 35) (lo' := [some (.inr (.inr (some 0))), some (.inl c), some (.inr (.inr (some 79))), some (.inl (cl_nextOf79 (cl_asItIs v) c 0)), some (.inl ((cl_nextOf79 (cl_asItIs v) c 0) + 1))]) (st' := []) rfl ?_
      exact l_cl_lap_35 301 (cl_asItIs v) c (cl_nextOf79 (cl_asItIs v) c 0) ((cl_nextOf79 (cl_asItIs v) c 0) + 1) _ hX_3 (by first | assumption | omega | (unfold R32 at *; omega) | (unfold R64 at *; omega) | (simp only [R32, R64] at *; omega)) (by first | assumption | omega | (unfold R32 at *; omega) | (unfold R64 at *; omega) | (simp only [R32, R64] at *; omega)) (by first | assumption | omega | (unfold R32 at *; omega) | (unfold R64 at *; omega) | (simp only [R32, R64] at *; omega)) (by first | assumption | omega | (unfold R32 at *; omega) | (unfold R64 at *; omega) | (simp only [R32, R64] at *; omega)) hQ
    · show WV _ _ _ 28 _ _ _ _ _
      rw [if_pos h_25] at hQ
      refine r_ex 1 (pc' := 29) (lo' := [some (.inr (.inr (some 0))), some (.inl c), some (.inr (.inr (some 79))), some (.inl (cl_nextOf79 (cl_asItIs v) c 0)), none]) (st' := [.inl (-1)]) rfl ?_
      refine r_ret (rr := some (.inl (-1))) (I := .ireturn) (pc0 := 29) (len := 1) rfl rfl ?_
      exact hQ hX_3 
  · show WV _ _ _ 5 _ _ _ _ _
    rw [if_neg h_2] at hQ
    refine r_ex 2 (pc' := 10) (lo' := [some (.inr (.inr (some 0))), some (.inl c), none, none, none]) (st' := [.inl (-2)]) rfl ?_
    refine r_ret (rr := some (.inl (-2))) (I := .ireturn) (pc0 := 10) (len := 1) rfl rfl ?_
    exact hQ hX 

theorem e_cl_lap {X : PX} {d b : Nat} {v : VS} {c : Int} (hX : XI v) (hp_a : R32 c) : EvV X (d + 1 + 1 + 1 + 1 + 1 + 1 + 1) 139 [.inr (.inr (some 0)), .inl c] b v (some (.inl (cl_lap v c).1)) b ((cl_lap v c).2) := EvV.of (w_cl_lap hX hp_a (fun _ => ⟨rfl, rfl, rfl⟩))

theorem i_cl_lap {v : VS} {c : Int} (hX : XI v) (hp_a : R32 c) : XI ((cl_lap v c).2) := by
  have q : WV (0, fun _ => 0, none) (0 + 1 + 1 + 1 + 1 + 1 + 1 + 1) 139 0 [some (.inr (.inr (some 0))), some (.inl c), none, none, none] [] 1 v (fun _ _ _ => XI ((cl_lap v c).2)) := w_cl_lap (X := (0, fun _ => 0, none)) (d := 0) (b := 1) hX hp_a (fun q => q)
  obtain ⟨_, _, _, _, _, _, _, q⟩ := q
  exact q

theorem o_cl_lap {rk : Nat} {v : VS} {c : Int} (hk : (rk < 0 ∨ 0 < rk) ∧ (rk < 67 ∨ 90 < rk) ∧ (rk < 105 ∨ 105 < rk)) : (cl_lap v c).2 rk = v rk := by
  unfold cl_lap
  by_cases hc_ : 0 ≤ c ∧ c < v 33 0
  · rw [if_pos hc_]
    by_cases hc_ : (cl_nextOf79 (cl_asItIs v) c 0) = (-1)
    · rw [if_pos hc_]
      all_goals (show (cl_asItIs v) rk = _)
      all_goals (rw [o_cl_asItIs (by omega)])
    · rw [if_neg hc_]
      all_goals (rw [o_cl_lap_35, o_cl_asItIs (by omega)])
  · rw [if_neg hc_]
    all_goals (show v rk = _)
    all_goals rfl

def cl_gap_24 : Nat → VS → Int → Int → Int → Int → Int
  | 0, v, c, g, p, i => 0
  | f + 1, v, c, g, p, i => (if i < (v 79 4) then (if (v 81 ((i).toNat)) = c then (if p = (-1) then (cl_gap_24 f v c g (v 80 ((i).toNat)) (i + 1)) else (cl_gap_24 f v c (max g ((v 80 ((i).toNat)) - p)) (v 80 ((i).toNat)) (i + 1))) else (cl_gap_24 f v c g p (i + 1))) else g)
def cl_gap (v : VS) (c : Int) : Int × VS :=
  (if 0 ≤ c ∧ c < v 33 0 then ((cl_gap_24 301 (cl_asItIs v) c (-1) (-1) 0), (cl_asItIs v)) else ((-2), v))
theorem l_cl_gap_24 {X : PX} {d b : Nat} {Q : Option PV → Nat → VS → Prop}  : ∀ (f : Nat) (v : VS) (c : Int) (g : Int) (p : Int) (i : Int) (o0 : Option PV), XI v → (0 ≤ i ∧ i ≤ 300) → (R32 c) → (-1 ≤ g ∧ g ≤ 300) → (-1 ≤ p ∧ p ≤ 299) → (300 < i + f) → (∀ qx0 : Option PV, ∀ qx1 : Option PV, ∀ qx2 : Option PV, ∀ qx4 : Option PV, ∀ qx5 : Option PV, (-1 ≤ (cl_gap_24 f v c g p i) ∧ (cl_gap_24 f v c g p i) ≤ 300) → WV X (d + 1 + 1 + 1 + 1 + 1 + 1 + 1) 140 80 [qx0, qx1, qx2, some (.inl (cl_gap_24 f v c g p i)), qx4, qx5] [] b v Q) → WV X (d + 1 + 1 + 1 + 1 + 1 + 1 + 1) 140 24 [o0, some (.inl c), some (.inr (.inr (some 79))), some (.inl g), some (.inl p), some (.inl i)] [] b v Q := by
  intro f
  induction f with
  | zero =>
    intro v c g p i o0 hX hi_0 hi_1 hi_2 hi_3 hf hK
    exfalso
    omega
  | succ f ih =>
    intro v c g p i o0 hX hi_0 hi_1 hi_2 hi_3 hf hK
    rw [cl_gap_24] at hK
    refine r_ex 3 (pc' := 30) (lo' := [o0, some (.inl c), some (.inr (.inr (some 79))), some (.inl g), some (.inl p), some (.inl i)]) (st' := [.inl (v 79 4), .inl i]) rfl ?_
    have hb_4 : 0 ≤ (v 79 4) ∧ (v 79 4) ≤ 300 := hX 79 4
    refine n_ic_ge (pc0 := 30) (len := 3) (t := 80) rfl (by first | assumption | omega | (unfold R32 at *; omega) | (unfold R64 at *; omega) | (simp only [R32, R64] at *; omega)) (by first | assumption | omega | (unfold R32 at *; omega) | (unfold R64 at *; omega) | (simp only [R32, R64] at *; omega)) (fun h_30 => ?_) (fun h_30 => ?_)
    · show WV _ _ _ 80 _ _ _ _ _
      rw [if_neg h_30] at hK
      exact hK _ _ _ _ _  (by first | assumption | omega | (unfold R32 at *; omega) | (unfold R64 at *; omega) | (simp only [R32, R64] at *; omega))
    · show WV _ _ _ 33 _ _ _ _ _
      rw [if_pos h_30] at hK
      refine r_ex 3 (pc' := 39) (lo' := [o0, some (.inl c), some (.inr (.inr (some 79))), some (.inl g), some (.inl p), some (.inl i)]) (st' := [.inl i, .inr (.inr (some 81))]) rfl ?_
      refine r_iald2 (j := 0) (x := (v 81 ((i).toNat))) (pc' := 40) (pc0 := 39) (len := 1) rfl (s_81 _) (by first | assumption | omega | (unfold R32 at *; omega) | (unfold R64 at *; omega) | (simp only [R32, R64] at *; omega)) (by decide) rfl rfl ?_
      have hb_5 : 0 ≤ (v 81 ((i).toNat)) ∧ (v 81 ((i).toNat)) ≤ 8 := hX 81 ((i).toNat)
      refine r_ex 1 (pc' := 41) (lo' := [o0, some (.inl c), some (.inr (.inr (some 79))), some (.inl g), some (.inl p), some (.inl i)]) (st' := [.inl c, .inl (v 81 ((i).toNat))]) rfl ?_
      refine n_ic_ne (pc0 := 41) (len := 3) (t := 74) rfl (by first | assumption | omega | (unfold R32 at *; omega) | (unfold R64 at *; omega) | (simp only [R32, R64] at *; omega)) (by first | assumption | omega | (unfold R32 at *; omega) | (unfold R64 at *; omega) | (simp only [R32, R64] at *; omega)) (fun h_41 => ?_) (fun h_41 => ?_)
      · show WV _ _ _ 74 _ _ _ _ _
        rw [if_neg h_41] at hK
        refine r_ex 2 (pc' := 24) (lo' := [o0, some (.inl c), some (.inr (.inr (some 79))), some (.inl g), some (.inl p), some (.inl (i + 1))]) (st' := []) rfl ?_
        refine ih v c g p (i + 1) _ hX (by first | assumption | omega | (unfold R32 at *; omega) | (unfold R64 at *; omega) | (simp only [R32, R64] at *; omega)) (by first | assumption | omega | (unfold R32 at *; omega) | (unfold R64 at *; omega) | (simp only [R32, R64] at *; omega)) (by first | assumption | omega | (unfold R32 at *; omega) | (unfold R64 at *; omega) | (simp only [R32, R64] at *; omega)) (by first | assumption | omega | (unfold R32 at *; omega) | (unfold R64 at *; omega) | (simp only [R32, R64] at *; omega)) (by first | assumption | omega | (unfold R32 at *; omega) | (unfold R64 at *; omega) | (simp only [R32, R64] at *; omega)) hK
      · show WV _ _ _ 44 _ _ _ _ _
        rw [if_pos h_41] at hK
        refine r_ex 2 (pc' := 47) (lo' := [o0, some (.inl c), some (.inr (.inr (some 79))), some (.inl g), some (.inl p), some (.inl i)]) (st' := [.inl (-1), .inl p]) rfl ?_
        refine n_ic_eq (pc0 := 47) (len := 3) (t := 65) rfl (by first | assumption | omega | (unfold R32 at *; omega) | (unfold R64 at *; omega) | (simp only [R32, R64] at *; omega)) (by first | assumption | omega | (unfold R32 at *; omega) | (unfold R64 at *; omega) | (simp only [R32, R64] at *; omega)) (fun h_47 => ?_) (fun h_47 => ?_)
        · show WV _ _ _ 65 _ _ _ _ _
          rw [if_pos h_47] at hK
          refine r_ex 3 (pc' := 71) (lo' := [o0, some (.inl c), some (.inr (.inr (some 79))), some (.inl g), some (.inl p), some (.inl i)]) (st' := [.inl i, .inr (.inr (some 80))]) rfl ?_
          refine r_iald2 (j := 0) (x := (v 80 ((i).toNat))) (pc' := 72) (pc0 := 71) (len := 1) rfl (s_80 _) (by first | assumption | omega | (unfold R32 at *; omega) | (unfold R64 at *; omega) | (simp only [R32, R64] at *; omega)) (by decide) rfl rfl ?_
          have hb_6 : 0 ≤ (v 80 ((i).toNat)) ∧ (v 80 ((i).toNat)) ≤ 299 := hX 80 ((i).toNat)
          refine r_ex 3 (pc' := 24) (lo' := [o0, some (.inl c), some (.inr (.inr (some 79))), some (.inl g), some (.inl (v 80 ((i).toNat))), some (.inl (i + 1))]) (st' := []) rfl ?_
          refine ih v c g (v 80 ((i).toNat)) (i + 1) _ hX (by first | assumption | omega | (unfold R32 at *; omega) | (unfold R64 at *; omega) | (simp only [R32, R64] at *; omega)) (by first | assumption | omega | (unfold R32 at *; omega) | (unfold R64 at *; omega) | (simp only [R32, R64] at *; omega)) (by first | assumption | omega | (unfold R32 at *; omega) | (unfold R64 at *; omega) | (simp only [R32, R64] at *; omega)) (by first | assumption | omega | (unfold R32 at *; omega) | (unfold R64 at *; omega) | (simp only [R32, R64] at *; omega)) (by first | assumption | omega | (unfold R32 at *; omega) | (unfold R64 at *; omega) | (simp only [R32, R64] at *; omega)) hK
        · show WV _ _ _ 50 _ _ _ _ _
          rw [if_neg h_47] at hK
          refine r_ex 4 (pc' := 57) (lo' := [o0, some (.inl c), some (.inr (.inr (some 79))), some (.inl g), some (.inl p), some (.inl i)]) (st' := [.inl i, .inr (.inr (some 80)), .inl g]) rfl ?_
          refine r_iald2 (j := 0) (x := (v 80 ((i).toNat))) (pc' := 58) (pc0 := 57) (len := 1) rfl (s_80 _) (by first | assumption | omega | (unfold R32 at *; omega) | (unfold R64 at *; omega) | (simp only [R32, R64] at *; omega)) (by decide) rfl rfl ?_
          have hb_7 : 0 ≤ (v 80 ((i).toNat)) ∧ (v 80 ((i).toNat)) ≤ 299 := hX 80 ((i).toNat)
          refine r_ex 2 (pc' := 61) (lo' := [o0, some (.inl c), some (.inr (.inr (some 79))), some (.inl g), some (.inl p), some (.inl i)]) (st' := [.inl ((v 80 ((i).toNat)) - p), .inl g]) rfl ?_
          refine r_prim (x := .inl (if w32 g < w32 ((v 80 ((i).toNat)) - p) then ((v 80 ((i).toNat)) - p) else g)) (m := 69) (args := [.inl g, .inl ((v 80 ((i).toNat)) - p)]) (n' := 140) (pc' := 64) (lo' := [o0, some (.inl c), some (.inr (.inr (some 79))), some (.inl g), some (.inl p), some (.inl i)]) (st' := []) (I := .invokestatic 69) (pc0 := 61) (len := 3) rfl rfl rfl ?_
          rw [mx32 (by first | assumption | omega | (unfold R32 at *; omega) | (unfold R64 at *; omega) | (simp only [R32, R64] at *; omega)) (by first | assumption | omega | (unfold R32 at *; omega) | (unfold R64 at *; omega) | (simp only [R32, R64] at *; omega))]
          refine r_ex 4 (pc' := 71) (lo' := [o0, some (.inl c), some (.inr (.inr (some 79))), some (.inl (max g ((v 80 ((i).toNat)) - p))), some (.inl p), some (.inl i)]) (st' := [.inl i, .inr (.inr (some 80))]) rfl ?_
          refine r_iald2 (j := 0) (x := (v 80 ((i).toNat))) (pc' := 72) (pc0 := 71) (len := 1) rfl (s_80 _) (by first | assumption | omega | (unfold R32 at *; omega) | (unfold R64 at *; omega) | (simp only [R32, R64] at *; omega)) (by decide) rfl rfl ?_
          refine r_ex 3 (pc' := 24) (lo' := [o0, some (.inl c), some (.inr (.inr (some 79))), some (.inl (max g ((v 80 ((i).toNat)) - p))), some (.inl (v 80 ((i).toNat))), some (.inl (i + 1))]) (st' := []) rfl ?_
          refine ih v c (max g ((v 80 ((i).toNat)) - p)) (v 80 ((i).toNat)) (i + 1) _ hX (by first | assumption | omega | (unfold R32 at *; omega) | (unfold R64 at *; omega) | (simp only [R32, R64] at *; omega)) (by first | assumption | omega | (unfold R32 at *; omega) | (unfold R64 at *; omega) | (simp only [R32, R64] at *; omega)) (by first | assumption | omega | (unfold R32 at *; omega) | (unfold R64 at *; omega) | (simp only [R32, R64] at *; omega)) (by first | assumption | omega | (unfold R32 at *; omega) | (unfold R64 at *; omega) | (simp only [R32, R64] at *; omega)) (by first | assumption | omega | (unfold R32 at *; omega) | (unfold R64 at *; omega) | (simp only [R32, R64] at *; omega)) hK

theorem w_cl_gap {X : PX} {d b : Nat} {v : VS} {c : Int} (hX : XI v) (hp_a : R32 c) {Q : Option PV → Nat → VS → Prop} (hQ : XI (cl_gap v c).2 → Q (some (.inl (cl_gap v c).1)) b (cl_gap v c).2) : WV X (d + 1 + 1 + 1 + 1 + 1 + 1 + 1) 140 0 [some (.inr (.inr (some 0))), some (.inl c), none, none, none, none] [] b v Q := by
  rw [cl_gap] at hQ
  refine r_ex 2 (pc' := 2) (lo' := [some (.inr (.inr (some 0))), some (.inl c), none, none, none, none]) (st' := [.inl c, .inr (.inr (some 0))]) rfl ?_
  have hp_1 : R32 c := (by first | assumption | omega | (unfold R32 at *; omega) | (unfold R64 at *; omega) | (simp only [R32, R64] at *; omega))
  have hb_2 : 0 ≤ v 33 0 ∧ v 33 0 ≤ 9 := hX 33 0
  refine r_callb (P := 0 ≤ c ∧ c < v 33 0) (m := 62) (args := [.inr (.inr (some 0)), .inl c]) (n' := 140) (pc' := 5) (lo' := [some (.inr (.inr (some 0))), some (.inl c), none, none, none, none]) (st' := []) (I := .invokevirtual 62) (pc0 := 2) (len := 3) rfl rfl rfl (e_cl_isChurch hX hp_1) (fun h_2 => ?_) (fun h_2 => ?_)
  · show WV _ _ _ 5 _ _ _ _ _
    rw [if_pos h_2] at hQ
    refine r_ex 2 (pc' := 12) (lo' := [some (.inr (.inr (some 0))), some (.inl c), none, none, none, none]) (st' := [.inr (.inr (some 0))]) rfl ?_
    refine r_call (m := 72) (args := [.inr (.inr (some 0))]) (n' := 140) (pc' := 15) (lo' := [some (.inr (.inr (some 0))), some (.inl c), none, none, none, none]) (st' := []) (I := .invokevirtual 72) (pc0 := 12) (len := 3) rfl rfl rfl (e_cl_asItIs hX) ?_
    show WV _ _ _ 15 _ [.inr (.inr (some 79))] _ (cl_asItIs v) _
    have hX_3 : XI (cl_asItIs v) := i_cl_asItIs (v := v) hX
    refine r_ex 7 (pc' := 24) (lo' := [some (.inr (.inr (some 0))), some (.inl c), some (.inr (.inr (some 79))), some (.inl (-1)), some (.inl (-1)), some (.inl 0)]) (st' := []) rfl ?_
    refine l_cl_gap_24 301 (cl_asItIs v) c (-1) (-1) 0 _ hX_3 (by first | assumption | omega | (unfold R32 at *; omega) | (unfold R64 at *; omega) | (simp only [R32, R64] at *; omega)) (by first | assumption | omega | (unfold R32 at *; omega) | (unfold R64 at *; omega) | (simp only [R32, R64] at *; omega)) (by first | assumption | omega | (unfold R32 at *; omega) | (unfold R64 at *; omega) | (simp only [R32, R64] at *; omega)) (by first | assumption | omega | (unfold R32 at *; omega) | (unfold R64 at *; omega) | (simp only [R32, R64] at *; omega)) (by first | assumption | omega | (unfold R32 at *; omega) | (unfold R64 at *; omega) | (simp only [R32, R64] at *; omega)) (fun o0_8 o1_8 o2_8 o4_8 o5_8  hv_8_0 => ?_)
    show WV _ _ _ 80 _ _ _ _ _
    refine r_ex 1 (pc' := 81) (lo' := [o0_8, o1_8, o2_8, some (.inl (cl_gap_24 301 (cl_asItIs v) c (-1) (-1) 0)), o4_8, o5_8]) (st' := [.inl (cl_gap_24 301 (cl_asItIs v) c (-1) (-1) 0)]) rfl ?_
    refine r_ret (rr := some (.inl (cl_gap_24 301 (cl_asItIs v) c (-1) (-1) 0))) (I := .ireturn) (pc0 := 81) (len := 1) rfl rfl ?_
    exact hQ hX_3 
  · show WV _ _ _ 5 _ _ _ _ _
    rw [if_neg h_2] at hQ
    refine r_ex 2 (pc' := 10) (lo' := [some (.inr (.inr (some 0))), some (.inl c), none, none, none, none]) (st' := [.inl (-2)]) rfl ?_
    refine r_ret (rr := some (.inl (-2))) (I := .ireturn) (pc0 := 10) (len := 1) rfl rfl ?_
    exact hQ hX 

theorem e_cl_gap {X : PX} {d b : Nat} {v : VS} {c : Int} (hX : XI v) (hp_a : R32 c) : EvV X (d + 1 + 1 + 1 + 1 + 1 + 1 + 1) 140 [.inr (.inr (some 0)), .inl c] b v (some (.inl (cl_gap v c).1)) b ((cl_gap v c).2) := EvV.of (w_cl_gap hX hp_a (fun _ => ⟨rfl, rfl, rfl⟩))

theorem i_cl_gap {v : VS} {c : Int} (hX : XI v) (hp_a : R32 c) : XI ((cl_gap v c).2) := by
  have q : WV (0, fun _ => 0, none) (0 + 1 + 1 + 1 + 1 + 1 + 1 + 1) 140 0 [some (.inr (.inr (some 0))), some (.inl c), none, none, none, none] [] 1 v (fun _ _ _ => XI ((cl_gap v c).2)) := w_cl_gap (X := (0, fun _ => 0, none)) (d := 0) (b := 1) hX hp_a (fun q => q)
  obtain ⟨_, _, _, _, _, _, _, q⟩ := q
  exact q

theorem o_cl_gap {rk : Nat} {v : VS} {c : Int} (hk : (rk < 0 ∨ 0 < rk) ∧ (rk < 67 ∨ 90 < rk) ∧ (rk < 105 ∨ 105 < rk)) : (cl_gap v c).2 rk = v rk := by
  unfold cl_gap
  by_cases hc_ : 0 ≤ c ∧ c < v 33 0
  · rw [if_pos hc_]
    all_goals (show (cl_asItIs v) rk = _)
    all_goals (rw [o_cl_asItIs (by omega)])
  · rw [if_neg hc_]
    all_goals (show v rk = _)
    all_goals rfl

def cl_waits_27 : Nat → VS → Int → Int → Int → Int × VS
  | 0, v, c, s, i => (0, v)
  | f + 1, v, c, s, i => (if i < (v 79 4) then (if (v 81 ((i).toNat)) = c then (if (v 80 ((i).toNat)) < s then (cl_waits_27 f v c s (i + 1)) else (((v 80 ((i).toNat)) - s), v)) else (cl_waits_27 f v c s (i + 1))) else ((-1), v))
def cl_waits (v : VS) (c : Int) (s : Int) : Int × VS :=
  (if 0 ≤ c ∧ c < v 33 0 then (if 0 ≤ s ∧ s < v 33 1 then (cl_waits_27 301 (cl_asItIs v) c s 0) else ((-2), v)) else ((-2), v))
theorem l_cl_waits_27 {X : PX} {d b : Nat} {Q : Option PV → Nat → VS → Prop}  : ∀ (f : Nat) (v : VS) (c : Int) (s : Int) (i : Int) (o0 : Option PV), XI v → (0 ≤ i ∧ i ≤ 300) → (R32 c) → (0 ≤ s ∧ s ≤ 300) → (300 < i + f) → (XI (cl_waits_27 f v c s i).2 → Q (some (.inl (cl_waits_27 f v c s i).1)) b (cl_waits_27 f v c s i).2) → WV X (d + 1 + 1 + 1 + 1 + 1 + 1 + 1) 141 27 [o0, some (.inl c), some (.inl s), some (.inr (.inr (some 79))), some (.inl i)] [] b v Q := by
  intro f
  induction f with
  | zero =>
    intro v c s i o0 hX hi_0 hi_1 hi_2 hf hQ
    exfalso
    omega
  | succ f ih =>
    intro v c s i o0 hX hi_0 hi_1 hi_2 hf hQ
    rw [cl_waits_27] at hQ
    refine r_ex 3 (pc' := 33) (lo' := [o0, some (.inl c), some (.inl s), some (.inr (.inr (some 79))), some (.inl i)]) (st' := [.inl (v 79 4), .inl i]) rfl ?_
    have hb_6 : 0 ≤ (v 79 4) ∧ (v 79 4) ≤ 300 := hX 79 4
    refine n_ic_ge (pc0 := 33) (len := 3) (t := 74) rfl (by first | assumption | omega | (unfold R32 at *; omega) | (unfold R64 at *; omega) | (simp only [R32, R64] at *; omega)) (by first | assumption | omega | (unfold R32 at *; omega) | (unfold R64 at *; omega) | (simp only [R32, R64] at *; omega)) (fun h_33 => ?_) (fun h_33 => ?_)
    · show WV _ _ _ 74 _ _ _ _ _
      rw [if_neg h_33] at hQ
      refine r_ex 1 (pc' := 75) (lo' := [o0, some (.inl c), some (.inl s), some (.inr (.inr (some 79))), some (.inl i)]) (st' := [.inl (-1)]) rfl ?_
      refine r_ret (rr := some (.inl (-1))) (I := .ireturn) (pc0 := 75) (len := 1) rfl rfl ?_
      exact hQ hX 
    · show WV _ _ _ 36 _ _ _ _ _
      rw [if_pos h_33] at hQ
      refine r_ex 3 (pc' := 42) (lo' := [o0, some (.inl c), some (.inl s), some (.inr (.inr (some 79))), some (.inl i)]) (st' := [.inl i, .inr (.inr (some 81))]) rfl ?_
      refine r_iald2 (j := 0) (x := (v 81 ((i).toNat))) (pc' := 43) (pc0 := 42) (len := 1) rfl (s_81 _) (by first | assumption | omega | (unfold R32 at *; omega) | (unfold R64 at *; omega) | (simp only [R32, R64] at *; omega)) (by decide) rfl rfl ?_
      have hb_7 : 0 ≤ (v 81 ((i).toNat)) ∧ (v 81 ((i).toNat)) ≤ 8 := hX 81 ((i).toNat)
      refine r_ex 1 (pc' := 44) (lo' := [o0, some (.inl c), some (.inl s), some (.inr (.inr (some 79))), some (.inl i)]) (st' := [.inl c, .inl (v 81 ((i).toNat))]) rfl ?_
      refine n_ic_ne (pc0 := 44) (len := 3) (t := 68) rfl (by first | assumption | omega | (unfold R32 at *; omega) | (unfold R64 at *; omega) | (simp only [R32, R64] at *; omega)) (by first | assumption | omega | (unfold R32 at *; omega) | (unfold R64 at *; omega) | (simp only [R32, R64] at *; omega)) (fun h_44 => ?_) (fun h_44 => ?_)
      · show WV _ _ _ 68 _ _ _ _ _
        rw [if_neg h_44] at hQ
        refine r_ex 2 (pc' := 27) (lo' := [o0, some (.inl c), some (.inl s), some (.inr (.inr (some 79))), some (.inl (i + 1))]) (st' := []) rfl ?_
        refine ih v c s (i + 1) _ hX (by first | assumption | omega | (unfold R32 at *; omega) | (unfold R64 at *; omega) | (simp only [R32, R64] at *; omega)) (by first | assumption | omega | (unfold R32 at *; omega) | (unfold R64 at *; omega) | (simp only [R32, R64] at *; omega)) (by first | assumption | omega | (unfold R32 at *; omega) | (unfold R64 at *; omega) | (simp only [R32, R64] at *; omega)) (by first | assumption | omega | (unfold R32 at *; omega) | (unfold R64 at *; omega) | (simp only [R32, R64] at *; omega)) hQ
      · show WV _ _ _ 47 _ _ _ _ _
        rw [if_pos h_44] at hQ
        refine r_ex 3 (pc' := 53) (lo' := [o0, some (.inl c), some (.inl s), some (.inr (.inr (some 79))), some (.inl i)]) (st' := [.inl i, .inr (.inr (some 80))]) rfl ?_
        refine r_iald2 (j := 0) (x := (v 80 ((i).toNat))) (pc' := 54) (pc0 := 53) (len := 1) rfl (s_80 _) (by first | assumption | omega | (unfold R32 at *; omega) | (unfold R64 at *; omega) | (simp only [R32, R64] at *; omega)) (by decide) rfl rfl ?_
        have hb_8 : 0 ≤ (v 80 ((i).toNat)) ∧ (v 80 ((i).toNat)) ≤ 299 := hX 80 ((i).toNat)
        refine r_ex 1 (pc' := 55) (lo' := [o0, some (.inl c), some (.inl s), some (.inr (.inr (some 79))), some (.inl i)]) (st' := [.inl s, .inl (v 80 ((i).toNat))]) rfl ?_
        refine n_ic_lt (pc0 := 55) (len := 3) (t := 68) rfl (by first | assumption | omega | (unfold R32 at *; omega) | (unfold R64 at *; omega) | (simp only [R32, R64] at *; omega)) (by first | assumption | omega | (unfold R32 at *; omega) | (unfold R64 at *; omega) | (simp only [R32, R64] at *; omega)) (fun h_55 => ?_) (fun h_55 => ?_)
        · show WV _ _ _ 68 _ _ _ _ _
          rw [if_pos h_55] at hQ
          refine r_ex 2 (pc' := 27) (lo' := [o0, some (.inl c), some (.inl s), some (.inr (.inr (some 79))), some (.inl (i + 1))]) (st' := []) rfl ?_
          refine ih v c s (i + 1) _ hX (by first | assumption | omega | (unfold R32 at *; omega) | (unfold R64 at *; omega) | (simp only [R32, R64] at *; omega)) (by first | assumption | omega | (unfold R32 at *; omega) | (unfold R64 at *; omega) | (simp only [R32, R64] at *; omega)) (by first | assumption | omega | (unfold R32 at *; omega) | (unfold R64 at *; omega) | (simp only [R32, R64] at *; omega)) (by first | assumption | omega | (unfold R32 at *; omega) | (unfold R64 at *; omega) | (simp only [R32, R64] at *; omega)) hQ
        · show WV _ _ _ 58 _ _ _ _ _
          rw [if_neg h_55] at hQ
          refine r_ex 3 (pc' := 64) (lo' := [o0, some (.inl c), some (.inl s), some (.inr (.inr (some 79))), some (.inl i)]) (st' := [.inl i, .inr (.inr (some 80))]) rfl ?_
          refine r_iald2 (j := 0) (x := (v 80 ((i).toNat))) (pc' := 65) (pc0 := 64) (len := 1) rfl (s_80 _) (by first | assumption | omega | (unfold R32 at *; omega) | (unfold R64 at *; omega) | (simp only [R32, R64] at *; omega)) (by decide) rfl rfl ?_
          refine r_ex 2 (pc' := 67) (lo' := [o0, some (.inl c), some (.inl s), some (.inr (.inr (some 79))), some (.inl i)]) (st' := [.inl ((v 80 ((i).toNat)) - s)]) rfl ?_
          refine r_ret (rr := some (.inl ((v 80 ((i).toNat)) - s))) (I := .ireturn) (pc0 := 67) (len := 1) rfl rfl ?_
          exact hQ hX 

theorem of_cl_waits_27 {rk : Nat}  : ∀ (f : Nat) {v : VS} {c : Int} {s : Int} {i : Int}, (cl_waits_27 f v c s i).2 rk = v rk := by
  intro f
  induction f with
  | zero => intro v c s i; rfl
  | succ f ih =>
    intro v c s i
    rw [cl_waits_27]
    by_cases hc_ : i < (v 79 4)
    · rw [if_pos hc_]
      by_cases hc_ : (v 81 ((i).toNat)) = c
      · rw [if_pos hc_]
        by_cases hc_ : (v 80 ((i).toNat)) < s
        · rw [if_pos hc_]
          all_goals (rw [ih])
        · rw [if_neg hc_]
          all_goals (show v rk = _)
          all_goals rfl
      · rw [if_neg hc_]
        all_goals (rw [ih])
    · rw [if_neg hc_]
      all_goals (show v rk = _)
      all_goals rfl
theorem o_cl_waits_27 {rk : Nat} {f : Nat} {v : VS} {c : Int} {s : Int} {i : Int}  : (cl_waits_27 f v c s i).2 rk = v rk := of_cl_waits_27  f

theorem w_cl_waits {X : PX} {d b : Nat} {v : VS} {c : Int} {s : Int} (hX : XI v) (hp_a : R32 c) (hp_b : R32 s) {Q : Option PV → Nat → VS → Prop} (hQ : XI (cl_waits v c s).2 → Q (some (.inl (cl_waits v c s).1)) b (cl_waits v c s).2) : WV X (d + 1 + 1 + 1 + 1 + 1 + 1 + 1) 141 0 [some (.inr (.inr (some 0))), some (.inl c), some (.inl s), none, none] [] b v Q := by
  rw [cl_waits] at hQ
  refine r_ex 2 (pc' := 2) (lo' := [some (.inr (.inr (some 0))), some (.inl c), some (.inl s), none, none]) (st' := [.inl c, .inr (.inr (some 0))]) rfl ?_
  have hp_1 : R32 c := (by first | assumption | omega | (unfold R32 at *; omega) | (unfold R64 at *; omega) | (simp only [R32, R64] at *; omega))
  have hb_2 : 0 ≤ v 33 0 ∧ v 33 0 ≤ 9 := hX 33 0
  refine r_callb (P := 0 ≤ c ∧ c < v 33 0) (m := 62) (args := [.inr (.inr (some 0)), .inl c]) (n' := 141) (pc' := 5) (lo' := [some (.inr (.inr (some 0))), some (.inl c), some (.inl s), none, none]) (st' := []) (I := .invokevirtual 62) (pc0 := 2) (len := 3) rfl rfl rfl (e_cl_isChurch hX hp_1) (fun h_2 => ?_) (fun h_2 => ?_)
  · show WV _ _ _ 5 _ _ _ _ _
    rw [if_pos h_2] at hQ
    refine r_ex 3 (pc' := 10) (lo' := [some (.inr (.inr (some 0))), some (.inl c), some (.inl s), none, none]) (st' := [.inl s, .inr (.inr (some 0))]) rfl ?_
    have hp_3 : R32 s := (by first | assumption | omega | (unfold R32 at *; omega) | (unfold R64 at *; omega) | (simp only [R32, R64] at *; omega))
    have hb_4 : 0 ≤ v 33 1 ∧ v 33 1 ≤ 300 := hX 33 1
    refine r_callb (P := 0 ≤ s ∧ s < v 33 1) (m := 67) (args := [.inr (.inr (some 0)), .inl s]) (n' := 141) (pc' := 13) (lo' := [some (.inr (.inr (some 0))), some (.inl c), some (.inl s), none, none]) (st' := []) (I := .invokevirtual 67) (pc0 := 10) (len := 3) rfl rfl rfl (e_cl_isSecond hX hp_3) (fun h_10 => ?_) (fun h_10 => ?_)
    · show WV _ _ _ 13 _ _ _ _ _
      rw [if_pos h_10] at hQ
      refine r_ex 2 (pc' := 20) (lo' := [some (.inr (.inr (some 0))), some (.inl c), some (.inl s), none, none]) (st' := [.inr (.inr (some 0))]) rfl ?_
      refine r_call (m := 72) (args := [.inr (.inr (some 0))]) (n' := 141) (pc' := 23) (lo' := [some (.inr (.inr (some 0))), some (.inl c), some (.inl s), none, none]) (st' := []) (I := .invokevirtual 72) (pc0 := 20) (len := 3) rfl rfl rfl (e_cl_asItIs hX) ?_
      show WV _ _ _ 23 _ [.inr (.inr (some 79))] _ (cl_asItIs v) _
      have hX_5 : XI (cl_asItIs v) := i_cl_asItIs (v := v) hX
      refine r_ex 3 (pc' := 27) (lo' := [some (.inr (.inr (some 0))), some (.inl c), some (.inl s), some (.inr (.inr (some 79))), some (.inl 0)]) (st' := []) rfl ?_
      exact l_cl_waits_27 301 (cl_asItIs v) c s 0 _ hX_5 (by first | assumption | omega | (unfold R32 at *; omega) | (unfold R64 at *; omega) | (simp only [R32, R64] at *; omega)) (by first | assumption | omega | (unfold R32 at *; omega) | (unfold R64 at *; omega) | (simp only [R32, R64] at *; omega)) (by first | assumption | omega | (unfold R32 at *; omega) | (unfold R64 at *; omega) | (simp only [R32, R64] at *; omega)) (by first | assumption | omega | (unfold R32 at *; omega) | (unfold R64 at *; omega) | (simp only [R32, R64] at *; omega)) hQ
    · show WV _ _ _ 13 _ _ _ _ _
      rw [if_neg h_10] at hQ
      refine r_ex 2 (pc' := 18) (lo' := [some (.inr (.inr (some 0))), some (.inl c), some (.inl s), none, none]) (st' := [.inl (-2)]) rfl ?_
      refine r_ret (rr := some (.inl (-2))) (I := .ireturn) (pc0 := 18) (len := 1) rfl rfl ?_
      exact hQ hX 
  · show WV _ _ _ 5 _ _ _ _ _
    rw [if_neg h_2] at hQ
    refine r_ex 2 (pc' := 18) (lo' := [some (.inr (.inr (some 0))), some (.inl c), some (.inl s), none, none]) (st' := [.inl (-2)]) rfl ?_
    refine r_ret (rr := some (.inl (-2))) (I := .ireturn) (pc0 := 18) (len := 1) rfl rfl ?_
    exact hQ hX 

theorem e_cl_waits {X : PX} {d b : Nat} {v : VS} {c : Int} {s : Int} (hX : XI v) (hp_a : R32 c) (hp_b : R32 s) : EvV X (d + 1 + 1 + 1 + 1 + 1 + 1 + 1) 141 [.inr (.inr (some 0)), .inl c, .inl s] b v (some (.inl (cl_waits v c s).1)) b ((cl_waits v c s).2) := EvV.of (w_cl_waits hX hp_a hp_b (fun _ => ⟨rfl, rfl, rfl⟩))

theorem i_cl_waits {v : VS} {c : Int} {s : Int} (hX : XI v) (hp_a : R32 c) (hp_b : R32 s) : XI ((cl_waits v c s).2) := by
  have q : WV (0, fun _ => 0, none) (0 + 1 + 1 + 1 + 1 + 1 + 1 + 1) 141 0 [some (.inr (.inr (some 0))), some (.inl c), some (.inl s), none, none] [] 1 v (fun _ _ _ => XI ((cl_waits v c s).2)) := w_cl_waits (X := (0, fun _ => 0, none)) (d := 0) (b := 1) hX hp_a hp_b (fun q => q)
  obtain ⟨_, _, _, _, _, _, _, q⟩ := q
  exact q

theorem o_cl_waits {rk : Nat} {v : VS} {c : Int} {s : Int} (hk : (rk < 0 ∨ 0 < rk) ∧ (rk < 67 ∨ 90 < rk) ∧ (rk < 105 ∨ 105 < rk)) : (cl_waits v c s).2 rk = v rk := by
  unfold cl_waits
  by_cases hc_ : 0 ≤ c ∧ c < v 33 0
  · rw [if_pos hc_]
    by_cases hc_ : 0 ≤ s ∧ s < v 33 1
    · rw [if_pos hc_]
      all_goals (rw [o_cl_waits_27, o_cl_asItIs (by omega)])
    · rw [if_neg hc_]
      all_goals (show v rk = _)
      all_goals rfl
  · rw [if_neg hc_]
    all_goals (show v rk = _)
    all_goals rfl

def cl_rank_36 : Nat → VS → Int → Int → Int → Int
  | 0, v, a, n, j => 0
  | f + 1, v, a, n, j => (if j < (v 33 0) then (if (cl_nextOf79 v j 0) = (-1) then (cl_rank_36 f v a n (j + 1)) else (if (cl_nextOf79 v j 0) < a then (cl_rank_36 f v a (n + 1) (j + 1)) else (cl_rank_36 f v a n (j + 1)))) else n)
def cl_rank (v : VS) (c : Int) : Int × VS :=
  (if 0 ≤ c ∧ c < v 33 0 then (if (cl_nextOf79 (cl_asItIs v) c 0) = (-1) then ((-1), (cl_asItIs v)) else ((cl_rank_36 10 (cl_asItIs v) (cl_nextOf79 (cl_asItIs v) c 0) 0 0), (cl_asItIs v))) else ((-2), v))
theorem l_cl_rank_36 {X : PX} {d b : Nat} {Q : Option PV → Nat → VS → Prop}  : ∀ (f : Nat) (v : VS) (a : Int) (n : Int) (j : Int) (o6 : Option PV) (z1 : Int), XI v → (0 ≤ j ∧ j ≤ 9) → (-1 ≤ a ∧ a ≤ 299) → (0 ≤ n ∧ n ≤ j) → (9 < j + f) → (∀ qx0 : Option PV, ∀ qx1 : Option PV, ∀ qx2 : Option PV, ∀ qx3 : Option PV, ∀ qx5 : Option PV, ∀ qx6 : Option PV, (0 ≤ (cl_rank_36 f v a n j) ∧ (cl_rank_36 f v a n j) ≤ 9) → WV X (d + 1 + 1 + 1 + 1 + 1 + 1 + 1) 142 78 [qx0, qx1, qx2, qx3, some (.inl (cl_rank_36 f v a n j)), qx5, qx6] [] b v Q) → WV X (d + 1 + 1 + 1 + 1 + 1 + 1 + 1) 142 36 [some (.inr (.inr (some 0))), some (.inl z1), some (.inr (.inr (some 79))), some (.inl a), some (.inl n), some (.inl j), o6] [] b v Q := by
  intro f
  induction f with
  | zero =>
    intro v a n j o6 z1 hX hi_0 hi_1 hi_2 hf hK
    exfalso
    omega
  | succ f ih =>
    intro v a n j o6 z1 hX hi_0 hi_1 hi_2 hf hK
    rw [cl_rank_36] at hK
    refine r_ex 4 (pc' := 45) (lo' := [some (.inr (.inr (some 0))), some (.inl z1), some (.inr (.inr (some 79))), some (.inl a), some (.inl n), some (.inl j), o6]) (st' := [.inl (v 33 0), .inl j]) rfl ?_
    have hb_7 : 0 ≤ (v 33 0) ∧ (v 33 0) ≤ 9 := hX 33 0
    refine n_ic_ge (pc0 := 45) (len := 3) (t := 78) rfl (by first | assumption | omega | (unfold R32 at *; omega) | (unfold R64 at *; omega) | (simp only [R32, R64] at *; omega)) (by first | assumption | omega | (unfold R32 at *; omega) | (unfold R64 at *; omega) | (simp only [R32, R64] at *; omega)) (fun h_45 => ?_) (fun h_45 => ?_)
    · show WV _ _ _ 78 _ _ _ _ _
      rw [if_neg h_45] at hK
      exact hK _ _ _ _ _ _  (by first | assumption | omega | (unfold R32 at *; omega) | (unfold R64 at *; omega) | (simp only [R32, R64] at *; omega))
    · show WV _ _ _ 48 _ _ _ _ _
      rw [if_pos h_45] at hK
      refine r_ex 3 (pc' := 52) (lo' := [some (.inr (.inr (some 0))), some (.inl z1), some (.inr (.inr (some 79))), some (.inl a), some (.inl n), some (.inl j), o6]) (st' := [.inl 0, .inl j, .inr (.inr (some 79))]) rfl ?_
      have hp_8 : R32 j := (by first | assumption | omega | (unfold R32 at *; omega) | (unfold R64 at *; omega) | (simp only [R32, R64] at *; omega))
      have hp_9 : 0 ≤ (0 : Int) ∧ (0 : Int) ≤ 300 := (by first | assumption | omega | (unfold R32 at *; omega) | (unfold R64 at *; omega) | (simp only [R32, R64] at *; omega))
      refine r_call (m := 93) (args := [.inr (.inr (some 79)), .inl j, .inl 0]) (n' := 142) (pc' := 55) (lo' := [some (.inr (.inr (some 0))), some (.inl z1), some (.inr (.inr (some 79))), some (.inl a), some (.inl n), some (.inl j), o6]) (st' := []) (I := .invokevirtual 93) (pc0 := 52) (len := 3) rfl rfl rfl (e_cl_nextOf79 hX hp_8 hp_9) ?_
      show WV _ _ _ 55 _ [.inl (cl_nextOf79 v j 0)] _ _ _
      have hb_10 := n_cl_nextOf79 (v := v) (c := j) (s := 0) hX hp_8 hp_9
      refine r_ex 3 (pc' := 60) (lo' := [some (.inr (.inr (some 0))), some (.inl z1), some (.inr (.inr (some 79))), some (.inl a), some (.inl n), some (.inl j), some (.inl (cl_nextOf79 v j 0))]) (st' := [.inl (-1), .inl (cl_nextOf79 v j 0)]) rfl ?_
      refine n_ic_eq (pc0 := 60) (len := 3) (t := 72) rfl (by first | assumption | omega | (unfold R32 at *; omega) | (unfold R64 at *; omega) | (simp only [R32, R64] at *; omega)) (by first | assumption | omega | (unfold R32 at *; omega) | (unfold R64 at *; omega) | (simp only [R32, R64] at *; omega)) (fun h_60 => ?_) (fun h_60 => ?_)
      · show WV _ _ _ 72 _ _ _ _ _
        rw [if_pos h_60] at hK
        refine r_ex 2 (pc' := 36) (lo' := [some (.inr (.inr (some 0))), some (.inl z1), some (.inr (.inr (some 79))), some (.inl a), some (.inl n), some (.inl (j + 1)), some (.inl (cl_nextOf79 v j 0))]) (st' := []) rfl ?_
        refine ih v a n (j + 1) _ _ hX (by first | assumption | omega | (unfold R32 at *; omega) | (unfold R64 at *; omega) | (simp only [R32, R64] at *; omega)) (by first | assumption | omega | (unfold R32 at *; omega) | (unfold R64 at *; omega) | (simp only [R32, R64] at *; omega)) (by first | assumption | omega | (unfold R32 at *; omega) | (unfold R64 at *; omega) | (simp only [R32, R64] at *; omega)) (by first | assumption | omega | (unfold R32 at *; omega) | (unfold R64 at *; omega) | (simp only [R32, R64] at *; omega)) hK
      · show WV _ _ _ 63 _ _ _ _ _
        rw [if_neg h_60] at hK
        refine r_ex 2 (pc' := 66) (lo' := [some (.inr (.inr (some 0))), some (.inl z1), some (.inr (.inr (some 79))), some (.inl a), some (.inl n), some (.inl j), some (.inl (cl_nextOf79 v j 0))]) (st' := [.inl a, .inl (cl_nextOf79 v j 0)]) rfl ?_
        refine n_ic_ge (pc0 := 66) (len := 3) (t := 72) rfl (by first | assumption | omega | (unfold R32 at *; omega) | (unfold R64 at *; omega) | (simp only [R32, R64] at *; omega)) (by first | assumption | omega | (unfold R32 at *; omega) | (unfold R64 at *; omega) | (simp only [R32, R64] at *; omega)) (fun h_66 => ?_) (fun h_66 => ?_)
        · show WV _ _ _ 72 _ _ _ _ _
          rw [if_neg h_66] at hK
          refine r_ex 2 (pc' := 36) (lo' := [some (.inr (.inr (some 0))), some (.inl z1), some (.inr (.inr (some 79))), some (.inl a), some (.inl n), some (.inl (j + 1)), some (.inl (cl_nextOf79 v j 0))]) (st' := []) rfl ?_
          refine ih v a n (j + 1) _ _ hX (by first | assumption | omega | (unfold R32 at *; omega) | (unfold R64 at *; omega) | (simp only [R32, R64] at *; omega)) (by first | assumption | omega | (unfold R32 at *; omega) | (unfold R64 at *; omega) | (simp only [R32, R64] at *; omega)) (by first | assumption | omega | (unfold R32 at *; omega) | (unfold R64 at *; omega) | (simp only [R32, R64] at *; omega)) (by first | assumption | omega | (unfold R32 at *; omega) | (unfold R64 at *; omega) | (simp only [R32, R64] at *; omega)) hK
        · show WV _ _ _ 69 _ _ _ _ _
          rw [if_pos h_66] at hK
          refine r_ex 3 (pc' := 36) (lo' := [some (.inr (.inr (some 0))), some (.inl z1), some (.inr (.inr (some 79))), some (.inl a), some (.inl (n + 1)), some (.inl (j + 1)), some (.inl (cl_nextOf79 v j 0))]) (st' := []) rfl ?_
          refine ih v a (n + 1) (j + 1) _ _ hX (by first | assumption | omega | (unfold R32 at *; omega) | (unfold R64 at *; omega) | (simp only [R32, R64] at *; omega)) (by first | assumption | omega | (unfold R32 at *; omega) | (unfold R64 at *; omega) | (simp only [R32, R64] at *; omega)) (by first | assumption | omega | (unfold R32 at *; omega) | (unfold R64 at *; omega) | (simp only [R32, R64] at *; omega)) (by first | assumption | omega | (unfold R32 at *; omega) | (unfold R64 at *; omega) | (simp only [R32, R64] at *; omega)) hK

theorem w_cl_rank {X : PX} {d b : Nat} {v : VS} {c : Int} (hX : XI v) (hp_a : R32 c) {Q : Option PV → Nat → VS → Prop} (hQ : XI (cl_rank v c).2 → Q (some (.inl (cl_rank v c).1)) b (cl_rank v c).2) : WV X (d + 1 + 1 + 1 + 1 + 1 + 1 + 1) 142 0 [some (.inr (.inr (some 0))), some (.inl c), none, none, none, none, none] [] b v Q := by
  rw [cl_rank] at hQ
  refine r_ex 2 (pc' := 2) (lo' := [some (.inr (.inr (some 0))), some (.inl c), none, none, none, none, none]) (st' := [.inl c, .inr (.inr (some 0))]) rfl ?_
  have hp_1 : R32 c := (by first | assumption | omega | (unfold R32 at *; omega) | (unfold R64 at *; omega) | (simp only [R32, R64] at *; omega))
  have hb_2 : 0 ≤ v 33 0 ∧ v 33 0 ≤ 9 := hX 33 0
  refine r_callb (P := 0 ≤ c ∧ c < v 33 0) (m := 62) (args := [.inr (.inr (some 0)), .inl c]) (n' := 142) (pc' := 5) (lo' := [some (.inr (.inr (some 0))), some (.inl c), none, none, none, none, none]) (st' := []) (I := .invokevirtual 62) (pc0 := 2) (len := 3) rfl rfl rfl (e_cl_isChurch hX hp_1) (fun h_2 => ?_) (fun h_2 => ?_)
  · show WV _ _ _ 5 _ _ _ _ _
    rw [if_pos h_2] at hQ
    refine r_ex 2 (pc' := 12) (lo' := [some (.inr (.inr (some 0))), some (.inl c), none, none, none, none, none]) (st' := [.inr (.inr (some 0))]) rfl ?_
    refine r_call (m := 72) (args := [.inr (.inr (some 0))]) (n' := 142) (pc' := 15) (lo' := [some (.inr (.inr (some 0))), some (.inl c), none, none, none, none, none]) (st' := []) (I := .invokevirtual 72) (pc0 := 12) (len := 3) rfl rfl rfl (e_cl_asItIs hX) ?_
    show WV _ _ _ 15 _ [.inr (.inr (some 79))] _ (cl_asItIs v) _
    have hX_3 : XI (cl_asItIs v) := i_cl_asItIs (v := v) hX
    refine r_ex 4 (pc' := 19) (lo' := [some (.inr (.inr (some 0))), some (.inl c), some (.inr (.inr (some 79))), none, none, none, none]) (st' := [.inl 0, .inl c, .inr (.inr (some 79))]) rfl ?_
    have hp_4 : R32 c := (by first | assumption | omega | (unfold R32 at *; omega) | (unfold R64 at *; omega) | (simp only [R32, R64] at *; omega))
    have hp_5 : 0 ≤ (0 : Int) ∧ (0 : Int) ≤ 300 := (by first | assumption | omega | (unfold R32 at *; omega) | (unfold R64 at *; omega) | (simp only [R32, R64] at *; omega))
    refine r_call (m := 93) (args := [.inr (.inr (some 79)), .inl c, .inl 0]) (n' := 142) (pc' := 22) (lo' := [some (.inr (.inr (some 0))), some (.inl c), some (.inr (.inr (some 79))), none, none, none, none]) (st' := []) (I := .invokevirtual 93) (pc0 := 19) (len := 3) rfl rfl rfl (e_cl_nextOf79 hX_3 hp_4 hp_5) ?_
    show WV _ _ _ 22 _ [.inl (cl_nextOf79 (cl_asItIs v) c 0)] _ _ _
    have hb_6 := n_cl_nextOf79 (v := (cl_asItIs v)) (c := c) (s := 0) hX_3 hp_4 hp_5
    refine r_ex 3 (pc' := 25) (lo' := [some (.inr (.inr (some 0))), some (.inl c), some (.inr (.inr (some 79))), some (.inl (cl_nextOf79 (cl_asItIs v) c 0)), none, none, none]) (st' := [.inl (-1), .inl (cl_nextOf79 (cl_asItIs v) c 0)]) rfl ?_
    refine n_ic_ne (pc0 := 25) (len := 3) (t := 30) rfl (by first | assumption | omega | (unfold R32 at *; omega) | (unfold R64 at *; omega) | (simp only [R32, R64] at *; omega)) (by first | assumption | omega | (unfold R32 at *; omega) | (unfold R64 at *; omega) | (simp only [R32, R64] at *; omega)) (fun h_25 => ?_) (fun h_25 => ?_)
    · show WV _ _ _ 30 _ _ _ _ _
      rw [if_neg h_25] at hQ
      refine r_ex 4 (pc' := 36) (lo' := [some (.inr (.inr (some 0))), some (.inl c), some (.inr (.inr (some 79))), some (.inl (cl_nextOf79 (cl_asItIs v) c 0)), some (.inl 0), some (.inl 0), none]) (st' := []) rfl ?_
      refine l_cl_rank_36 10 (cl_asItIs v) (cl_nextOf79 (cl_asItIs v) c 0) 0 0 _ _ hX_3 (by first | assumption | omega | (unfold R32 at *; omega) | (unfold R64 at *; omega) | (simp only [R32, R64] at *; omega)) (by first | assumption | omega | (unfold R32 at *; omega) | (unfold R64 at *; omega) | (simp only [R32, R64] at *; omega)) (by first | assumption | omega | (unfold R32 at *; omega) | (unfold R64 at *; omega) | (simp only [R32, R64] at *; omega)) (by first | assumption | omega | (unfold R32 at *; omega) | (unfold R64 at *; omega) | (simp only [R32, R64] at *; omega)) (fun o0_11 o1_11 o2_11 o3_11 o5_11 o6_11  hv_11_0 => ?_)
      show WV _ _ _ 78 _ _ _ _ _
      refine r_ex 1 (pc' := 80) (lo' := [o0_11, o1_11, o2_11, o3_11, some (.inl (cl_rank_36 10 (cl_asItIs v) (cl_nextOf79 (cl_asItIs v) c 0) 0 0)), o5_11, o6_11]) (st' := [.inl (cl_rank_36 10 (cl_asItIs v) (cl_nextOf79 (cl_asItIs v) c 0) 0 0)]) rfl ?_
      refine r_ret (rr := some (.inl (cl_rank_36 10 (cl_asItIs v) (cl_nextOf79 (cl_asItIs v) c 0) 0 0))) (I := .ireturn) (pc0 := 80) (len := 1) rfl rfl ?_
      exact hQ hX_3 
    · show WV _ _ _ 28 _ _ _ _ _
      rw [if_pos h_25] at hQ
      refine r_ex 1 (pc' := 29) (lo' := [some (.inr (.inr (some 0))), some (.inl c), some (.inr (.inr (some 79))), some (.inl (cl_nextOf79 (cl_asItIs v) c 0)), none, none, none]) (st' := [.inl (-1)]) rfl ?_
      refine r_ret (rr := some (.inl (-1))) (I := .ireturn) (pc0 := 29) (len := 1) rfl rfl ?_
      exact hQ hX_3 
  · show WV _ _ _ 5 _ _ _ _ _
    rw [if_neg h_2] at hQ
    refine r_ex 2 (pc' := 10) (lo' := [some (.inr (.inr (some 0))), some (.inl c), none, none, none, none, none]) (st' := [.inl (-2)]) rfl ?_
    refine r_ret (rr := some (.inl (-2))) (I := .ireturn) (pc0 := 10) (len := 1) rfl rfl ?_
    exact hQ hX 

theorem e_cl_rank {X : PX} {d b : Nat} {v : VS} {c : Int} (hX : XI v) (hp_a : R32 c) : EvV X (d + 1 + 1 + 1 + 1 + 1 + 1 + 1) 142 [.inr (.inr (some 0)), .inl c] b v (some (.inl (cl_rank v c).1)) b ((cl_rank v c).2) := EvV.of (w_cl_rank hX hp_a (fun _ => ⟨rfl, rfl, rfl⟩))

theorem i_cl_rank {v : VS} {c : Int} (hX : XI v) (hp_a : R32 c) : XI ((cl_rank v c).2) := by
  have q : WV (0, fun _ => 0, none) (0 + 1 + 1 + 1 + 1 + 1 + 1 + 1) 142 0 [some (.inr (.inr (some 0))), some (.inl c), none, none, none, none, none] [] 1 v (fun _ _ _ => XI ((cl_rank v c).2)) := w_cl_rank (X := (0, fun _ => 0, none)) (d := 0) (b := 1) hX hp_a (fun q => q)
  obtain ⟨_, _, _, _, _, _, _, q⟩ := q
  exact q

theorem o_cl_rank {rk : Nat} {v : VS} {c : Int} (hk : (rk < 0 ∨ 0 < rk) ∧ (rk < 67 ∨ 90 < rk) ∧ (rk < 105 ∨ 105 < rk)) : (cl_rank v c).2 rk = v rk := by
  unfold cl_rank
  by_cases hc_ : 0 ≤ c ∧ c < v 33 0
  · rw [if_pos hc_]
    by_cases hc_ : (cl_nextOf79 (cl_asItIs v) c 0) = (-1)
    · rw [if_pos hc_]
      all_goals (show (cl_asItIs v) rk = _)
      all_goals (rw [o_cl_asItIs (by omega)])
    · rw [if_neg hc_]
      all_goals (show (cl_asItIs v) rk = _)
      all_goals (rw [o_cl_asItIs (by omega)])
  · rw [if_neg hc_]
    all_goals (show v rk = _)
    all_goals rfl

def cl_sharing_5 : Nat → VS → Int → Int → Int → Int → Int
  | 0, v, h, s, n, j => 0
  | f + 1, v, h, s, n, j => (if j < (v 33 0) then (if (cl_struckLast v j s) = h then (cl_sharing_5 f v h s (n + 1) (j + 1)) else (cl_sharing_5 f v h s n (j + 1))) else n)
def cl_sharing (v : VS) (h : Int) (s : Int) : Int :=
  (cl_sharing_5 10 v h s 0 0)
theorem l_cl_sharing_5 {X : PX} {d b : Nat} {Q : Option PV → Nat → VS → Prop}  : ∀ (f : Nat) (v : VS) (h : Int) (s : Int) (n : Int) (j : Int), XI v → (0 ≤ j ∧ j ≤ 9) → (R32 h) → (R32 s) → (0 ≤ n ∧ n ≤ j) → (9 < j + f) → (∀ qx0 : Option PV, ∀ qx1 : Option PV, ∀ qx2 : Option PV, ∀ qx4 : Option PV, (0 ≤ (cl_sharing_5 f v h s n j) ∧ (cl_sharing_5 f v h s n j) ≤ 9) → WV X (d + 1 + 1) 145 37 [qx0, qx1, qx2, some (.inl (cl_sharing_5 f v h s n j)), qx4] [] b v Q) → WV X (d + 1 + 1) 145 5 [some (.inr (.inr (some 0))), some (.inl h), some (.inl s), some (.inl n), some (.inl j)] [] b v Q := by
  intro f
  induction f with
  | zero =>
    intro v h s n j hX hi_0 hi_1 hi_2 hi_3 hf hK
    exfalso
    omega
  | succ f ih =>
    intro v h s n j hX hi_0 hi_1 hi_2 hi_3 hf hK
    rw [cl_sharing_5] at hK
    refine r_ex 4 (pc' := 14) (lo' := [some (.inr (.inr (some 0))), some (.inl h), some (.inl s), some (.inl n), some (.inl j)]) (st' := [.inl (v 33 0), .inl j]) rfl ?_
    have hb_1 : 0 ≤ (v 33 0) ∧ (v 33 0) ≤ 9 := hX 33 0
    refine n_ic_ge (pc0 := 14) (len := 3) (t := 37) rfl (by first | assumption | omega | (unfold R32 at *; omega) | (unfold R64 at *; omega) | (simp only [R32, R64] at *; omega)) (by first | assumption | omega | (unfold R32 at *; omega) | (unfold R64 at *; omega) | (simp only [R32, R64] at *; omega)) (fun h_14 => ?_) (fun h_14 => ?_)
    · show WV _ _ _ 37 _ _ _ _ _
      rw [if_neg h_14] at hK
      exact hK _ _ _ _  (by first | assumption | omega | (unfold R32 at *; omega) | (unfold R64 at *; omega) | (simp only [R32, R64] at *; omega))
    · show WV _ _ _ 17 _ _ _ _ _
      rw [if_pos h_14] at hK
      refine r_ex 3 (pc' := 21) (lo' := [some (.inr (.inr (some 0))), some (.inl h), some (.inl s), some (.inl n), some (.inl j)]) (st' := [.inl s, .inl j, .inr (.inr (some 0))]) rfl ?_
      have hp_2 : R32 j := (by first | assumption | omega | (unfold R32 at *; omega) | (unfold R64 at *; omega) | (simp only [R32, R64] at *; omega))
      have hp_3 : R32 s := (by first | assumption | omega | (unfold R32 at *; omega) | (unfold R64 at *; omega) | (simp only [R32, R64] at *; omega))
      refine r_call (m := 90) (args := [.inr (.inr (some 0)), .inl j, .inl s]) (n' := 145) (pc' := 24) (lo' := [some (.inr (.inr (some 0))), some (.inl h), some (.inl s), some (.inl n), some (.inl j)]) (st' := []) (I := .invokevirtual 90) (pc0 := 21) (len := 3) rfl rfl rfl (e_cl_struckLast hX hp_2 hp_3) ?_
      show WV _ _ _ 24 _ [.inl (cl_struckLast v j s)] _ _ _
      have hb_4 := n_cl_struckLast (v := v) (c := j) (s := s) hX hp_2 hp_3
      refine r_ex 1 (pc' := 25) (lo' := [some (.inr (.inr (some 0))), some (.inl h), some (.inl s), some (.inl n), some (.inl j)]) (st' := [.inl h, .inl (cl_struckLast v j s)]) rfl ?_
      refine n_ic_ne (pc0 := 25) (len := 3) (t := 31) rfl (by first | assumption | omega | (unfold R32 at *; omega) | (unfold R64 at *; omega) | (simp only [R32, R64] at *; omega)) (by first | assumption | omega | (unfold R32 at *; omega) | (unfold R64 at *; omega) | (simp only [R32, R64] at *; omega)) (fun h_25 => ?_) (fun h_25 => ?_)
      · show WV _ _ _ 31 _ _ _ _ _
        rw [if_neg h_25] at hK
        refine r_ex 2 (pc' := 5) (lo' := [some (.inr (.inr (some 0))), some (.inl h), some (.inl s), some (.inl n), some (.inl (j + 1))]) (st' := []) rfl ?_
        refine ih v h s n (j + 1)  hX (by first | assumption | omega | (unfold R32 at *; omega) | (unfold R64 at *; omega) | (simp only [R32, R64] at *; omega)) (by first | assumption | omega | (unfold R32 at *; omega) | (unfold R64 at *; omega) | (simp only [R32, R64] at *; omega)) (by first | assumption | omega | (unfold R32 at *; omega) | (unfold R64 at *; omega) | (simp only [R32, R64] at *; omega)) (by first | assumption | omega | (unfold R32 at *; omega) | (unfold R64 at *; omega) | (simp only [R32, R64] at *; omega)) (by first | assumption | omega | (unfold R32 at *; omega) | (unfold R64 at *; omega) | (simp only [R32, R64] at *; omega)) hK
      · show WV _ _ _ 28 _ _ _ _ _
        rw [if_pos h_25] at hK
        refine r_ex 3 (pc' := 5) (lo' := [some (.inr (.inr (some 0))), some (.inl h), some (.inl s), some (.inl (n + 1)), some (.inl (j + 1))]) (st' := []) rfl ?_
        refine ih v h s (n + 1) (j + 1)  hX (by first | assumption | omega | (unfold R32 at *; omega) | (unfold R64 at *; omega) | (simp only [R32, R64] at *; omega)) (by first | assumption | omega | (unfold R32 at *; omega) | (unfold R64 at *; omega) | (simp only [R32, R64] at *; omega)) (by first | assumption | omega | (unfold R32 at *; omega) | (unfold R64 at *; omega) | (simp only [R32, R64] at *; omega)) (by first | assumption | omega | (unfold R32 at *; omega) | (unfold R64 at *; omega) | (simp only [R32, R64] at *; omega)) (by first | assumption | omega | (unfold R32 at *; omega) | (unfold R64 at *; omega) | (simp only [R32, R64] at *; omega)) hK

theorem w_cl_sharing {X : PX} {d b : Nat} {v : VS} {h : Int} {s : Int} (hX : XI v) (hp_a : R32 h) (hp_b : R32 s) {Q : Option PV → Nat → VS → Prop} (hQ : (0 ≤ (cl_sharing v h s) ∧ (cl_sharing v h s) ≤ 9) → Q (some (.inl (cl_sharing v h s))) b v) : WV X (d + 1 + 1) 145 0 [some (.inr (.inr (some 0))), some (.inl h), some (.inl s), none, none] [] b v Q := by
  rw [cl_sharing] at hQ
  refine r_ex 4 (pc' := 5) (lo' := [some (.inr (.inr (some 0))), some (.inl h), some (.inl s), some (.inl 0), some (.inl 0)]) (st' := []) rfl ?_
  refine l_cl_sharing_5 10 v h s 0 0  hX (by first | assumption | omega | (unfold R32 at *; omega) | (unfold R64 at *; omega) | (simp only [R32, R64] at *; omega)) (by first | assumption | omega | (unfold R32 at *; omega) | (unfold R64 at *; omega) | (simp only [R32, R64] at *; omega)) (by first | assumption | omega | (unfold R32 at *; omega) | (unfold R64 at *; omega) | (simp only [R32, R64] at *; omega)) (by first | assumption | omega | (unfold R32 at *; omega) | (unfold R64 at *; omega) | (simp only [R32, R64] at *; omega)) (by first | assumption | omega | (unfold R32 at *; omega) | (unfold R64 at *; omega) | (simp only [R32, R64] at *; omega)) (fun o0_5 o1_5 o2_5 o4_5  hv_5_0 => ?_)
  show WV _ _ _ 37 _ _ _ _ _
  refine r_ex 1 (pc' := 38) (lo' := [o0_5, o1_5, o2_5, some (.inl (cl_sharing_5 10 v h s 0 0)), o4_5]) (st' := [.inl (cl_sharing_5 10 v h s 0 0)]) rfl ?_
  refine r_ret (rr := some (.inl (cl_sharing_5 10 v h s 0 0))) (I := .ireturn) (pc0 := 38) (len := 1) rfl rfl ?_
  exact hQ (by first | assumption | omega | (unfold R32 at *; omega) | (unfold R64 at *; omega) | (simp only [R32, R64] at *; omega))

theorem e_cl_sharing {X : PX} {d b : Nat} {v : VS} {h : Int} {s : Int} (hX : XI v) (hp_a : R32 h) (hp_b : R32 s) : EvV X (d + 1 + 1) 145 [.inr (.inr (some 0)), .inl h, .inl s] b v (some (.inl (cl_sharing v h s))) b v := EvV.of (w_cl_sharing hX hp_a hp_b (fun _ => ⟨rfl, rfl, rfl⟩))

theorem n_cl_sharing {v : VS} {h : Int} {s : Int} (hX : XI v) (hp_a : R32 h) (hp_b : R32 s) : 0 ≤ (cl_sharing v h s) ∧ (cl_sharing v h s) ≤ 9 := by
  have q : WV (0, fun _ => 0, none) (0 + 1 + 1) 145 0 [some (.inr (.inr (some 0))), some (.inl h), some (.inl s), none, none] [] 1 v (fun _ _ _ => 0 ≤ (cl_sharing v h s) ∧ (cl_sharing v h s) ≤ 9) := w_cl_sharing (X := (0, fun _ => 0, none)) (d := 0) (b := 1) hX hp_a hp_b (fun q => q)
  obtain ⟨_, _, _, _, _, _, _, q⟩ := q
  exact q

def cl_commonHour_7 : Nat → VS → Int → Int → Int → Int → Int
  | 0, v, s, g, m, j => 0
  | f + 1, v, s, g, m, j => (if j < (v 33 0) then (if (cl_struckLast v j s) = 0 then (cl_commonHour_7 f v s g m (j + 1)) else (if m < (cl_sharing v (cl_struckLast v j s) s) then (cl_commonHour_7 f v s (cl_struckLast v j s) (cl_sharing v (cl_struckLast v j s) s) (j + 1)) else (if (cl_sharing v (cl_struckLast v j s) s) = m then (if (cl_struckLast v j s) < g then (cl_commonHour_7 f v s (cl_struckLast v j s) (cl_sharing v (cl_struckLast v j s) s) (j + 1)) else (cl_commonHour_7 f v s g m (j + 1))) else (cl_commonHour_7 f v s g m (j + 1))))) else g)
def cl_commonHour (v : VS) (s : Int) : Int :=
  (cl_commonHour_7 10 v s 0 0 0)
theorem l_cl_commonHour_7 {X : PX} {d b : Nat} {Q : Option PV → Nat → VS → Prop}  : ∀ (f : Nat) (v : VS) (s : Int) (g : Int) (m : Int) (j : Int) (o5 : Option PV) (o6 : Option PV), XI v → (0 ≤ j ∧ j ≤ 9) → (R32 s) → (0 ≤ g ∧ g ≤ 99) → (0 ≤ m ∧ m ≤ 9) → (9 < j + f) → (∀ qx0 : Option PV, ∀ qx1 : Option PV, ∀ qx3 : Option PV, ∀ qx4 : Option PV, ∀ qx5 : Option PV, ∀ qx6 : Option PV, (0 ≤ (cl_commonHour_7 f v s g m j) ∧ (cl_commonHour_7 f v s g m j) ≤ 99) → WV X (d + 1 + 1 + 1) 144 72 [qx0, qx1, some (.inl (cl_commonHour_7 f v s g m j)), qx3, qx4, qx5, qx6] [] b v Q) → WV X (d + 1 + 1 + 1) 144 7 [some (.inr (.inr (some 0))), some (.inl s), some (.inl g), some (.inl m), some (.inl j), o5, o6] [] b v Q := by
  intro f
  induction f with
  | zero =>
    intro v s g m j o5 o6 hX hi_0 hi_1 hi_2 hi_3 hf hK
    exfalso
    omega
  | succ f ih =>
    intro v s g m j o5 o6 hX hi_0 hi_1 hi_2 hi_3 hf hK
    rw [cl_commonHour_7] at hK
    refine r_ex 4 (pc' := 16) (lo' := [some (.inr (.inr (some 0))), some (.inl s), some (.inl g), some (.inl m), some (.inl j), o5, o6]) (st' := [.inl (v 33 0), .inl j]) rfl ?_
    have hb_1 : 0 ≤ (v 33 0) ∧ (v 33 0) ≤ 9 := hX 33 0
    refine n_ic_ge (pc0 := 16) (len := 3) (t := 72) rfl (by first | assumption | omega | (unfold R32 at *; omega) | (unfold R64 at *; omega) | (simp only [R32, R64] at *; omega)) (by first | assumption | omega | (unfold R32 at *; omega) | (unfold R64 at *; omega) | (simp only [R32, R64] at *; omega)) (fun h_16 => ?_) (fun h_16 => ?_)
    · show WV _ _ _ 72 _ _ _ _ _
      rw [if_neg h_16] at hK
      exact hK _ _ _ _ _ _  (by first | assumption | omega | (unfold R32 at *; omega) | (unfold R64 at *; omega) | (simp only [R32, R64] at *; omega))
    · show WV _ _ _ 19 _ _ _ _ _
      rw [if_pos h_16] at hK
      refine r_ex 3 (pc' := 23) (lo' := [some (.inr (.inr (some 0))), some (.inl s), some (.inl g), some (.inl m), some (.inl j), o5, o6]) (st' := [.inl s, .inl j, .inr (.inr (some 0))]) rfl ?_
      have hp_2 : R32 j := (by first | assumption | omega | (unfold R32 at *; omega) | (unfold R64 at *; omega) | (simp only [R32, R64] at *; omega))
      have hp_3 : R32 s := (by first | assumption | omega | (unfold R32 at *; omega) | (unfold R64 at *; omega) | (simp only [R32, R64] at *; omega))
      refine r_call (m := 90) (args := [.inr (.inr (some 0)), .inl j, .inl s]) (n' := 144) (pc' := 26) (lo' := [some (.inr (.inr (some 0))), some (.inl s), some (.inl g), some (.inl m), some (.inl j), o5, o6]) (st' := []) (I := .invokevirtual 90) (pc0 := 23) (len := 3) rfl rfl rfl (e_cl_struckLast hX hp_2 hp_3) ?_
      show WV _ _ _ 26 _ [.inl (cl_struckLast v j s)] _ _ _
      have hb_4 := n_cl_struckLast (v := v) (c := j) (s := s) hX hp_2 hp_3
      refine r_ex 4 (pc' := 32) (lo' := [some (.inr (.inr (some 0))), some (.inl s), some (.inl g), some (.inl m), some (.inl j), some (.inl (cl_struckLast v j s)), o6]) (st' := [.inl s, .inl (cl_struckLast v j s), .inr (.inr (some 0))]) rfl ?_
      have hp_5 : R32 (cl_struckLast v j s) := (by first | assumption | omega | (unfold R32 at *; omega) | (unfold R64 at *; omega) | (simp only [R32, R64] at *; omega))
      have hp_6 : R32 s := (by first | assumption | omega | (unfold R32 at *; omega) | (unfold R64 at *; omega) | (simp only [R32, R64] at *; omega))
      refine r_call (m := 145) (args := [.inr (.inr (some 0)), .inl (cl_struckLast v j s), .inl s]) (n' := 144) (pc' := 35) (lo' := [some (.inr (.inr (some 0))), some (.inl s), some (.inl g), some (.inl m), some (.inl j), some (.inl (cl_struckLast v j s)), o6]) (st' := []) (I := .invokevirtual 145) (pc0 := 32) (len := 3) rfl rfl rfl (e_cl_sharing hX hp_5 hp_6) ?_
      show WV _ _ _ 35 _ [.inl (cl_sharing v (cl_struckLast v j s) s)] _ _ _
      have hb_7 := n_cl_sharing (v := v) (h := (cl_struckLast v j s)) (s := s) hX hp_5 hp_6
      refine r_ex 2 (pc' := 39) (lo' := [some (.inr (.inr (some 0))), some (.inl s), some (.inl g), some (.inl m), some (.inl j), some (.inl (cl_struckLast v j s)), some (.inl (cl_sharing v (cl_struckLast v j s) s))]) (st' := [.inl (cl_struckLast v j s)]) rfl ?_
      refine n_if_eq (pc0 := 39) (len := 3) (t := 66) rfl (by first | assumption | omega | (unfold R32 at *; omega) | (unfold R64 at *; omega) | (simp only [R32, R64] at *; omega)) (fun h_39 => ?_) (fun h_39 => ?_)
      · show WV _ _ _ 66 _ _ _ _ _
        rw [if_pos h_39] at hK
        refine r_ex 2 (pc' := 7) (lo' := [some (.inr (.inr (some 0))), some (.inl s), some (.inl g), some (.inl m), some (.inl (j + 1)), some (.inl (cl_struckLast v j s)), some (.inl (cl_sharing v (cl_struckLast v j s) s))]) (st' := []) rfl ?_
        refine ih v s g m (j + 1) _ _ hX (by first | assumption | omega | (unfold R32 at *; omega) | (unfold R64 at *; omega) | (simp only [R32, R64] at *; omega)) (by first | assumption | omega | (unfold R32 at *; omega) | (unfold R64 at *; omega) | (simp only [R32, R64] at *; omega)) (by first | assumption | omega | (unfold R32 at *; omega) | (unfold R64 at *; omega) | (simp only [R32, R64] at *; omega)) (by first | assumption | omega | (unfold R32 at *; omega) | (unfold R64 at *; omega) | (simp only [R32, R64] at *; omega)) (by first | assumption | omega | (unfold R32 at *; omega) | (unfold R64 at *; omega) | (simp only [R32, R64] at *; omega)) hK
      · show WV _ _ _ 42 _ _ _ _ _
        rw [if_neg h_39] at hK
        refine r_ex 2 (pc' := 45) (lo' := [some (.inr (.inr (some 0))), some (.inl s), some (.inl g), some (.inl m), some (.inl j), some (.inl (cl_struckLast v j s)), some (.inl (cl_sharing v (cl_struckLast v j s) s))]) (st' := [.inl m, .inl (cl_sharing v (cl_struckLast v j s) s)]) rfl ?_
        refine n_ic_gt (pc0 := 45) (len := 3) (t := 60) rfl (by first | assumption | omega | (unfold R32 at *; omega) | (unfold R64 at *; omega) | (simp only [R32, R64] at *; omega)) (by first | assumption | omega | (unfold R32 at *; omega) | (unfold R64 at *; omega) | (simp only [R32, R64] at *; omega)) (fun h_45 => ?_) (fun h_45 => ?_)
        · show WV _ _ _ 60 _ _ _ _ _
          rw [if_pos h_45] at hK
          refine r_ex 6 (pc' := 7) (lo' := [some (.inr (.inr (some 0))), some (.inl s), some (.inl (cl_struckLast v j s)), some (.inl (cl_sharing v (cl_struckLast v j s) s)), some (.inl (j + 1)), some (.inl (cl_struckLast v j s)), some (.inl (cl_sharing v (cl_struckLast v j s) s))]) (st' := []) rfl ?_
          refine ih v s (cl_struckLast v j s) (cl_sharing v (cl_struckLast v j s) s) (j + 1) _ _ hX (by first | assumption | omega | (unfold R32 at *; omega) | (unfold R64 at *; omega) | (simp only [R32, R64] at *; omega)) (by first | assumption | omega | (unfold R32 at *; omega) | (unfold R64 at *; omega) | (simp only [R32, R64] at *; omega)) (by first | assumption | omega | (unfold R32 at *; omega) | (unfold R64 at *; omega) | (simp only [R32, R64] at *; omega)) (by first | assumption | omega | (unfold R32 at *; omega) | (unfold R64 at *; omega) | (simp only [R32, R64] at *; omega)) (by first | assumption | omega | (unfold R32 at *; omega) | (unfold R64 at *; omega) | (simp only [R32, R64] at *; omega)) hK
        · show WV _ _ _ 48 _ _ _ _ _
          rw [if_neg h_45] at hK
          refine r_ex 2 (pc' := 51) (lo' := [some (.inr (.inr (some 0))), some (.inl s), some (.inl g), some (.inl m), some (.inl j), some (.inl (cl_struckLast v j s)), some (.inl (cl_sharing v (cl_struckLast v j s) s))]) (st' := [.inl m, .inl (cl_sharing v (cl_struckLast v j s) s)]) rfl ?_
          refine n_ic_ne (pc0 := 51) (len := 3) (t := 66) rfl (by first | assumption | omega | (unfold R32 at *; omega) | (unfold R64 at *; omega) | (simp only [R32, R64] at *; omega)) (by first | assumption | omega | (unfold R32 at *; omega) | (unfold R64 at *; omega) | (simp only [R32, R64] at *; omega)) (fun h_51 => ?_) (fun h_51 => ?_)
          · show WV _ _ _ 66 _ _ _ _ _
            rw [if_neg h_51] at hK
            refine r_ex 2 (pc' := 7) (lo' := [some (.inr (.inr (some 0))), some (.inl s), some (.inl g), some (.inl m), some (.inl (j + 1)), some (.inl (cl_struckLast v j s)), some (.inl (cl_sharing v (cl_struckLast v j s) s))]) (st' := []) rfl ?_
            refine ih v s g m (j + 1) _ _ hX (by first | assumption | omega | (unfold R32 at *; omega) | (unfold R64 at *; omega) | (simp only [R32, R64] at *; omega)) (by first | assumption | omega | (unfold R32 at *; omega) | (unfold R64 at *; omega) | (simp only [R32, R64] at *; omega)) (by first | assumption | omega | (unfold R32 at *; omega) | (unfold R64 at *; omega) | (simp only [R32, R64] at *; omega)) (by first | assumption | omega | (unfold R32 at *; omega) | (unfold R64 at *; omega) | (simp only [R32, R64] at *; omega)) (by first | assumption | omega | (unfold R32 at *; omega) | (unfold R64 at *; omega) | (simp only [R32, R64] at *; omega)) hK
          · show WV _ _ _ 54 _ _ _ _ _
            rw [if_pos h_51] at hK
            refine r_ex 2 (pc' := 57) (lo' := [some (.inr (.inr (some 0))), some (.inl s), some (.inl g), some (.inl m), some (.inl j), some (.inl (cl_struckLast v j s)), some (.inl (cl_sharing v (cl_struckLast v j s) s))]) (st' := [.inl g, .inl (cl_struckLast v j s)]) rfl ?_
            refine n_ic_ge (pc0 := 57) (len := 3) (t := 66) rfl (by first | assumption | omega | (unfold R32 at *; omega) | (unfold R64 at *; omega) | (simp only [R32, R64] at *; omega)) (by first | assumption | omega | (unfold R32 at *; omega) | (unfold R64 at *; omega) | (simp only [R32, R64] at *; omega)) (fun h_57 => ?_) (fun h_57 => ?_)
            · show WV _ _ _ 66 _ _ _ _ _
              rw [if_neg h_57] at hK
              refine r_ex 2 (pc' := 7) (lo' := [some (.inr (.inr (some 0))), some (.inl s), some (.inl g), some (.inl m), some (.inl (j + 1)), some (.inl (cl_struckLast v j s)), some (.inl (cl_sharing v (cl_struckLast v j s) s))]) (st' := []) rfl ?_
              refine ih v s g m (j + 1) _ _ hX (by first | assumption | omega | (unfold R32 at *; omega) | (unfold R64 at *; omega) | (simp only [R32, R64] at *; omega)) (by first | assumption | omega | (unfold R32 at *; omega) | (unfold R64 at *; omega) | (simp only [R32, R64] at *; omega)) (by first | assumption | omega | (unfold R32 at *; omega) | (unfold R64 at *; omega) | (simp only [R32, R64] at *; omega)) (by first | assumption | omega | (unfold R32 at *; omega) | (unfold R64 at *; omega) | (simp only [R32, R64] at *; omega)) (by first | assumption | omega | (unfold R32 at *; omega) | (unfold R64 at *; omega) | (simp only [R32, R64] at *; omega)) hK
            · show WV _ _ _ 60 _ _ _ _ _
              rw [if_pos h_57] at hK
              refine r_ex 6 (pc' := 7) (lo' := [some (.inr (.inr (some 0))), some (.inl s), some (.inl (cl_struckLast v j s)), some (.inl (cl_sharing v (cl_struckLast v j s) s)), some (.inl (j + 1)), some (.inl (cl_struckLast v j s)), some (.inl (cl_sharing v (cl_struckLast v j s) s))]) (st' := []) rfl ?_
              refine ih v s (cl_struckLast v j s) (cl_sharing v (cl_struckLast v j s) s) (j + 1) _ _ hX (by first | assumption | omega | (unfold R32 at *; omega) | (unfold R64 at *; omega) | (simp only [R32, R64] at *; omega)) (by first | assumption | omega | (unfold R32 at *; omega) | (unfold R64 at *; omega) | (simp only [R32, R64] at *; omega)) (by first | assumption | omega | (unfold R32 at *; omega) | (unfold R64 at *; omega) | (simp only [R32, R64] at *; omega)) (by first | assumption | omega | (unfold R32 at *; omega) | (unfold R64 at *; omega) | (simp only [R32, R64] at *; omega)) (by first | assumption | omega | (unfold R32 at *; omega) | (unfold R64 at *; omega) | (simp only [R32, R64] at *; omega)) hK

theorem w_cl_commonHour {X : PX} {d b : Nat} {v : VS} {s : Int} (hX : XI v) (hp_a : R32 s) {Q : Option PV → Nat → VS → Prop} (hQ : (0 ≤ (cl_commonHour v s) ∧ (cl_commonHour v s) ≤ 99) → Q (some (.inl (cl_commonHour v s))) b v) : WV X (d + 1 + 1 + 1) 144 0 [some (.inr (.inr (some 0))), some (.inl s), none, none, none, none, none] [] b v Q := by
  rw [cl_commonHour] at hQ
  refine r_ex 6 (pc' := 7) (lo' := [some (.inr (.inr (some 0))), some (.inl s), some (.inl 0), some (.inl 0), some (.inl 0), none, none]) (st' := []) rfl ?_
  refine l_cl_commonHour_7 10 v s 0 0 0 _ _ hX (by first | assumption | omega | (unfold R32 at *; omega) | (unfold R64 at *; omega) | (simp only [R32, R64] at *; omega)) (by first | assumption | omega | (unfold R32 at *; omega) | (unfold R64 at *; omega) | (simp only [R32, R64] at *; omega)) (by first | assumption | omega | (unfold R32 at *; omega) | (unfold R64 at *; omega) | (simp only [R32, R64] at *; omega)) (by first | assumption | omega | (unfold R32 at *; omega) | (unfold R64 at *; omega) | (simp only [R32, R64] at *; omega)) (by first | assumption | omega | (unfold R32 at *; omega) | (unfold R64 at *; omega) | (simp only [R32, R64] at *; omega)) (fun o0_8 o1_8 o3_8 o4_8 o5_8 o6_8  hv_8_0 => ?_)
  show WV _ _ _ 72 _ _ _ _ _
  refine r_ex 1 (pc' := 73) (lo' := [o0_8, o1_8, some (.inl (cl_commonHour_7 10 v s 0 0 0)), o3_8, o4_8, o5_8, o6_8]) (st' := [.inl (cl_commonHour_7 10 v s 0 0 0)]) rfl ?_
  refine r_ret (rr := some (.inl (cl_commonHour_7 10 v s 0 0 0))) (I := .ireturn) (pc0 := 73) (len := 1) rfl rfl ?_
  exact hQ (by first | assumption | omega | (unfold R32 at *; omega) | (unfold R64 at *; omega) | (simp only [R32, R64] at *; omega))

theorem e_cl_commonHour {X : PX} {d b : Nat} {v : VS} {s : Int} (hX : XI v) (hp_a : R32 s) : EvV X (d + 1 + 1 + 1) 144 [.inr (.inr (some 0)), .inl s] b v (some (.inl (cl_commonHour v s))) b v := EvV.of (w_cl_commonHour hX hp_a (fun _ => ⟨rfl, rfl, rfl⟩))

theorem n_cl_commonHour {v : VS} {s : Int} (hX : XI v) (hp_a : R32 s) : 0 ≤ (cl_commonHour v s) ∧ (cl_commonHour v s) ≤ 99 := by
  have q : WV (0, fun _ => 0, none) (0 + 1 + 1 + 1) 144 0 [some (.inr (.inr (some 0))), some (.inl s), none, none, none, none, none] [] 1 v (fun _ _ _ => 0 ≤ (cl_commonHour v s) ∧ (cl_commonHour v s) ≤ 99) := w_cl_commonHour (X := (0, fun _ => 0, none)) (d := 0) (b := 1) hX hp_a (fun q => q)
  obtain ⟨_, _, _, _, _, _, _, q⟩ := q
  exact q

def cl_common (v : VS) (s : Int) : Int × VS :=
  (if 0 ≤ s ∧ s < v 33 1 then ((cl_commonHour (cl_asItIs v) s), (cl_asItIs v)) else ((-2), v))
theorem w_cl_common {X : PX} {d b : Nat} {v : VS} {s : Int} (hX : XI v) (hp_a : R32 s) {Q : Option PV → Nat → VS → Prop} (hQ : XI (cl_common v s).2 → Q (some (.inl (cl_common v s).1)) b (cl_common v s).2) : WV X (d + 1 + 1 + 1 + 1 + 1 + 1 + 1) 143 0 [some (.inr (.inr (some 0))), some (.inl s)] [] b v Q := by
  rw [cl_common] at hQ
  refine r_ex 2 (pc' := 2) (lo' := [some (.inr (.inr (some 0))), some (.inl s)]) (st' := [.inl s, .inr (.inr (some 0))]) rfl ?_
  have hp_1 : R32 s := (by first | assumption | omega | (unfold R32 at *; omega) | (unfold R64 at *; omega) | (simp only [R32, R64] at *; omega))
  have hb_2 : 0 ≤ v 33 1 ∧ v 33 1 ≤ 300 := hX 33 1
  refine r_callb (P := 0 ≤ s ∧ s < v 33 1) (m := 67) (args := [.inr (.inr (some 0)), .inl s]) (n' := 143) (pc' := 5) (lo' := [some (.inr (.inr (some 0))), some (.inl s)]) (st' := []) (I := .invokevirtual 67) (pc0 := 2) (len := 3) rfl rfl rfl (e_cl_isSecond hX hp_1) (fun h_2 => ?_) (fun h_2 => ?_)
  · show WV _ _ _ 5 _ _ _ _ _
    rw [if_pos h_2] at hQ
    refine r_ex 2 (pc' := 12) (lo' := [some (.inr (.inr (some 0))), some (.inl s)]) (st' := [.inr (.inr (some 0))]) rfl ?_
    refine r_call (m := 72) (args := [.inr (.inr (some 0))]) (n' := 143) (pc' := 15) (lo' := [some (.inr (.inr (some 0))), some (.inl s)]) (st' := []) (I := .invokevirtual 72) (pc0 := 12) (len := 3) rfl rfl rfl (e_cl_asItIs hX) ?_
    show WV _ _ _ 15 _ [.inr (.inr (some 79))] _ (cl_asItIs v) _
    have hX_3 : XI (cl_asItIs v) := i_cl_asItIs (v := v) hX
    refine r_ex 3 (pc' := 18) (lo' := [some (.inr (.inr (some 0))), some (.inl s)]) (st' := [.inl s, .inr (.inr (some 0))]) rfl ?_
    have hp_4 : R32 s := (by first | assumption | omega | (unfold R32 at *; omega) | (unfold R64 at *; omega) | (simp only [R32, R64] at *; omega))
    refine r_call (m := 144) (args := [.inr (.inr (some 0)), .inl s]) (n' := 143) (pc' := 21) (lo' := [some (.inr (.inr (some 0))), some (.inl s)]) (st' := []) (I := .invokevirtual 144) (pc0 := 18) (len := 3) rfl rfl rfl (e_cl_commonHour hX_3 hp_4) ?_
    show WV _ _ _ 21 _ [.inl (cl_commonHour (cl_asItIs v) s)] _ _ _
    have hb_5 := n_cl_commonHour (v := (cl_asItIs v)) (s := s) hX_3 hp_4
    refine r_ret (rr := some (.inl (cl_commonHour (cl_asItIs v) s))) (I := .ireturn) (pc0 := 21) (len := 1) rfl rfl ?_
    exact hQ hX_3 
  · show WV _ _ _ 5 _ _ _ _ _
    rw [if_neg h_2] at hQ
    refine r_ex 2 (pc' := 10) (lo' := [some (.inr (.inr (some 0))), some (.inl s)]) (st' := [.inl (-2)]) rfl ?_
    refine r_ret (rr := some (.inl (-2))) (I := .ireturn) (pc0 := 10) (len := 1) rfl rfl ?_
    exact hQ hX 

theorem e_cl_common {X : PX} {d b : Nat} {v : VS} {s : Int} (hX : XI v) (hp_a : R32 s) : EvV X (d + 1 + 1 + 1 + 1 + 1 + 1 + 1) 143 [.inr (.inr (some 0)), .inl s] b v (some (.inl (cl_common v s).1)) b ((cl_common v s).2) := EvV.of (w_cl_common hX hp_a (fun _ => ⟨rfl, rfl, rfl⟩))

theorem i_cl_common {v : VS} {s : Int} (hX : XI v) (hp_a : R32 s) : XI ((cl_common v s).2) := by
  have q : WV (0, fun _ => 0, none) (0 + 1 + 1 + 1 + 1 + 1 + 1 + 1) 143 0 [some (.inr (.inr (some 0))), some (.inl s)] [] 1 v (fun _ _ _ => XI ((cl_common v s).2)) := w_cl_common (X := (0, fun _ => 0, none)) (d := 0) (b := 1) hX hp_a (fun q => q)
  obtain ⟨_, _, _, _, _, _, _, q⟩ := q
  exact q

theorem o_cl_common {rk : Nat} {v : VS} {s : Int} (hk : (rk < 0 ∨ 0 < rk) ∧ (rk < 67 ∨ 90 < rk) ∧ (rk < 105 ∨ 105 < rk)) : (cl_common v s).2 rk = v rk := by
  unfold cl_common
  by_cases hc_ : 0 ≤ s ∧ s < v 33 1
  · rw [if_pos hc_]
    all_goals (show (cl_asItIs v) rk = _)
    all_goals (rw [o_cl_asItIs (by omega)])
  · rw [if_neg hc_]
    all_goals (show v rk = _)
    all_goals rfl

def cl_strayed (v : VS) (s : Int) : Int × VS :=
  (if 0 ≤ s ∧ s < v 33 1 then (if (cl_commonHour (cl_asItIs v) s) = 0 then (((cl_asItIs v) 33 0), (cl_asItIs v)) else ((((cl_asItIs v) 33 0) - (cl_sharing (cl_asItIs v) (cl_commonHour (cl_asItIs v) s) s)), (cl_asItIs v))) else ((-2), v))
theorem w_cl_strayed {X : PX} {d b : Nat} {v : VS} {s : Int} (hX : XI v) (hp_a : R32 s) {Q : Option PV → Nat → VS → Prop} (hQ : XI (cl_strayed v s).2 → Q (some (.inl (cl_strayed v s).1)) b (cl_strayed v s).2) : WV X (d + 1 + 1 + 1 + 1 + 1 + 1 + 1) 146 0 [some (.inr (.inr (some 0))), some (.inl s), none] [] b v Q := by
  rw [cl_strayed] at hQ
  refine r_ex 2 (pc' := 2) (lo' := [some (.inr (.inr (some 0))), some (.inl s), none]) (st' := [.inl s, .inr (.inr (some 0))]) rfl ?_
  have hp_1 : R32 s := (by first | assumption | omega | (unfold R32 at *; omega) | (unfold R64 at *; omega) | (simp only [R32, R64] at *; omega))
  have hb_2 : 0 ≤ v 33 1 ∧ v 33 1 ≤ 300 := hX 33 1
  refine r_callb (P := 0 ≤ s ∧ s < v 33 1) (m := 67) (args := [.inr (.inr (some 0)), .inl s]) (n' := 146) (pc' := 5) (lo' := [some (.inr (.inr (some 0))), some (.inl s), none]) (st' := []) (I := .invokevirtual 67) (pc0 := 2) (len := 3) rfl rfl rfl (e_cl_isSecond hX hp_1) (fun h_2 => ?_) (fun h_2 => ?_)
  · show WV _ _ _ 5 _ _ _ _ _
    rw [if_pos h_2] at hQ
    refine r_ex 2 (pc' := 12) (lo' := [some (.inr (.inr (some 0))), some (.inl s), none]) (st' := [.inr (.inr (some 0))]) rfl ?_
    refine r_call (m := 72) (args := [.inr (.inr (some 0))]) (n' := 146) (pc' := 15) (lo' := [some (.inr (.inr (some 0))), some (.inl s), none]) (st' := []) (I := .invokevirtual 72) (pc0 := 12) (len := 3) rfl rfl rfl (e_cl_asItIs hX) ?_
    show WV _ _ _ 15 _ [.inr (.inr (some 79))] _ (cl_asItIs v) _
    have hX_3 : XI (cl_asItIs v) := i_cl_asItIs (v := v) hX
    refine r_ex 3 (pc' := 18) (lo' := [some (.inr (.inr (some 0))), some (.inl s), none]) (st' := [.inl s, .inr (.inr (some 0))]) rfl ?_
    have hp_4 : R32 s := (by first | assumption | omega | (unfold R32 at *; omega) | (unfold R64 at *; omega) | (simp only [R32, R64] at *; omega))
    refine r_call (m := 144) (args := [.inr (.inr (some 0)), .inl s]) (n' := 146) (pc' := 21) (lo' := [some (.inr (.inr (some 0))), some (.inl s), none]) (st' := []) (I := .invokevirtual 144) (pc0 := 18) (len := 3) rfl rfl rfl (e_cl_commonHour hX_3 hp_4) ?_
    show WV _ _ _ 21 _ [.inl (cl_commonHour (cl_asItIs v) s)] _ _ _
    have hb_5 := n_cl_commonHour (v := (cl_asItIs v)) (s := s) hX_3 hp_4
    refine r_ex 2 (pc' := 23) (lo' := [some (.inr (.inr (some 0))), some (.inl s), some (.inl (cl_commonHour (cl_asItIs v) s))]) (st' := [.inl (cl_commonHour (cl_asItIs v) s)]) rfl ?_
    refine n_if_ne (pc0 := 23) (len := 3) (t := 36) rfl (by first | assumption | omega | (unfold R32 at *; omega) | (unfold R64 at *; omega) | (simp only [R32, R64] at *; omega)) (fun h_23 => ?_) (fun h_23 => ?_)
    · show WV _ _ _ 36 _ _ _ _ _
      rw [if_neg h_23] at hQ
      refine r_ex 6 (pc' := 46) (lo' := [some (.inr (.inr (some 0))), some (.inl s), some (.inl (cl_commonHour (cl_asItIs v) s))]) (st' := [.inl s, .inl (cl_commonHour (cl_asItIs v) s), .inr (.inr (some 0)), .inl ((cl_asItIs v) 33 0)]) rfl ?_
      have hb_6 : 0 ≤ ((cl_asItIs v) 33 0) ∧ ((cl_asItIs v) 33 0) ≤ 9 := hX_3 33 0
      have hp_7 : R32 (cl_commonHour (cl_asItIs v) s) := (by first | assumption | omega | (unfold R32 at *; omega) | (unfold R64 at *; omega) | (simp only [R32, R64] at *; omega))
      have hp_8 : R32 s := (by first | assumption | omega | (unfold R32 at *; omega) | (unfold R64 at *; omega) | (simp only [R32, R64] at *; omega))
      refine r_call (m := 145) (args := [.inr (.inr (some 0)), .inl (cl_commonHour (cl_asItIs v) s), .inl s]) (n' := 146) (pc' := 49) (lo' := [some (.inr (.inr (some 0))), some (.inl s), some (.inl (cl_commonHour (cl_asItIs v) s))]) (st' := [.inl ((cl_asItIs v) 33 0)]) (I := .invokevirtual 145) (pc0 := 46) (len := 3) rfl rfl rfl (e_cl_sharing hX_3 hp_7 hp_8) ?_
      show WV _ _ _ 49 _ [.inl (cl_sharing (cl_asItIs v) (cl_commonHour (cl_asItIs v) s) s), .inl ((cl_asItIs v) 33 0)] _ _ _
      have hb_9 := n_cl_sharing (v := (cl_asItIs v)) (h := (cl_commonHour (cl_asItIs v) s)) (s := s) hX_3 hp_7 hp_8
      refine r_ex 1 (pc' := 50) (lo' := [some (.inr (.inr (some 0))), some (.inl s), some (.inl (cl_commonHour (cl_asItIs v) s))]) (st' := [.inl (((cl_asItIs v) 33 0) - (cl_sharing (cl_asItIs v) (cl_commonHour (cl_asItIs v) s) s))]) rfl ?_
      refine r_ret (rr := some (.inl (((cl_asItIs v) 33 0) - (cl_sharing (cl_asItIs v) (cl_commonHour (cl_asItIs v) s) s)))) (I := .ireturn) (pc0 := 50) (len := 1) rfl rfl ?_
      exact hQ hX_3 
    · show WV _ _ _ 26 _ _ _ _ _
      rw [if_pos h_23] at hQ
      refine r_ex 4 (pc' := 50) (lo' := [some (.inr (.inr (some 0))), some (.inl s), some (.inl (cl_commonHour (cl_asItIs v) s))]) (st' := [.inl ((cl_asItIs v) 33 0)]) rfl ?_
      have hb_10 : 0 ≤ ((cl_asItIs v) 33 0) ∧ ((cl_asItIs v) 33 0) ≤ 9 := hX_3 33 0
      refine r_ret (rr := some (.inl ((cl_asItIs v) 33 0))) (I := .ireturn) (pc0 := 50) (len := 1) rfl rfl ?_
      exact hQ hX_3 
  · show WV _ _ _ 5 _ _ _ _ _
    rw [if_neg h_2] at hQ
    refine r_ex 2 (pc' := 10) (lo' := [some (.inr (.inr (some 0))), some (.inl s), none]) (st' := [.inl (-2)]) rfl ?_
    refine r_ret (rr := some (.inl (-2))) (I := .ireturn) (pc0 := 10) (len := 1) rfl rfl ?_
    exact hQ hX 

theorem e_cl_strayed {X : PX} {d b : Nat} {v : VS} {s : Int} (hX : XI v) (hp_a : R32 s) : EvV X (d + 1 + 1 + 1 + 1 + 1 + 1 + 1) 146 [.inr (.inr (some 0)), .inl s] b v (some (.inl (cl_strayed v s).1)) b ((cl_strayed v s).2) := EvV.of (w_cl_strayed hX hp_a (fun _ => ⟨rfl, rfl, rfl⟩))

theorem i_cl_strayed {v : VS} {s : Int} (hX : XI v) (hp_a : R32 s) : XI ((cl_strayed v s).2) := by
  have q : WV (0, fun _ => 0, none) (0 + 1 + 1 + 1 + 1 + 1 + 1 + 1) 146 0 [some (.inr (.inr (some 0))), some (.inl s), none] [] 1 v (fun _ _ _ => XI ((cl_strayed v s).2)) := w_cl_strayed (X := (0, fun _ => 0, none)) (d := 0) (b := 1) hX hp_a (fun q => q)
  obtain ⟨_, _, _, _, _, _, _, q⟩ := q
  exact q

theorem o_cl_strayed {rk : Nat} {v : VS} {s : Int} (hk : (rk < 0 ∨ 0 < rk) ∧ (rk < 67 ∨ 90 < rk) ∧ (rk < 105 ∨ 105 < rk)) : (cl_strayed v s).2 rk = v rk := by
  unfold cl_strayed
  by_cases hc_ : 0 ≤ s ∧ s < v 33 1
  · rw [if_pos hc_]
    by_cases hc_ : (cl_commonHour (cl_asItIs v) s) = 0
    · rw [if_pos hc_]
      all_goals (show (cl_asItIs v) rk = _)
      all_goals (rw [o_cl_asItIs (by omega)])
    · rw [if_neg hc_]
      all_goals (show (cl_asItIs v) rk = _)
      all_goals (rw [o_cl_asItIs (by omega)])
  · rw [if_neg hc_]
    all_goals (show v rk = _)
    all_goals rfl

def cl_isSplit_4 : Nat → VS → Int → Int → Int → Int
  | 0, v, s, o, j => 0
  | f + 1, v, s, o, j => (if j < (v 33 0) then (if (cl_struckLast v j s) = 0 then (cl_isSplit_4 f v s o (j + 1)) else (if o = 0 then (cl_isSplit_4 f v s (cl_struckLast v j s) (j + 1)) else (if (cl_struckLast v j s) = o then (cl_isSplit_4 f v s (cl_struckLast v j s) (j + 1)) else 1))) else 0)
def cl_isSplit (v : VS) (s : Int) : Int :=
  (cl_isSplit_4 10 v s 0 0)
theorem l_cl_isSplit_4 {X : PX} {d b : Nat} {Q : Option PV → Nat → VS → Prop}  : ∀ (f : Nat) (v : VS) (s : Int) (o : Int) (j : Int) (o4 : Option PV), XI v → (0 ≤ j ∧ j ≤ 9) → (R32 s) → (0 ≤ o ∧ o ≤ 99) → (9 < j + f) → ((0 ≤ (cl_isSplit_4 f v s o j) ∧ (cl_isSplit_4 f v s o j) ≤ 1) → Q (some (.inl (cl_isSplit_4 f v s o j))) b v) → WV X (d + 1 + 1) 148 4 [some (.inr (.inr (some 0))), some (.inl s), some (.inl o), some (.inl j), o4] [] b v Q := by
  intro f
  induction f with
  | zero =>
    intro v s o j o4 hX hi_0 hi_1 hi_2 hf hQ
    exfalso
    omega
  | succ f ih =>
    intro v s o j o4 hX hi_0 hi_1 hi_2 hf hQ
    rw [cl_isSplit_4] at hQ
    refine r_ex 4 (pc' := 12) (lo' := [some (.inr (.inr (some 0))), some (.inl s), some (.inl o), some (.inl j), o4]) (st' := [.inl (v 33 0), .inl j]) rfl ?_
    have hb_1 : 0 ≤ (v 33 0) ∧ (v 33 0) ≤ 9 := hX 33 0
    refine n_ic_ge (pc0 := 12) (len := 3) (t := 49) rfl (by first | assumption | omega | (unfold R32 at *; omega) | (unfold R64 at *; omega) | (simp only [R32, R64] at *; omega)) (by first | assumption | omega | (unfold R32 at *; omega) | (unfold R64 at *; omega) | (simp only [R32, R64] at *; omega)) (fun h_12 => ?_) (fun h_12 => ?_)
    · show WV _ _ _ 49 _ _ _ _ _
      rw [if_neg h_12] at hQ
      refine r_ex 1 (pc' := 50) (lo' := [some (.inr (.inr (some 0))), some (.inl s), some (.inl o), some (.inl j), o4]) (st' := [.inl 0]) rfl ?_
      refine r_ret (rr := some (.inl 0)) (I := .ireturn) (pc0 := 50) (len := 1) rfl rfl ?_
      exact hQ (by first | assumption | omega | (unfold R32 at *; omega) | (unfold R64 at *; omega) | (simp only [R32, R64] at *; omega))
    · show WV _ _ _ 15 _ _ _ _ _
      rw [if_pos h_12] at hQ
      refine r_ex 3 (pc' := 18) (lo' := [some (.inr (.inr (some 0))), some (.inl s), some (.inl o), some (.inl j), o4]) (st' := [.inl s, .inl j, .inr (.inr (some 0))]) rfl ?_
      have hp_2 : R32 j := (by first | assumption | omega | (unfold R32 at *; omega) | (unfold R64 at *; omega) | (simp only [R32, R64] at *; omega))
      have hp_3 : R32 s := (by first | assumption | omega | (unfold R32 at *; omega) | (unfold R64 at *; omega) | (simp only [R32, R64] at *; omega))
      refine r_call (m := 90) (args := [.inr (.inr (some 0)), .inl j, .inl s]) (n' := 148) (pc' := 21) (lo' := [some (.inr (.inr (some 0))), some (.inl s), some (.inl o), some (.inl j), o4]) (st' := []) (I := .invokevirtual 90) (pc0 := 18) (len := 3) rfl rfl rfl (e_cl_struckLast hX hp_2 hp_3) ?_
      show WV _ _ _ 21 _ [.inl (cl_struckLast v j s)] _ _ _
      have hb_4 := n_cl_struckLast (v := v) (c := j) (s := s) hX hp_2 hp_3
      refine r_ex 2 (pc' := 25) (lo' := [some (.inr (.inr (some 0))), some (.inl s), some (.inl o), some (.inl j), some (.inl (cl_struckLast v j s))]) (st' := [.inl (cl_struckLast v j s)]) rfl ?_
      refine n_if_eq (pc0 := 25) (len := 3) (t := 43) rfl (by first | assumption | omega | (unfold R32 at *; omega) | (unfold R64 at *; omega) | (simp only [R32, R64] at *; omega)) (fun h_25 => ?_) (fun h_25 => ?_)
      · show WV _ _ _ 43 _ _ _ _ _
        rw [if_pos h_25] at hQ
        refine r_ex 2 (pc' := 4) (lo' := [some (.inr (.inr (some 0))), some (.inl s), some (.inl o), some (.inl (j + 1)), some (.inl (cl_struckLast v j s))]) (st' := []) rfl ?_
        refine ih v s o (j + 1) _ hX (by first | assumption | omega | (unfold R32 at *; omega) | (unfold R64 at *; omega) | (simp only [R32, R64] at *; omega)) (by first | assumption | omega | (unfold R32 at *; omega) | (unfold R64 at *; omega) | (simp only [R32, R64] at *; omega)) (by first | assumption | omega | (unfold R32 at *; omega) | (unfold R64 at *; omega) | (simp only [R32, R64] at *; omega)) (by first | assumption | omega | (unfold R32 at *; omega) | (unfold R64 at *; omega) | (simp only [R32, R64] at *; omega)) hQ
      · show WV _ _ _ 28 _ _ _ _ _
        rw [if_neg h_25] at hQ
        refine r_ex 1 (pc' := 29) (lo' := [some (.inr (.inr (some 0))), some (.inl s), some (.inl o), some (.inl j), some (.inl (cl_struckLast v j s))]) (st' := [.inl o]) rfl ?_
        refine n_if_eq (pc0 := 29) (len := 3) (t := 40) rfl (by first | assumption | omega | (unfold R32 at *; omega) | (unfold R64 at *; omega) | (simp only [R32, R64] at *; omega)) (fun h_29 => ?_) (fun h_29 => ?_)
        · show WV _ _ _ 40 _ _ _ _ _
          rw [if_pos h_29] at hQ
          refine r_ex 4 (pc' := 4) (lo' := [some (.inr (.inr (some 0))), some (.inl s), some (.inl (cl_struckLast v j s)), some (.inl (j + 1)), some (.inl (cl_struckLast v j s))]) (st' := []) rfl ?_
          refine ih v s (cl_struckLast v j s) (j + 1) _ hX (by first | assumption | omega | (unfold R32 at *; omega) | (unfold R64 at *; omega) | (simp only [R32, R64] at *; omega)) (by first | assumption | omega | (unfold R32 at *; omega) | (unfold R64 at *; omega) | (simp only [R32, R64] at *; omega)) (by first | assumption | omega | (unfold R32 at *; omega) | (unfold R64 at *; omega) | (simp only [R32, R64] at *; omega)) (by first | assumption | omega | (unfold R32 at *; omega) | (unfold R64 at *; omega) | (simp only [R32, R64] at *; omega)) hQ
        · show WV _ _ _ 32 _ _ _ _ _
          rw [if_neg h_29] at hQ
          refine r_ex 2 (pc' := 35) (lo' := [some (.inr (.inr (some 0))), some (.inl s), some (.inl o), some (.inl j), some (.inl (cl_struckLast v j s))]) (st' := [.inl o, .inl (cl_struckLast v j s)]) rfl ?_
          refine n_ic_eq (pc0 := 35) (len := 3) (t := 40) rfl (by first | assumption | omega | (unfold R32 at *; omega) | (unfold R64 at *; omega) | (simp only [R32, R64] at *; omega)) (by first | assumption | omega | (unfold R32 at *; omega) | (unfold R64 at *; omega) | (simp only [R32, R64] at *; omega)) (fun h_35 => ?_) (fun h_35 => ?_)
          · show WV _ _ _ 40 _ _ _ _ _
            rw [if_pos h_35] at hQ
            refine r_ex 4 (pc' := 4) (lo' := [some (.inr (.inr (some 0))), some (.inl s), some (.inl (cl_struckLast v j s)), some (.inl (j + 1)), some (.inl (cl_struckLast v j s))]) (st' := []) rfl ?_
            refine ih v s (cl_struckLast v j s) (j + 1) _ hX (by first | assumption | omega | (unfold R32 at *; omega) | (unfold R64 at *; omega) | (simp only [R32, R64] at *; omega)) (by first | assumption | omega | (unfold R32 at *; omega) | (unfold R64 at *; omega) | (simp only [R32, R64] at *; omega)) (by first | assumption | omega | (unfold R32 at *; omega) | (unfold R64 at *; omega) | (simp only [R32, R64] at *; omega)) (by first | assumption | omega | (unfold R32 at *; omega) | (unfold R64 at *; omega) | (simp only [R32, R64] at *; omega)) hQ
          · show WV _ _ _ 38 _ _ _ _ _
            rw [if_neg h_35] at hQ
            refine r_ex 1 (pc' := 39) (lo' := [some (.inr (.inr (some 0))), some (.inl s), some (.inl o), some (.inl j), some (.inl (cl_struckLast v j s))]) (st' := [.inl 1]) rfl ?_
            refine r_ret (rr := some (.inl 1)) (I := .ireturn) (pc0 := 39) (len := 1) rfl rfl ?_
            exact hQ (by first | assumption | omega | (unfold R32 at *; omega) | (unfold R64 at *; omega) | (simp only [R32, R64] at *; omega))

theorem w_cl_isSplit {X : PX} {d b : Nat} {v : VS} {s : Int} (hX : XI v) (hp_a : R32 s) {Q : Option PV → Nat → VS → Prop} (hQ : (0 ≤ (cl_isSplit v s) ∧ (cl_isSplit v s) ≤ 1) → Q (some (.inl (cl_isSplit v s))) b v) : WV X (d + 1 + 1) 148 0 [some (.inr (.inr (some 0))), some (.inl s), none, none, none] [] b v Q := by
  rw [cl_isSplit] at hQ
  refine r_ex 4 (pc' := 4) (lo' := [some (.inr (.inr (some 0))), some (.inl s), some (.inl 0), some (.inl 0), none]) (st' := []) rfl ?_
  exact l_cl_isSplit_4 10 v s 0 0 _ hX (by first | assumption | omega | (unfold R32 at *; omega) | (unfold R64 at *; omega) | (simp only [R32, R64] at *; omega)) (by first | assumption | omega | (unfold R32 at *; omega) | (unfold R64 at *; omega) | (simp only [R32, R64] at *; omega)) (by first | assumption | omega | (unfold R32 at *; omega) | (unfold R64 at *; omega) | (simp only [R32, R64] at *; omega)) (by first | assumption | omega | (unfold R32 at *; omega) | (unfold R64 at *; omega) | (simp only [R32, R64] at *; omega)) hQ

theorem e_cl_isSplit {X : PX} {d b : Nat} {v : VS} {s : Int} (hX : XI v) (hp_a : R32 s) : EvV X (d + 1 + 1) 148 [.inr (.inr (some 0)), .inl s] b v (some (.inl (cl_isSplit v s))) b v := EvV.of (w_cl_isSplit hX hp_a (fun _ => ⟨rfl, rfl, rfl⟩))

theorem n_cl_isSplit {v : VS} {s : Int} (hX : XI v) (hp_a : R32 s) : 0 ≤ (cl_isSplit v s) ∧ (cl_isSplit v s) ≤ 1 := by
  have q : WV (0, fun _ => 0, none) (0 + 1 + 1) 148 0 [some (.inr (.inr (some 0))), some (.inl s), none, none, none] [] 1 v (fun _ _ _ => 0 ≤ (cl_isSplit v s) ∧ (cl_isSplit v s) ≤ 1) := w_cl_isSplit (X := (0, fun _ => 0, none)) (d := 0) (b := 1) hX hp_a (fun q => q)
  obtain ⟨_, _, _, _, _, _, _, q⟩ := q
  exact q

def cl_splits_19 : Nat → VS → Int → Int → Int
  | 0, v, n, t => 0
  | f + 1, v, n, t => (if t < (v 33 1) then (if (cl_isSplit v t) = 0 then (cl_splits_19 f v n (t + 1)) else (cl_splits_19 f v (n + 1) (t + 1))) else n)
def cl_splits (v : VS)  : Int × VS :=
  (if 0 < v 33 2 then ((cl_splits_19 301 (cl_asItIs v) 0 0), (cl_asItIs v)) else ((-2), v))
theorem l_cl_splits_19 {X : PX} {d b : Nat} {Q : Option PV → Nat → VS → Prop}  : ∀ (f : Nat) (v : VS) (n : Int) (t : Int), XI v → (0 ≤ t ∧ t ≤ 300) → (0 ≤ n ∧ n ≤ t) → (300 < t + f) → (∀ qx0 : Option PV, ∀ qx2 : Option PV, (0 ≤ (cl_splits_19 f v n t) ∧ (cl_splits_19 f v n t) ≤ 300) → WV X (d + 1 + 1 + 1 + 1 + 1 + 1 + 1) 147 47 [qx0, some (.inl (cl_splits_19 f v n t)), qx2] [] b v Q) → WV X (d + 1 + 1 + 1 + 1 + 1 + 1 + 1) 147 19 [some (.inr (.inr (some 0))), some (.inl n), some (.inl t)] [] b v Q := by
  intro f
  induction f with
  | zero =>
    intro v n t hX hi_0 hi_1 hf hK
    exfalso
    omega
  | succ f ih =>
    intro v n t hX hi_0 hi_1 hf hK
    rw [cl_splits_19] at hK
    refine r_ex 4 (pc' := 27) (lo' := [some (.inr (.inr (some 0))), some (.inl n), some (.inl t)]) (st' := [.inl (v 33 1), .inl t]) rfl ?_
    have hb_3 : 0 ≤ (v 33 1) ∧ (v 33 1) ≤ 300 := hX 33 1
    refine n_ic_ge (pc0 := 27) (len := 3) (t := 47) rfl (by first | assumption | omega | (unfold R32 at *; omega) | (unfold R64 at *; omega) | (simp only [R32, R64] at *; omega)) (by first | assumption | omega | (unfold R32 at *; omega) | (unfold R64 at *; omega) | (simp only [R32, R64] at *; omega)) (fun h_27 => ?_) (fun h_27 => ?_)
    · show WV _ _ _ 47 _ _ _ _ _
      rw [if_neg h_27] at hK
      exact hK _ _  (by first | assumption | omega | (unfold R32 at *; omega) | (unfold R64 at *; omega) | (simp only [R32, R64] at *; omega))
    · show WV _ _ _ 30 _ _ _ _ _
      rw [if_pos h_27] at hK
      refine r_ex 2 (pc' := 32) (lo' := [some (.inr (.inr (some 0))), some (.inl n), some (.inl t)]) (st' := [.inl t, .inr (.inr (some 0))]) rfl ?_
      have hp_4 : R32 t := (by first | assumption | omega | (unfold R32 at *; omega) | (unfold R64 at *; omega) | (simp only [R32, R64] at *; omega))
      refine r_call (m := 148) (args := [.inr (.inr (some 0)), .inl t]) (n' := 147) (pc' := 35) (lo' := [some (.inr (.inr (some 0))), some (.inl n), some (.inl t)]) (st' := []) (I := .invokevirtual 148) (pc0 := 32) (len := 3) rfl rfl rfl (e_cl_isSplit hX hp_4) ?_
      show WV _ _ _ 35 _ [.inl (cl_isSplit v t)] _ _ _
      have hb_5 := n_cl_isSplit (v := v) (s := t) hX hp_4
      refine n_if_eq (pc0 := 35) (len := 3) (t := 41) rfl (by first | assumption | omega | (unfold R32 at *; omega) | (unfold R64 at *; omega) | (simp only [R32, R64] at *; omega)) (fun h_35 => ?_) (fun h_35 => ?_)
      · show WV _ _ _ 41 _ _ _ _ _
        rw [if_pos h_35] at hK
        refine r_ex 2 (pc' := 19) (lo' := [some (.inr (.inr (some 0))), some (.inl n), some (.inl (t + 1))]) (st' := []) rfl ?_
        refine ih v n (t + 1)  hX (by first | assumption | omega | (unfold R32 at *; omega) | (unfold R64 at *; omega) | (simp only [R32, R64] at *; omega)) (by first | assumption | omega | (unfold R32 at *; omega) | (unfold R64 at *; omega) | (simp only [R32, R64] at *; omega)) (by first | assumption | omega | (unfold R32 at *; omega) | (unfold R64 at *; omega) | (simp only [R32, R64] at *; omega)) hK
      · show WV _ _ _ 38 _ _ _ _ _
        rw [if_neg h_35] at hK
        refine r_ex 3 (pc' := 19) (lo' := [some (.inr (.inr (some 0))), some (.inl (n + 1)), some (.inl (t + 1))]) (st' := []) rfl ?_
        refine ih v (n + 1) (t + 1)  hX (by first | assumption | omega | (unfold R32 at *; omega) | (unfold R64 at *; omega) | (simp only [R32, R64] at *; omega)) (by first | assumption | omega | (unfold R32 at *; omega) | (unfold R64 at *; omega) | (simp only [R32, R64] at *; omega)) (by first | assumption | omega | (unfold R32 at *; omega) | (unfold R64 at *; omega) | (simp only [R32, R64] at *; omega)) hK

theorem w_cl_splits {X : PX} {d b : Nat} {v : VS}  (hX : XI v)  {Q : Option PV → Nat → VS → Prop} (hQ : XI (cl_splits v).2 → Q (some (.inl (cl_splits v).1)) b (cl_splits v).2) : WV X (d + 1 + 1 + 1 + 1 + 1 + 1 + 1) 147 0 [some (.inr (.inr (some 0))), none, none] [] b v Q := by
  rw [cl_splits] at hQ
  refine r_ex 1 (pc' := 1) (lo' := [some (.inr (.inr (some 0))), none, none]) (st' := [.inr (.inr (some 0))]) rfl ?_
  have hb_1 : 0 ≤ v 33 2 ∧ v 33 2 ≤ 2001 := hX 33 2
  refine r_callb (P := 0 < v 33 2) (m := 71) (args := [.inr (.inr (some 0))]) (n' := 147) (pc' := 4) (lo' := [some (.inr (.inr (some 0))), none, none]) (st' := []) (I := .invokevirtual 71) (pc0 := 1) (len := 3) rfl rfl rfl (e_cl_hasBay hX) (fun h_1 => ?_) (fun h_1 => ?_)
  · show WV _ _ _ 4 _ _ _ _ _
    rw [if_pos h_1] at hQ
    refine r_ex 2 (pc' := 11) (lo' := [some (.inr (.inr (some 0))), none, none]) (st' := [.inr (.inr (some 0))]) rfl ?_
    refine r_call (m := 72) (args := [.inr (.inr (some 0))]) (n' := 147) (pc' := 14) (lo' := [some (.inr (.inr (some 0))), none, none]) (st' := []) (I := .invokevirtual 72) (pc0 := 11) (len := 3) rfl rfl rfl (e_cl_asItIs hX) ?_
    show WV _ _ _ 14 _ [.inr (.inr (some 79))] _ (cl_asItIs v) _
    have hX_2 : XI (cl_asItIs v) := i_cl_asItIs (v := v) hX
    refine r_ex 5 (pc' := 19) (lo' := [some (.inr (.inr (some 0))), some (.inl 0), some (.inl 0)]) (st' := []) rfl ?_
    refine l_cl_splits_19 301 (cl_asItIs v) 0 0  hX_2 (by first | assumption | omega | (unfold R32 at *; omega) | (unfold R64 at *; omega) | (simp only [R32, R64] at *; omega)) (by first | assumption | omega | (unfold R32 at *; omega) | (unfold R64 at *; omega) | (simp only [R32, R64] at *; omega)) (by first | assumption | omega | (unfold R32 at *; omega) | (unfold R64 at *; omega) | (simp only [R32, R64] at *; omega)) (fun o0_6 o2_6  hv_6_0 => ?_)
    show WV _ _ _ 47 _ _ _ _ _
    refine r_ex 1 (pc' := 48) (lo' := [o0_6, some (.inl (cl_splits_19 301 (cl_asItIs v) 0 0)), o2_6]) (st' := [.inl (cl_splits_19 301 (cl_asItIs v) 0 0)]) rfl ?_
    refine r_ret (rr := some (.inl (cl_splits_19 301 (cl_asItIs v) 0 0))) (I := .ireturn) (pc0 := 48) (len := 1) rfl rfl ?_
    exact hQ hX_2 
  · show WV _ _ _ 4 _ _ _ _ _
    rw [if_neg h_1] at hQ
    refine r_ex 2 (pc' := 9) (lo' := [some (.inr (.inr (some 0))), none, none]) (st' := [.inl (-2)]) rfl ?_
    refine r_ret (rr := some (.inl (-2))) (I := .ireturn) (pc0 := 9) (len := 1) rfl rfl ?_
    exact hQ hX 

theorem e_cl_splits {X : PX} {d b : Nat} {v : VS}  (hX : XI v)  : EvV X (d + 1 + 1 + 1 + 1 + 1 + 1 + 1) 147 [.inr (.inr (some 0))] b v (some (.inl (cl_splits v).1)) b ((cl_splits v).2) := EvV.of (w_cl_splits hX  (fun _ => ⟨rfl, rfl, rfl⟩))

theorem i_cl_splits {v : VS}  (hX : XI v)  : XI ((cl_splits v).2) := by
  have q : WV (0, fun _ => 0, none) (0 + 1 + 1 + 1 + 1 + 1 + 1 + 1) 147 0 [some (.inr (.inr (some 0))), none, none] [] 1 v (fun _ _ _ => XI ((cl_splits v).2)) := w_cl_splits (X := (0, fun _ => 0, none)) (d := 0) (b := 1) hX  (fun q => q)
  obtain ⟨_, _, _, _, _, _, _, q⟩ := q
  exact q

theorem o_cl_splits {rk : Nat} {v : VS}  (hk : (rk < 0 ∨ 0 < rk) ∧ (rk < 67 ∨ 90 < rk) ∧ (rk < 105 ∨ 105 < rk)) : (cl_splits v ).2 rk = v rk := by
  unfold cl_splits
  by_cases hc_ : 0 < v 33 2
  · rw [if_pos hc_]
    all_goals (show (cl_asItIs v) rk = _)
    all_goals (rw [o_cl_asItIs (by omega)])
  · rw [if_neg hc_]
    all_goals (show v rk = _)
    all_goals rfl

def cl_silence_35 : Nat → VS → Int → Int → Int → Int → Int → Int × Int
  | 0, v, w, l, m, x, i => (0, 0)
  | f + 1, v, w, l, m, x, i => (if (v 79 4) < i then (l, m) else (if i < (v 79 4) then (if l < ((v 80 ((i).toNat)) - x) then (cl_silence_35 f v w ((v 80 ((i).toNat)) - x) x ((v 80 ((i).toNat)) + 1) (i + 1)) else (cl_silence_35 f v w l m ((v 80 ((i).toNat)) + 1) (i + 1))) else (if l < ((v 33 1) - x) then (cl_silence_35 f v w ((v 33 1) - x) x ((v 33 1) + 1) (i + 1)) else (cl_silence_35 f v w l m ((v 33 1) + 1) (i + 1)))))
def cl_silence (v : VS) (w : Int) : Int × VS :=
  (if 0 < v 33 2 then (if w < 0 then ((-2), v) else (if 1 < w then ((-2), v) else (if w = 0 then ((cl_silence_35 302 (cl_asItIs v) w 0 (-1) 0 0).1, (cl_asItIs v)) else ((cl_silence_35 302 (cl_asItIs v) w 0 (-1) 0 0).2, (cl_asItIs v))))) else ((-2), v))
theorem l_cl_silence_35 {X : PX} {d b : Nat} {Q : Option PV → Nat → VS → Prop}  : ∀ (f : Nat) (v : VS) (w : Int) (l : Int) (m : Int) (x : Int) (i : Int) (o7 : Option PV), XI v → (0 ≤ i ∧ i ≤ 301) → (R32 w) → (0 ≤ l ∧ l ≤ 300) → (-1 ≤ m ∧ m ≤ 301) → (0 ≤ x ∧ x ≤ 301) → (301 < i + f) → (∀ qx0 : Option PV, ∀ qx2 : Option PV, ∀ qx5 : Option PV, ∀ qx6 : Option PV, ∀ qx7 : Option PV, (0 ≤ (cl_silence_35 f v w l m x i).1 ∧ (cl_silence_35 f v w l m x i).1 ≤ 300) → (-1 ≤ (cl_silence_35 f v w l m x i).2 ∧ (cl_silence_35 f v w l m x i).2 ≤ 301) → WV X (d + 1 + 1 + 1 + 1 + 1 + 1 + 1) 149 103 [qx0, some (.inl w), qx2, some (.inl ((cl_silence_35 f v w l m x i).1)), some (.inl ((cl_silence_35 f v w l m x i).2)), qx5, qx6, qx7] [] b v Q) → WV X (d + 1 + 1 + 1 + 1 + 1 + 1 + 1) 149 35 [some (.inr (.inr (some 0))), some (.inl w), some (.inr (.inr (some 79))), some (.inl l), some (.inl m), some (.inl x), some (.inl i), o7] [] b v Q := by
  intro f
  induction f with
  | zero =>
    intro v w l m x i o7 hX hi_0 hi_1 hi_2 hi_3 hi_4 hf hK
    exfalso
    omega
  | succ f ih =>
    intro v w l m x i o7 hX hi_0 hi_1 hi_2 hi_3 hi_4 hf hK
    rw [cl_silence_35] at hK
    refine r_ex 3 (pc' := 41) (lo' := [some (.inr (.inr (some 0))), some (.inl w), some (.inr (.inr (some 79))), some (.inl l), some (.inl m), some (.inl x), some (.inl i), o7]) (st' := [.inl (v 79 4), .inl i]) rfl ?_
    have hb_3 : 0 ≤ (v 79 4) ∧ (v 79 4) ≤ 300 := hX 79 4
    refine n_ic_gt (pc0 := 41) (len := 3) (t := 103) rfl (by first | assumption | omega | (unfold R32 at *; omega) | (unfold R64 at *; omega) | (simp only [R32, R64] at *; omega)) (by first | assumption | omega | (unfold R32 at *; omega) | (unfold R64 at *; omega) | (simp only [R32, R64] at *; omega)) (fun h_41 => ?_) (fun h_41 => ?_)
    · show WV _ _ _ 103 _ _ _ _ _
      rw [if_pos h_41] at hK
      exact hK _ _ _ _ _  (by first | assumption | omega | (unfold R32 at *; omega) | (unfold R64 at *; omega) | (simp only [R32, R64] at *; omega)) (by first | assumption | omega | (unfold R32 at *; omega) | (unfold R64 at *; omega) | (simp only [R32, R64] at *; omega))
    · show WV _ _ _ 44 _ _ _ _ _
      rw [if_neg h_41] at hK
      refine r_ex 3 (pc' := 50) (lo' := [some (.inr (.inr (some 0))), some (.inl w), some (.inr (.inr (some 79))), some (.inl l), some (.inl m), some (.inl x), some (.inl i), o7]) (st' := [.inl (v 79 4), .inl i]) rfl ?_
      refine n_ic_ge (pc0 := 50) (len := 3) (t := 63) rfl (by first | assumption | omega | (unfold R32 at *; omega) | (unfold R64 at *; omega) | (simp only [R32, R64] at *; omega)) (by first | assumption | omega | (unfold R32 at *; omega) | (unfold R64 at *; omega) | (simp only [R32, R64] at *; omega)) (fun h_50 => ?_) (fun h_50 => ?_)
      · show WV _ _ _ 63 _ _ _ _ _
        rw [if_neg h_50] at hK
        refine r_ex 8 (pc' := 78) (lo' := [some (.inr (.inr (some 0))), some (.inl w), some (.inr (.inr (some 79))), some (.inl l), some (.inl m), some (.inl x), some (.inl i), some (.inl (v 33 1))]) (st' := [.inl l, .inl ((v 33 1) - x)]) rfl ?_
        have hb_4 : 0 ≤ (v 33 1) ∧ (v 33 1) ≤ 300 := hX 33 1
        refine n_ic_le (pc0 := 78) (len := 3) (t := 91) rfl (by first | assumption | omega | (unfold R32 at *; omega) | (unfold R64 at *; omega) | (simp only [R32, R64] at *; omega)) (by first | assumption | omega | (unfold R32 at *; omega) | (unfold R64 at *; omega) | (simp only [R32, R64] at *; omega)) (fun h_78 => ?_) (fun h_78 => ?_)
        · show WV _ _ _ 91 _ _ _ _ _
          rw [if_neg h_78] at hK
          refine r_ex 6 (pc' := 35) (lo' := [some (.inr (.inr (some 0))), some (.inl w), some (.inr (.inr (some 79))), some (.inl l), some (.inl m), some (.inl ((v 33 1) + 1)), some (.inl (i + 1)), some (.inl (v 33 1))]) (st' := []) rfl ?_
          refine ih v w l m ((v 33 1) + 1) (i + 1) _ hX (by first | assumption | omega | (unfold R32 at *; omega) | (unfold R64 at *; omega) | (simp only [R32, R64] at *; omega)) (by first | assumption | omega | (unfold R32 at *; omega) | (unfold R64 at *; omega) | (simp only [R32, R64] at *; omega)) (by first | assumption | omega | (unfold R32 at *; omega) | (unfold R64 at *; omega) | (simp only [R32, R64] at *; omega)) (by first | assumption | omega | (unfold R32 at *; omega) | (unfold R64 at *; omega) | (simp only [R32, R64] at *; omega)) (by first | assumption | omega | (unfold R32 at *; omega) | (unfold R64 at *; omega) | (simp only [R32, R64] at *; omega)) (by first | assumption | omega | (unfold R32 at *; omega) | (unfold R64 at *; omega) | (simp only [R32, R64] at *; omega)) hK
        · show WV _ _ _ 81 _ _ _ _ _
          rw [if_pos h_78] at hK
          refine r_ex 12 (pc' := 35) (lo' := [some (.inr (.inr (some 0))), some (.inl w), some (.inr (.inr (some 79))), some (.inl ((v 33 1) - x)), some (.inl x), some (.inl ((v 33 1) + 1)), some (.inl (i + 1)), some (.inl (v 33 1))]) (st' := []) rfl ?_
          refine ih v w ((v 33 1) - x) x ((v 33 1) + 1) (i + 1) _ hX (by first | assumption | omega | (unfold R32 at *; omega) | (unfold R64 at *; omega) | (simp only [R32, R64] at *; omega)) (by first | assumption | omega | (unfold R32 at *; omega) | (unfold R64 at *; omega) | (simp only [R32, R64] at *; omega)) (by first | assumption | omega | (unfold R32 at *; omega) | (unfold R64 at *; omega) | (simp only [R32, R64] at *; omega)) (by first | assumption | omega | (unfold R32 at *; omega) | (unfold R64 at *; omega) | (simp only [R32, R64] at *; omega)) (by first | assumption | omega | (unfold R32 at *; omega) | (unfold R64 at *; omega) | (simp only [R32, R64] at *; omega)) (by first | assumption | omega | (unfold R32 at *; omega) | (unfold R64 at *; omega) | (simp only [R32, R64] at *; omega)) hK
      · show WV _ _ _ 53 _ _ _ _ _
        rw [if_pos h_50] at hK
        refine r_ex 3 (pc' := 59) (lo' := [some (.inr (.inr (some 0))), some (.inl w), some (.inr (.inr (some 79))), some (.inl l), some (.inl m), some (.inl x), some (.inl i), o7]) (st' := [.inl i, .inr (.inr (some 80))]) rfl ?_
        refine r_iald2 (j := 0) (x := (v 80 ((i).toNat))) (pc' := 60) (pc0 := 59) (len := 1) rfl (s_80 _) (by first | assumption | omega | (unfold R32 at *; omega) | (unfold R64 at *; omega) | (simp only [R32, R64] at *; omega)) (by decide) rfl rfl ?_
        have hb_5 : 0 ≤ (v 80 ((i).toNat)) ∧ (v 80 ((i).toNat)) ≤ 299 := hX 80 ((i).toNat)
        refine r_ex 6 (pc' := 78) (lo' := [some (.inr (.inr (some 0))), some (.inl w), some (.inr (.inr (some 79))), some (.inl l), some (.inl m), some (.inl x), some (.inl i), some (.inl (v 80 ((i).toNat)))]) (st' := [.inl l, .inl ((v 80 ((i).toNat)) - x)]) rfl ?_
        refine n_ic_le (pc0 := 78) (len := 3) (t := 91) rfl (by first | assumption | omega | (unfold R32 at *; omega) | (unfold R64 at *; omega) | (simp only [R32, R64] at *; omega)) (by first | assumption | omega | (unfold R32 at *; omega) | (unfold R64 at *; omega) | (simp only [R32, R64] at *; omega)) (fun h_78 => ?_) (fun h_78 => ?_)
        · show WV _ _ _ 91 _ _ _ _ _
          rw [if_neg h_78] at hK
          refine r_ex 6 (pc' := 35) (lo' := [some (.inr (.inr (some 0))), some (.inl w), some (.inr (.inr (some 79))), some (.inl l), some (.inl m), some (.inl ((v 80 ((i).toNat)) + 1)), some (.inl (i + 1)), some (.inl (v 80 ((i).toNat)))]) (st' := []) rfl ?_
          refine ih v w l m ((v 80 ((i).toNat)) + 1) (i + 1) _ hX (by first | assumption | omega | (unfold R32 at *; omega) | (unfold R64 at *; omega) | (simp only [R32, R64] at *; omega)) (by first | assumption | omega | (unfold R32 at *; omega) | (unfold R64 at *; omega) | (simp only [R32, R64] at *; omega)) (by first | assumption | omega | (unfold R32 at *; omega) | (unfold R64 at *; omega) | (simp only [R32, R64] at *; omega)) (by first | assumption | omega | (unfold R32 at *; omega) | (unfold R64 at *; omega) | (simp only [R32, R64] at *; omega)) (by first | assumption | omega | (unfold R32 at *; omega) | (unfold R64 at *; omega) | (simp only [R32, R64] at *; omega)) (by first | assumption | omega | (unfold R32 at *; omega) | (unfold R64 at *; omega) | (simp only [R32, R64] at *; omega)) hK
        · show WV _ _ _ 81 _ _ _ _ _
          rw [if_pos h_78] at hK
          refine r_ex 12 (pc' := 35) (lo' := [some (.inr (.inr (some 0))), some (.inl w), some (.inr (.inr (some 79))), some (.inl ((v 80 ((i).toNat)) - x)), some (.inl x), some (.inl ((v 80 ((i).toNat)) + 1)), some (.inl (i + 1)), some (.inl (v 80 ((i).toNat)))]) (st' := []) rfl ?_
          refine ih v w ((v 80 ((i).toNat)) - x) x ((v 80 ((i).toNat)) + 1) (i + 1) _ hX (by first | assumption | omega | (unfold R32 at *; omega) | (unfold R64 at *; omega) | (simp only [R32, R64] at *; omega)) (by first | assumption | omega | (unfold R32 at *; omega) | (unfold R64 at *; omega) | (simp only [R32, R64] at *; omega)) (by first | assumption | omega | (unfold R32 at *; omega) | (unfold R64 at *; omega) | (simp only [R32, R64] at *; omega)) (by first | assumption | omega | (unfold R32 at *; omega) | (unfold R64 at *; omega) | (simp only [R32, R64] at *; omega)) (by first | assumption | omega | (unfold R32 at *; omega) | (unfold R64 at *; omega) | (simp only [R32, R64] at *; omega)) (by first | assumption | omega | (unfold R32 at *; omega) | (unfold R64 at *; omega) | (simp only [R32, R64] at *; omega)) hK

theorem w_cl_silence {X : PX} {d b : Nat} {v : VS} {w : Int} (hX : XI v) (hp_a : R32 w) {Q : Option PV → Nat → VS → Prop} (hQ : XI (cl_silence v w).2 → Q (some (.inl (cl_silence v w).1)) b (cl_silence v w).2) : WV X (d + 1 + 1 + 1 + 1 + 1 + 1 + 1) 149 0 [some (.inr (.inr (some 0))), some (.inl w), none, none, none, none, none, none] [] b v Q := by
  rw [cl_silence] at hQ
  refine r_ex 1 (pc' := 1) (lo' := [some (.inr (.inr (some 0))), some (.inl w), none, none, none, none, none, none]) (st' := [.inr (.inr (some 0))]) rfl ?_
  have hb_1 : 0 ≤ v 33 2 ∧ v 33 2 ≤ 2001 := hX 33 2
  refine r_callb (P := 0 < v 33 2) (m := 71) (args := [.inr (.inr (some 0))]) (n' := 149) (pc' := 4) (lo' := [some (.inr (.inr (some 0))), some (.inl w), none, none, none, none, none, none]) (st' := []) (I := .invokevirtual 71) (pc0 := 1) (len := 3) rfl rfl rfl (e_cl_hasBay hX) (fun h_1 => ?_) (fun h_1 => ?_)
  · show WV _ _ _ 4 _ _ _ _ _
    rw [if_pos h_1] at hQ
    refine r_ex 2 (pc' := 8) (lo' := [some (.inr (.inr (some 0))), some (.inl w), none, none, none, none, none, none]) (st' := [.inl w]) rfl ?_
    refine n_if_lt (pc0 := 8) (len := 3) (t := 16) rfl (by first | assumption | omega | (unfold R32 at *; omega) | (unfold R64 at *; omega) | (simp only [R32, R64] at *; omega)) (fun h_8 => ?_) (fun h_8 => ?_)
    · show WV _ _ _ 16 _ _ _ _ _
      rw [if_pos h_8] at hQ
      refine r_ex 1 (pc' := 18) (lo' := [some (.inr (.inr (some 0))), some (.inl w), none, none, none, none, none, none]) (st' := [.inl (-2)]) rfl ?_
      refine r_ret (rr := some (.inl (-2))) (I := .ireturn) (pc0 := 18) (len := 1) rfl rfl ?_
      exact hQ hX 
    · show WV _ _ _ 11 _ _ _ _ _
      rw [if_neg h_8] at hQ
      refine r_ex 2 (pc' := 13) (lo' := [some (.inr (.inr (some 0))), some (.inl w), none, none, none, none, none, none]) (st' := [.inl 1, .inl w]) rfl ?_
      refine n_ic_le (pc0 := 13) (len := 3) (t := 19) rfl (by first | assumption | omega | (unfold R32 at *; omega) | (unfold R64 at *; omega) | (simp only [R32, R64] at *; omega)) (by first | assumption | omega | (unfold R32 at *; omega) | (unfold R64 at *; omega) | (simp only [R32, R64] at *; omega)) (fun h_13 => ?_) (fun h_13 => ?_)
      · show WV _ _ _ 19 _ _ _ _ _
        rw [if_neg h_13] at hQ
        refine r_ex 1 (pc' := 20) (lo' := [some (.inr (.inr (some 0))), some (.inl w), none, none, none, none, none, none]) (st' := [.inr (.inr (some 0))]) rfl ?_
        refine r_call (m := 72) (args := [.inr (.inr (some 0))]) (n' := 149) (pc' := 23) (lo' := [some (.inr (.inr (some 0))), some (.inl w), none, none, none, none, none, none]) (st' := []) (I := .invokevirtual 72) (pc0 := 20) (len := 3) rfl rfl rfl (e_cl_asItIs hX) ?_
        show WV _ _ _ 23 _ [.inr (.inr (some 79))] _ (cl_asItIs v) _
        have hX_2 : XI (cl_asItIs v) := i_cl_asItIs (v := v) hX
        refine r_ex 9 (pc' := 35) (lo' := [some (.inr (.inr (some 0))), some (.inl w), some (.inr (.inr (some 79))), some (.inl 0), some (.inl (-1)), some (.inl 0), some (.inl 0), none]) (st' := []) rfl ?_
        refine l_cl_silence_35 302 (cl_asItIs v) w 0 (-1) 0 0 _ hX_2 (by first | assumption | omega | (unfold R32 at *; omega) | (unfold R64 at *; omega) | (simp only [R32, R64] at *; omega)) (by first | assumption | omega | (unfold R32 at *; omega) | (unfold R64 at *; omega) | (simp only [R32, R64] at *; omega)) (by first | assumption | omega | (unfold R32 at *; omega) | (unfold R64 at *; omega) | (simp only [R32, R64] at *; omega)) (by first | assumption | omega | (unfold R32 at *; omega) | (unfold R64 at *; omega) | (simp only [R32, R64] at *; omega)) (by first | assumption | omega | (unfold R32 at *; omega) | (unfold R64 at *; omega) | (simp only [R32, R64] at *; omega)) (by first | assumption | omega | (unfold R32 at *; omega) | (unfold R64 at *; omega) | (simp only [R32, R64] at *; omega)) (fun o0_6 o2_6 o5_6 o6_6 o7_6  hv_6_0 hv_6_1 => ?_)
        show WV _ _ _ 103 _ _ _ _ _
        refine r_ex 1 (pc' := 104) (lo' := [o0_6, some (.inl w), o2_6, some (.inl ((cl_silence_35 302 (cl_asItIs v) w 0 (-1) 0 0).1)), some (.inl ((cl_silence_35 302 (cl_asItIs v) w 0 (-1) 0 0).2)), o5_6, o6_6, o7_6]) (st' := [.inl w]) rfl ?_
        refine n_if_ne (pc0 := 104) (len := 3) (t := 111) rfl (by first | assumption | omega | (unfold R32 at *; omega) | (unfold R64 at *; omega) | (simp only [R32, R64] at *; omega)) (fun h_104 => ?_) (fun h_104 => ?_)
        · show WV _ _ _ 111 _ _ _ _ _
          rw [if_neg h_104] at hQ
          refine r_ex 1 (pc' := 113) (lo' := [o0_6, some (.inl w), o2_6, some (.inl ((cl_silence_35 302 (cl_asItIs v) w 0 (-1) 0 0).1)), some (.inl ((cl_silence_35 302 (cl_asItIs v) w 0 (-1) 0 0).2)), o5_6, o6_6, o7_6]) (st' := [.inl ((cl_silence_35 302 (cl_asItIs v) w 0 (-1) 0 0).2)]) rfl ?_
          refine r_ret (rr := some (.inl ((cl_silence_35 302 (cl_asItIs v) w 0 (-1) 0 0).2))) (I := .ireturn) (pc0 := 113) (len := 1) rfl rfl ?_
          exact hQ hX_2 
        · show WV _ _ _ 107 _ _ _ _ _
          rw [if_pos h_104] at hQ
          refine r_ex 2 (pc' := 113) (lo' := [o0_6, some (.inl w), o2_6, some (.inl ((cl_silence_35 302 (cl_asItIs v) w 0 (-1) 0 0).1)), some (.inl ((cl_silence_35 302 (cl_asItIs v) w 0 (-1) 0 0).2)), o5_6, o6_6, o7_6]) (st' := [.inl ((cl_silence_35 302 (cl_asItIs v) w 0 (-1) 0 0).1)]) rfl ?_
          refine r_ret (rr := some (.inl ((cl_silence_35 302 (cl_asItIs v) w 0 (-1) 0 0).1))) (I := .ireturn) (pc0 := 113) (len := 1) rfl rfl ?_
          exact hQ hX_2 
      · show WV _ _ _ 16 _ _ _ _ _
        rw [if_pos h_13] at hQ
        refine r_ex 1 (pc' := 18) (lo' := [some (.inr (.inr (some 0))), some (.inl w), none, none, none, none, none, none]) (st' := [.inl (-2)]) rfl ?_
        refine r_ret (rr := some (.inl (-2))) (I := .ireturn) (pc0 := 18) (len := 1) rfl rfl ?_
        exact hQ hX 
  · show WV _ _ _ 4 _ _ _ _ _
    rw [if_neg h_1] at hQ
    refine r_ex 2 (pc' := 18) (lo' := [some (.inr (.inr (some 0))), some (.inl w), none, none, none, none, none, none]) (st' := [.inl (-2)]) rfl ?_
    refine r_ret (rr := some (.inl (-2))) (I := .ireturn) (pc0 := 18) (len := 1) rfl rfl ?_
    exact hQ hX 

theorem e_cl_silence {X : PX} {d b : Nat} {v : VS} {w : Int} (hX : XI v) (hp_a : R32 w) : EvV X (d + 1 + 1 + 1 + 1 + 1 + 1 + 1) 149 [.inr (.inr (some 0)), .inl w] b v (some (.inl (cl_silence v w).1)) b ((cl_silence v w).2) := EvV.of (w_cl_silence hX hp_a (fun _ => ⟨rfl, rfl, rfl⟩))

theorem i_cl_silence {v : VS} {w : Int} (hX : XI v) (hp_a : R32 w) : XI ((cl_silence v w).2) := by
  have q : WV (0, fun _ => 0, none) (0 + 1 + 1 + 1 + 1 + 1 + 1 + 1) 149 0 [some (.inr (.inr (some 0))), some (.inl w), none, none, none, none, none, none] [] 1 v (fun _ _ _ => XI ((cl_silence v w).2)) := w_cl_silence (X := (0, fun _ => 0, none)) (d := 0) (b := 1) hX hp_a (fun q => q)
  obtain ⟨_, _, _, _, _, _, _, q⟩ := q
  exact q

theorem o_cl_silence {rk : Nat} {v : VS} {w : Int} (hk : (rk < 0 ∨ 0 < rk) ∧ (rk < 67 ∨ 90 < rk) ∧ (rk < 105 ∨ 105 < rk)) : (cl_silence v w).2 rk = v rk := by
  unfold cl_silence
  by_cases hc_ : 0 < v 33 2
  · rw [if_pos hc_]
    by_cases hc_ : w < 0
    · rw [if_pos hc_]
      all_goals (show v rk = _)
      all_goals rfl
    · rw [if_neg hc_]
      by_cases hc_ : 1 < w
      · rw [if_pos hc_]
        all_goals (show v rk = _)
        all_goals rfl
      · rw [if_neg hc_]
        by_cases hc_ : w = 0
        · rw [if_pos hc_]
          all_goals (show (cl_asItIs v) rk = _)
          all_goals (rw [o_cl_asItIs (by omega)])
        · rw [if_neg hc_]
          all_goals (show (cl_asItIs v) rk = _)
          all_goals (rw [o_cl_asItIs (by omega)])
  · rw [if_neg hc_]
    all_goals (show v rk = _)
    all_goals rfl

def cl_spread (v : VS) (h : Int) : Int × VS :=
  (if 0 < v 33 2 then (if 1 ≤ h ∧ h ≤ 99 then (if (cl_earliestOf79 (cl_asItIs v) h) = (-1) then ((-1), (cl_asItIs v)) else (if (cl_latestOf79 (cl_asItIs v) h) = (-1) then ((-1), (cl_asItIs v)) else ((((cl_asItIs v) 80 (((cl_latestOf79 (cl_asItIs v) h)).toNat)) - ((cl_asItIs v) 80 (((cl_earliestOf79 (cl_asItIs v) h)).toNat))), (cl_asItIs v)))) else ((-2), v)) else ((-2), v))
theorem w_cl_spread {X : PX} {d b : Nat} {v : VS} {h : Int} (hX : XI v) (hp_a : R32 h) {Q : Option PV → Nat → VS → Prop} (hQ : XI (cl_spread v h).2 → Q (some (.inl (cl_spread v h).1)) b (cl_spread v h).2) : WV X (d + 1 + 1 + 1 + 1 + 1 + 1 + 1) 150 0 [some (.inr (.inr (some 0))), some (.inl h), none, none, none] [] b v Q := by
  rw [cl_spread] at hQ
  refine r_ex 1 (pc' := 1) (lo' := [some (.inr (.inr (some 0))), some (.inl h), none, none, none]) (st' := [.inr (.inr (some 0))]) rfl ?_
  have hb_1 : 0 ≤ v 33 2 ∧ v 33 2 ≤ 2001 := hX 33 2
  refine r_callb (P := 0 < v 33 2) (m := 71) (args := [.inr (.inr (some 0))]) (n' := 150) (pc' := 4) (lo' := [some (.inr (.inr (some 0))), some (.inl h), none, none, none]) (st' := []) (I := .invokevirtual 71) (pc0 := 1) (len := 3) rfl rfl rfl (e_cl_hasBay hX) (fun h_1 => ?_) (fun h_1 => ?_)
  · show WV _ _ _ 4 _ _ _ _ _
    rw [if_pos h_1] at hQ
    refine r_ex 2 (pc' := 8) (lo' := [some (.inr (.inr (some 0))), some (.inl h), none, none, none]) (st' := [.inl h]) rfl ?_
    have hp_2 : R32 h := (by first | assumption | omega | (unfold R32 at *; omega) | (unfold R64 at *; omega) | (simp only [R32, R64] at *; omega))
    refine r_callb (P := 1 ≤ h ∧ h ≤ 99) (m := 98) (args := [.inl h]) (n' := 150) (pc' := 11) (lo' := [some (.inr (.inr (some 0))), some (.inl h), none, none, none]) (st' := []) (I := .invokestatic 98) (pc0 := 8) (len := 3) rfl rfl rfl (e_cl_isHour hX hp_2) (fun h_8 => ?_) (fun h_8 => ?_)
    · show WV _ _ _ 11 _ _ _ _ _
      rw [if_pos h_8] at hQ
      refine r_ex 2 (pc' := 18) (lo' := [some (.inr (.inr (some 0))), some (.inl h), none, none, none]) (st' := [.inr (.inr (some 0))]) rfl ?_
      refine r_call (m := 72) (args := [.inr (.inr (some 0))]) (n' := 150) (pc' := 21) (lo' := [some (.inr (.inr (some 0))), some (.inl h), none, none, none]) (st' := []) (I := .invokevirtual 72) (pc0 := 18) (len := 3) rfl rfl rfl (e_cl_asItIs hX) ?_
      show WV _ _ _ 21 _ [.inr (.inr (some 79))] _ (cl_asItIs v) _
      have hX_3 : XI (cl_asItIs v) := i_cl_asItIs (v := v) hX
      refine r_ex 3 (pc' := 24) (lo' := [some (.inr (.inr (some 0))), some (.inl h), some (.inr (.inr (some 79))), none, none]) (st' := [.inl h, .inr (.inr (some 79))]) rfl ?_
      have hp_4 : R32 h := (by first | assumption | omega | (unfold R32 at *; omega) | (unfold R64 at *; omega) | (simp only [R32, R64] at *; omega))
      refine r_call (m := 101) (args := [.inr (.inr (some 79)), .inl h]) (n' := 150) (pc' := 27) (lo' := [some (.inr (.inr (some 0))), some (.inl h), some (.inr (.inr (some 79))), none, none]) (st' := []) (I := .invokevirtual 101) (pc0 := 24) (len := 3) rfl rfl rfl (e_cl_earliestOf79 hX_3 hp_4) ?_
      show WV _ _ _ 27 _ [.inl (cl_earliestOf79 (cl_asItIs v) h)] _ _ _
      have hb_5 := n_cl_earliestOf79 (v := (cl_asItIs v)) (h := h) hX_3 hp_4
      refine r_ex 3 (pc' := 30) (lo' := [some (.inr (.inr (some 0))), some (.inl h), some (.inr (.inr (some 79))), some (.inl (cl_earliestOf79 (cl_asItIs v) h)), none]) (st' := [.inl h, .inr (.inr (some 79))]) rfl ?_
      have hp_6 : R32 h := (by first | assumption | omega | (unfold R32 at *; omega) | (unfold R64 at *; omega) | (simp only [R32, R64] at *; omega))
      refine r_call (m := 100) (args := [.inr (.inr (some 79)), .inl h]) (n' := 150) (pc' := 33) (lo' := [some (.inr (.inr (some 0))), some (.inl h), some (.inr (.inr (some 79))), some (.inl (cl_earliestOf79 (cl_asItIs v) h)), none]) (st' := []) (I := .invokevirtual 100) (pc0 := 30) (len := 3) rfl rfl rfl (e_cl_latestOf79 hX_3 hp_6) ?_
      show WV _ _ _ 33 _ [.inl (cl_latestOf79 (cl_asItIs v) h)] _ _ _
      have hb_7 := n_cl_latestOf79 (v := (cl_asItIs v)) (h := h) hX_3 hp_6
      refine r_ex 3 (pc' := 37) (lo' := [some (.inr (.inr (some 0))), some (.inl h), some (.inr (.inr (some 79))), some (.inl (cl_earliestOf79 (cl_asItIs v) h)), some (.inl (cl_latestOf79 (cl_asItIs v) h))]) (st' := [.inl (-1), .inl (cl_earliestOf79 (cl_asItIs v) h)]) rfl ?_
      refine n_ic_eq (pc0 := 37) (len := 3) (t := 46) rfl (by first | assumption | omega | (unfold R32 at *; omega) | (unfold R64 at *; omega) | (simp only [R32, R64] at *; omega)) (by first | assumption | omega | (unfold R32 at *; omega) | (unfold R64 at *; omega) | (simp only [R32, R64] at *; omega)) (fun h_37 => ?_) (fun h_37 => ?_)
      · show WV _ _ _ 46 _ _ _ _ _
        rw [if_pos h_37] at hQ
        refine r_ex 2 (pc' := 64) (lo' := [some (.inr (.inr (some 0))), some (.inl h), some (.inr (.inr (some 79))), some (.inl (cl_earliestOf79 (cl_asItIs v) h)), some (.inl (cl_latestOf79 (cl_asItIs v) h))]) (st' := [.inl (-1)]) rfl ?_
        refine r_ret (rr := some (.inl (-1))) (I := .ireturn) (pc0 := 64) (len := 1) rfl rfl ?_
        exact hQ hX_3 
      · show WV _ _ _ 40 _ _ _ _ _
        rw [if_neg h_37] at hQ
        refine r_ex 2 (pc' := 43) (lo' := [some (.inr (.inr (some 0))), some (.inl h), some (.inr (.inr (some 79))), some (.inl (cl_earliestOf79 (cl_asItIs v) h)), some (.inl (cl_latestOf79 (cl_asItIs v) h))]) (st' := [.inl (-1), .inl (cl_latestOf79 (cl_asItIs v) h)]) rfl ?_
        refine n_ic_ne (pc0 := 43) (len := 3) (t := 50) rfl (by first | assumption | omega | (unfold R32 at *; omega) | (unfold R64 at *; omega) | (simp only [R32, R64] at *; omega)) (by first | assumption | omega | (unfold R32 at *; omega) | (unfold R64 at *; omega) | (simp only [R32, R64] at *; omega)) (fun h_43 => ?_) (fun h_43 => ?_)
        · show WV _ _ _ 50 _ _ _ _ _
          rw [if_neg h_43] at hQ
          refine r_ex 3 (pc' := 56) (lo' := [some (.inr (.inr (some 0))), some (.inl h), some (.inr (.inr (some 79))), some (.inl (cl_earliestOf79 (cl_asItIs v) h)), some (.inl (cl_latestOf79 (cl_asItIs v) h))]) (st' := [.inl (cl_latestOf79 (cl_asItIs v) h), .inr (.inr (some 80))]) rfl ?_
          refine r_iald2 (j := 0) (x := ((cl_asItIs v) 80 (((cl_latestOf79 (cl_asItIs v) h)).toNat))) (pc' := 57) (pc0 := 56) (len := 1) rfl (s_80 _) (by first | assumption | omega | (unfold R32 at *; omega) | (unfold R64 at *; omega) | (simp only [R32, R64] at *; omega)) (by decide) rfl rfl ?_
          have hb_8 : 0 ≤ ((cl_asItIs v) 80 (((cl_latestOf79 (cl_asItIs v) h)).toNat)) ∧ ((cl_asItIs v) 80 (((cl_latestOf79 (cl_asItIs v) h)).toNat)) ≤ 299 := hX_3 80 (((cl_latestOf79 (cl_asItIs v) h)).toNat)
          refine r_ex 3 (pc' := 62) (lo' := [some (.inr (.inr (some 0))), some (.inl h), some (.inr (.inr (some 79))), some (.inl (cl_earliestOf79 (cl_asItIs v) h)), some (.inl (cl_latestOf79 (cl_asItIs v) h))]) (st' := [.inl (cl_earliestOf79 (cl_asItIs v) h), .inr (.inr (some 80)), .inl ((cl_asItIs v) 80 (((cl_latestOf79 (cl_asItIs v) h)).toNat))]) rfl ?_
          refine r_iald2 (j := 0) (x := ((cl_asItIs v) 80 (((cl_earliestOf79 (cl_asItIs v) h)).toNat))) (pc' := 63) (pc0 := 62) (len := 1) rfl (s_80 _) (by first | assumption | omega | (unfold R32 at *; omega) | (unfold R64 at *; omega) | (simp only [R32, R64] at *; omega)) (by decide) rfl rfl ?_
          have hb_9 : 0 ≤ ((cl_asItIs v) 80 (((cl_earliestOf79 (cl_asItIs v) h)).toNat)) ∧ ((cl_asItIs v) 80 (((cl_earliestOf79 (cl_asItIs v) h)).toNat)) ≤ 299 := hX_3 80 (((cl_earliestOf79 (cl_asItIs v) h)).toNat)
          refine r_ex 1 (pc' := 64) (lo' := [some (.inr (.inr (some 0))), some (.inl h), some (.inr (.inr (some 79))), some (.inl (cl_earliestOf79 (cl_asItIs v) h)), some (.inl (cl_latestOf79 (cl_asItIs v) h))]) (st' := [.inl (((cl_asItIs v) 80 (((cl_latestOf79 (cl_asItIs v) h)).toNat)) - ((cl_asItIs v) 80 (((cl_earliestOf79 (cl_asItIs v) h)).toNat)))]) rfl ?_
          refine r_ret (rr := some (.inl (((cl_asItIs v) 80 (((cl_latestOf79 (cl_asItIs v) h)).toNat)) - ((cl_asItIs v) 80 (((cl_earliestOf79 (cl_asItIs v) h)).toNat))))) (I := .ireturn) (pc0 := 64) (len := 1) rfl rfl ?_
          exact hQ hX_3 
        · show WV _ _ _ 46 _ _ _ _ _
          rw [if_pos h_43] at hQ
          refine r_ex 2 (pc' := 64) (lo' := [some (.inr (.inr (some 0))), some (.inl h), some (.inr (.inr (some 79))), some (.inl (cl_earliestOf79 (cl_asItIs v) h)), some (.inl (cl_latestOf79 (cl_asItIs v) h))]) (st' := [.inl (-1)]) rfl ?_
          refine r_ret (rr := some (.inl (-1))) (I := .ireturn) (pc0 := 64) (len := 1) rfl rfl ?_
          exact hQ hX_3 
    · show WV _ _ _ 11 _ _ _ _ _
      rw [if_neg h_8] at hQ
      refine r_ex 2 (pc' := 16) (lo' := [some (.inr (.inr (some 0))), some (.inl h), none, none, none]) (st' := [.inl (-2)]) rfl ?_
      refine r_ret (rr := some (.inl (-2))) (I := .ireturn) (pc0 := 16) (len := 1) rfl rfl ?_
      exact hQ hX 
  · show WV _ _ _ 4 _ _ _ _ _
    rw [if_neg h_1] at hQ
    refine r_ex 2 (pc' := 16) (lo' := [some (.inr (.inr (some 0))), some (.inl h), none, none, none]) (st' := [.inl (-2)]) rfl ?_
    refine r_ret (rr := some (.inl (-2))) (I := .ireturn) (pc0 := 16) (len := 1) rfl rfl ?_
    exact hQ hX 

theorem e_cl_spread {X : PX} {d b : Nat} {v : VS} {h : Int} (hX : XI v) (hp_a : R32 h) : EvV X (d + 1 + 1 + 1 + 1 + 1 + 1 + 1) 150 [.inr (.inr (some 0)), .inl h] b v (some (.inl (cl_spread v h).1)) b ((cl_spread v h).2) := EvV.of (w_cl_spread hX hp_a (fun _ => ⟨rfl, rfl, rfl⟩))

theorem i_cl_spread {v : VS} {h : Int} (hX : XI v) (hp_a : R32 h) : XI ((cl_spread v h).2) := by
  have q : WV (0, fun _ => 0, none) (0 + 1 + 1 + 1 + 1 + 1 + 1 + 1) 150 0 [some (.inr (.inr (some 0))), some (.inl h), none, none, none] [] 1 v (fun _ _ _ => XI ((cl_spread v h).2)) := w_cl_spread (X := (0, fun _ => 0, none)) (d := 0) (b := 1) hX hp_a (fun q => q)
  obtain ⟨_, _, _, _, _, _, _, q⟩ := q
  exact q

theorem o_cl_spread {rk : Nat} {v : VS} {h : Int} (hk : (rk < 0 ∨ 0 < rk) ∧ (rk < 67 ∨ 90 < rk) ∧ (rk < 105 ∨ 105 < rk)) : (cl_spread v h).2 rk = v rk := by
  unfold cl_spread
  by_cases hc_ : 0 < v 33 2
  · rw [if_pos hc_]
    by_cases hc_ : 1 ≤ h ∧ h ≤ 99
    · rw [if_pos hc_]
      by_cases hc_ : (cl_earliestOf79 (cl_asItIs v) h) = (-1)
      · rw [if_pos hc_]
        all_goals (show (cl_asItIs v) rk = _)
        all_goals (rw [o_cl_asItIs (by omega)])
      · rw [if_neg hc_]
        by_cases hc_ : (cl_latestOf79 (cl_asItIs v) h) = (-1)
        · rw [if_pos hc_]
          all_goals (show (cl_asItIs v) rk = _)
          all_goals (rw [o_cl_asItIs (by omega)])
        · rw [if_neg hc_]
          all_goals (show (cl_asItIs v) rk = _)
          all_goals (rw [o_cl_asItIs (by omega)])
    · rw [if_neg hc_]
      all_goals (show v rk = _)
      all_goals rfl
  · rw [if_neg hc_]
    all_goals (show v rk = _)
    all_goals rfl

def cl_behind_36 : Nat → VS → Int → Int → Int → Int → Int → Int → Int × Int
  | 0, v, c, o, w, a, n, h => (0, 0)
  | f + 1, v, c, o, w, a, n, h => (if 99 < h then (a, n) else (if (cl_earliestBy79 v c h) = (-1) then (cl_behind_36 f v c o w a n (h + 1)) else (if (cl_earliestBy79 v o h) = (-1) then (cl_behind_36 f v c o w a n (h + 1)) else (cl_behind_36 f v c o w (a + ((v 80 (((cl_earliestBy79 v c h)).toNat)) - (v 80 (((cl_earliestBy79 v o h)).toNat)))) (n + 1) (h + 1)))))
def cl_behind (v : VS) (c : Int) (o : Int) (w : Int) : Int × VS :=
  (if (0 ≤ c ∧ c < v 33 0) ∧ (0 ≤ o ∧ o < v 33 0) ∧ c ≠ o then (if w < 0 then ((-2000000), v) else (if 1 < w then ((-2000000), v) else (if w = 0 then ((cl_behind_36 101 (cl_asItIs v) c o w 0 0 1).1, (cl_asItIs v)) else ((cl_behind_36 101 (cl_asItIs v) c o w 0 0 1).2, (cl_asItIs v))))) else ((-2000000), v))
theorem l_cl_behind_36 {X : PX} {d b : Nat} {Q : Option PV → Nat → VS → Prop}  : ∀ (f : Nat) (v : VS) (c : Int) (o : Int) (w : Int) (a : Int) (n : Int) (h : Int) (o0 : Option PV) (o8 : Option PV) (o9 : Option PV), XI v → (1 ≤ h ∧ h ≤ 100) → (R32 c) → (R32 o) → (-300 * h ≤ a ∧ a ≤ 300 * h) → (0 ≤ n ∧ n ≤ h) → (R32 w) → (100 < h + f) → (∀ qx0 : Option PV, ∀ qx1 : Option PV, ∀ qx2 : Option PV, ∀ qx4 : Option PV, ∀ qx7 : Option PV, ∀ qx8 : Option PV, ∀ qx9 : Option PV, (R32 (cl_behind_36 f v c o w a n h).1) → (0 ≤ (cl_behind_36 f v c o w a n h).2 ∧ (cl_behind_36 f v c o w a n h).2 ≤ 100) → WV X (d + 1 + 1 + 1 + 1 + 1 + 1 + 1) 155 106 [qx0, qx1, qx2, some (.inl w), qx4, some (.inl ((cl_behind_36 f v c o w a n h).1)), some (.inl ((cl_behind_36 f v c o w a n h).2)), qx7, qx8, qx9] [] b v Q) → WV X (d + 1 + 1 + 1 + 1 + 1 + 1 + 1) 155 36 [o0, some (.inl c), some (.inl o), some (.inl w), some (.inr (.inr (some 79))), some (.inl a), some (.inl n), some (.inl h), o8, o9] [] b v Q := by
  intro f
  induction f with
  | zero =>
    intro v c o w a n h o0 o8 o9 hX hi_0 hi_1 hi_2 hi_3 hi_4 hi_5 hf hK
    exfalso
    omega
  | succ f ih =>
    intro v c o w a n h o0 o8 o9 hX hi_0 hi_1 hi_2 hi_3 hi_4 hi_5 hf hK
    rw [cl_behind_36] at hK
    refine r_ex 2 (pc' := 40) (lo' := [o0, some (.inl c), some (.inl o), some (.inl w), some (.inr (.inr (some 79))), some (.inl a), some (.inl n), some (.inl h), o8, o9]) (st' := [.inl 99, .inl h]) rfl ?_
    refine n_ic_gt (pc0 := 40) (len := 3) (t := 106) rfl (by first | assumption | omega | (unfold R32 at *; omega) | (unfold R64 at *; omega) | (simp only [R32, R64] at *; omega)) (by first | assumption | omega | (unfold R32 at *; omega) | (unfold R64 at *; omega) | (simp only [R32, R64] at *; omega)) (fun h_40 => ?_) (fun h_40 => ?_)
    · show WV _ _ _ 106 _ _ _ _ _
      rw [if_pos h_40] at hK
      exact hK _ _ _ _ _ _ _  (by first | assumption | omega | (unfold R32 at *; omega) | (unfold R64 at *; omega) | (simp only [R32, R64] at *; omega)) (by first | assumption | omega | (unfold R32 at *; omega) | (unfold R64 at *; omega) | (simp only [R32, R64] at *; omega))
    · show WV _ _ _ 43 _ _ _ _ _
      rw [if_neg h_40] at hK
      refine r_ex 3 (pc' := 48) (lo' := [o0, some (.inl c), some (.inl o), some (.inl w), some (.inr (.inr (some 79))), some (.inl a), some (.inl n), some (.inl h), o8, o9]) (st' := [.inl h, .inl c, .inr (.inr (some 79))]) rfl ?_
      have hp_5 : R32 c := (by first | assumption | omega | (unfold R32 at *; omega) | (unfold R64 at *; omega) | (simp only [R32, R64] at *; omega))
      have hp_6 : R32 h := (by first | assumption | omega | (unfold R32 at *; omega) | (unfold R64 at *; omega) | (simp only [R32, R64] at *; omega))
      refine r_call (m := 156) (args := [.inr (.inr (some 79)), .inl c, .inl h]) (n' := 155) (pc' := 51) (lo' := [o0, some (.inl c), some (.inl o), some (.inl w), some (.inr (.inr (some 79))), some (.inl a), some (.inl n), some (.inl h), o8, o9]) (st' := []) (I := .invokevirtual 156) (pc0 := 48) (len := 3) rfl rfl rfl (e_cl_earliestBy79 hX hp_5 hp_6) ?_
      show WV _ _ _ 51 _ [.inl (cl_earliestBy79 v c h)] _ _ _
      have hb_7 := n_cl_earliestBy79 (v := v) (c := c) (h := h) hX hp_5 hp_6
      refine r_ex 4 (pc' := 58) (lo' := [o0, some (.inl c), some (.inl o), some (.inl w), some (.inr (.inr (some 79))), some (.inl a), some (.inl n), some (.inl h), some (.inl (cl_earliestBy79 v c h)), o9]) (st' := [.inl h, .inl o, .inr (.inr (some 79))]) rfl ?_
      have hp_8 : R32 o := (by first | assumption | omega | (unfold R32 at *; omega) | (unfold R64 at *; omega) | (simp only [R32, R64] at *; omega))
      have hp_9 : R32 h := (by first | assumption | omega | (unfold R32 at *; omega) | (unfold R64 at *; omega) | (simp only [R32, R64] at *; omega))
      refine r_call (m := 156) (args := [.inr (.inr (some 79)), .inl o, .inl h]) (n' := 155) (pc' := 61) (lo' := [o0, some (.inl c), some (.inl o), some (.inl w), some (.inr (.inr (some 79))), some (.inl a), some (.inl n), some (.inl h), some (.inl (cl_earliestBy79 v c h)), o9]) (st' := []) (I := .invokevirtual 156) (pc0 := 58) (len := 3) rfl rfl rfl (e_cl_earliestBy79 hX hp_8 hp_9) ?_
      show WV _ _ _ 61 _ [.inl (cl_earliestBy79 v o h)] _ _ _
      have hb_10 := n_cl_earliestBy79 (v := v) (c := o) (h := h) hX hp_8 hp_9
      refine r_ex 3 (pc' := 66) (lo' := [o0, some (.inl c), some (.inl o), some (.inl w), some (.inr (.inr (some 79))), some (.inl a), some (.inl n), some (.inl h), some (.inl (cl_earliestBy79 v c h)), some (.inl (cl_earliestBy79 v o h))]) (st' := [.inl (-1), .inl (cl_earliestBy79 v c h)]) rfl ?_
      refine n_ic_eq (pc0 := 66) (len := 3) (t := 100) rfl (by first | assumption | omega | (unfold R32 at *; omega) | (unfold R64 at *; omega) | (simp only [R32, R64] at *; omega)) (by first | assumption | omega | (unfold R32 at *; omega) | (unfold R64 at *; omega) | (simp only [R32, R64] at *; omega)) (fun h_66 => ?_) (fun h_66 => ?_)
      · show WV _ _ _ 100 _ _ _ _ _
        rw [if_pos h_66] at hK
        refine r_ex 2 (pc' := 36) (lo' := [o0, some (.inl c), some (.inl o), some (.inl w), some (.inr (.inr (some 79))), some (.inl a), some (.inl n), some (.inl (h + 1)), some (.inl (cl_earliestBy79 v c h)), some (.inl (cl_earliestBy79 v o h))]) (st' := []) rfl ?_
        refine ih v c o w a n (h + 1) _ _ _ hX (by first | assumption | omega | (unfold R32 at *; omega) | (unfold R64 at *; omega) | (simp only [R32, R64] at *; omega)) (by first | assumption | omega | (unfold R32 at *; omega) | (unfold R64 at *; omega) | (simp only [R32, R64] at *; omega)) (by first | assumption | omega | (unfold R32 at *; omega) | (unfold R64 at *; omega) | (simp only [R32, R64] at *; omega)) (by first | assumption | omega | (unfold R32 at *; omega) | (unfold R64 at *; omega) | (simp only [R32, R64] at *; omega)) (by first | assumption | omega | (unfold R32 at *; omega) | (unfold R64 at *; omega) | (simp only [R32, R64] at *; omega)) (by first | assumption | omega | (unfold R32 at *; omega) | (unfold R64 at *; omega) | (simp only [R32, R64] at *; omega)) (by first | assumption | omega | (unfold R32 at *; omega) | (unfold R64 at *; omega) | (simp only [R32, R64] at *; omega)) hK
      · show WV _ _ _ 69 _ _ _ _ _
        rw [if_neg h_66] at hK
        refine r_ex 2 (pc' := 72) (lo' := [o0, some (.inl c), some (.inl o), some (.inl w), some (.inr (.inr (some 79))), some (.inl a), some (.inl n), some (.inl h), some (.inl (cl_earliestBy79 v c h)), some (.inl (cl_earliestBy79 v o h))]) (st' := [.inl (-1), .inl (cl_earliestBy79 v o h)]) rfl ?_
        refine n_ic_eq (pc0 := 72) (len := 3) (t := 100) rfl (by first | assumption | omega | (unfold R32 at *; omega) | (unfold R64 at *; omega) | (simp only [R32, R64] at *; omega)) (by first | assumption | omega | (unfold R32 at *; omega) | (unfold R64 at *; omega) | (simp only [R32, R64] at *; omega)) (fun h_72 => ?_) (fun h_72 => ?_)
        · show WV _ _ _ 100 _ _ _ _ _
          rw [if_pos h_72] at hK
          refine r_ex 2 (pc' := 36) (lo' := [o0, some (.inl c), some (.inl o), some (.inl w), some (.inr (.inr (some 79))), some (.inl a), some (.inl n), some (.inl (h + 1)), some (.inl (cl_earliestBy79 v c h)), some (.inl (cl_earliestBy79 v o h))]) (st' := []) rfl ?_
          refine ih v c o w a n (h + 1) _ _ _ hX (by first | assumption | omega | (unfold R32 at *; omega) | (unfold R64 at *; omega) | (simp only [R32, R64] at *; omega)) (by first | assumption | omega | (unfold R32 at *; omega) | (unfold R64 at *; omega) | (simp only [R32, R64] at *; omega)) (by first | assumption | omega | (unfold R32 at *; omega) | (unfold R64 at *; omega) | (simp only [R32, R64] at *; omega)) (by first | assumption | omega | (unfold R32 at *; omega) | (unfold R64 at *; omega) | (simp only [R32, R64] at *; omega)) (by first | assumption | omega | (unfold R32 at *; omega) | (unfold R64 at *; omega) | (simp only [R32, R64] at *; omega)) (by first | assumption | omega | (unfold R32 at *; omega) | (unfold R64 at *; omega) | (simp only [R32, R64] at *; omega)) (by first | assumption | omega | (unfold R32 at *; omega) | (unfold R64 at *; omega) | (simp only [R32, R64] at *; omega)) hK
        · show WV _ _ _ 75 _ _ _ _ _
          rw [if_neg h_72] at hK
          refine r_ex 4 (pc' := 84) (lo' := [o0, some (.inl c), some (.inl o), some (.inl w), some (.inr (.inr (some 79))), some (.inl a), some (.inl n), some (.inl h), some (.inl (cl_earliestBy79 v c h)), some (.inl (cl_earliestBy79 v o h))]) (st' := [.inl (cl_earliestBy79 v c h), .inr (.inr (some 80)), .inl a]) rfl ?_
          refine r_iald2 (j := 0) (x := (v 80 (((cl_earliestBy79 v c h)).toNat))) (pc' := 85) (pc0 := 84) (len := 1) rfl (s_80 _) (by first | assumption | omega | (unfold R32 at *; omega) | (unfold R64 at *; omega) | (simp only [R32, R64] at *; omega)) (by decide) rfl rfl ?_
          have hb_11 : 0 ≤ (v 80 (((cl_earliestBy79 v c h)).toNat)) ∧ (v 80 (((cl_earliestBy79 v c h)).toNat)) ≤ 299 := hX 80 (((cl_earliestBy79 v c h)).toNat)
          refine r_ex 3 (pc' := 92) (lo' := [o0, some (.inl c), some (.inl o), some (.inl w), some (.inr (.inr (some 79))), some (.inl a), some (.inl n), some (.inl h), some (.inl (cl_earliestBy79 v c h)), some (.inl (cl_earliestBy79 v o h))]) (st' := [.inl (cl_earliestBy79 v o h), .inr (.inr (some 80)), .inl (v 80 (((cl_earliestBy79 v c h)).toNat)), .inl a]) rfl ?_
          refine r_iald2 (j := 0) (x := (v 80 (((cl_earliestBy79 v o h)).toNat))) (pc' := 93) (pc0 := 92) (len := 1) rfl (s_80 _) (by first | assumption | omega | (unfold R32 at *; omega) | (unfold R64 at *; omega) | (simp only [R32, R64] at *; omega)) (by decide) rfl rfl ?_
          have hb_12 : 0 ≤ (v 80 (((cl_earliestBy79 v o h)).toNat)) ∧ (v 80 (((cl_earliestBy79 v o h)).toNat)) ≤ 299 := hX 80 (((cl_earliestBy79 v o h)).toNat)
          refine r_ex 6 (pc' := 36) (lo' := [o0, some (.inl c), some (.inl o), some (.inl w), some (.inr (.inr (some 79))), some (.inl (a + ((v 80 (((cl_earliestBy79 v c h)).toNat)) - (v 80 (((cl_earliestBy79 v o h)).toNat))))), some (.inl (n + 1)), some (.inl (h + 1)), some (.inl (cl_earliestBy79 v c h)), some (.inl (cl_earliestBy79 v o h))]) (st' := []) rfl ?_
          refine ih v c o w (a + ((v 80 (((cl_earliestBy79 v c h)).toNat)) - (v 80 (((cl_earliestBy79 v o h)).toNat)))) (n + 1) (h + 1) _ _ _ hX (by first | assumption | omega | (unfold R32 at *; omega) | (unfold R64 at *; omega) | (simp only [R32, R64] at *; omega)) (by first | assumption | omega | (unfold R32 at *; omega) | (unfold R64 at *; omega) | (simp only [R32, R64] at *; omega)) (by first | assumption | omega | (unfold R32 at *; omega) | (unfold R64 at *; omega) | (simp only [R32, R64] at *; omega)) (by first | assumption | omega | (unfold R32 at *; omega) | (unfold R64 at *; omega) | (simp only [R32, R64] at *; omega)) (by first | assumption | omega | (unfold R32 at *; omega) | (unfold R64 at *; omega) | (simp only [R32, R64] at *; omega)) (by first | assumption | omega | (unfold R32 at *; omega) | (unfold R64 at *; omega) | (simp only [R32, R64] at *; omega)) (by first | assumption | omega | (unfold R32 at *; omega) | (unfold R64 at *; omega) | (simp only [R32, R64] at *; omega)) hK

theorem w_cl_behind {X : PX} {d b : Nat} {v : VS} {c : Int} {o : Int} {w : Int} (hX : XI v) (hp_a : R32 c) (hp_b : R32 o) (hp_c : R32 w) {Q : Option PV → Nat → VS → Prop} (hQ : XI (cl_behind v c o w).2 → Q (some (.inl (cl_behind v c o w).1)) b (cl_behind v c o w).2) : WV X (d + 1 + 1 + 1 + 1 + 1 + 1 + 1) 155 0 [some (.inr (.inr (some 0))), some (.inl c), some (.inl o), some (.inl w), none, none, none, none, none, none] [] b v Q := by
  rw [cl_behind] at hQ
  refine r_ex 3 (pc' := 3) (lo' := [some (.inr (.inr (some 0))), some (.inl c), some (.inl o), some (.inl w), none, none, none, none, none, none]) (st' := [.inl o, .inl c, .inr (.inr (some 0))]) rfl ?_
  have hp_1 : R32 c := (by first | assumption | omega | (unfold R32 at *; omega) | (unfold R64 at *; omega) | (simp only [R32, R64] at *; omega))
  have hp_2 : R32 o := (by first | assumption | omega | (unfold R32 at *; omega) | (unfold R64 at *; omega) | (simp only [R32, R64] at *; omega))
  have hb_3 : 0 ≤ v 33 0 ∧ v 33 0 ≤ 9 := hX 33 0
  refine r_callb (P := (0 ≤ c ∧ c < v 33 0) ∧ (0 ≤ o ∧ o < v 33 0) ∧ c ≠ o) (m := 103) (args := [.inr (.inr (some 0)), .inl c, .inl o]) (n' := 155) (pc' := 6) (lo' := [some (.inr (.inr (some 0))), some (.inl c), some (.inl o), some (.inl w), none, none, none, none, none, none]) (st' := []) (I := .invokevirtual 103) (pc0 := 3) (len := 3) rfl rfl rfl (e_cl_areTwo hX hp_1 hp_2) (fun h_3 => ?_) (fun h_3 => ?_)
  · show WV _ _ _ 6 _ _ _ _ _
    rw [if_pos h_3] at hQ
    refine r_ex 2 (pc' := 10) (lo' := [some (.inr (.inr (some 0))), some (.inl c), some (.inl o), some (.inl w), none, none, none, none, none, none]) (st' := [.inl w]) rfl ?_
    refine n_if_lt (pc0 := 10) (len := 3) (t := 18) rfl (by first | assumption | omega | (unfold R32 at *; omega) | (unfold R64 at *; omega) | (simp only [R32, R64] at *; omega)) (fun h_10 => ?_) (fun h_10 => ?_)
    · show WV _ _ _ 18 _ _ _ _ _
      rw [if_pos h_10] at hQ
      refine r_ex 1 (pc' := 20) (lo' := [some (.inr (.inr (some 0))), some (.inl c), some (.inl o), some (.inl w), none, none, none, none, none, none]) (st' := [.inl (-2000000)]) rfl ?_
      refine r_ret (rr := some (.inl (-2000000))) (I := .ireturn) (pc0 := 20) (len := 1) rfl rfl ?_
      exact hQ hX 
    · show WV _ _ _ 13 _ _ _ _ _
      rw [if_neg h_10] at hQ
      refine r_ex 2 (pc' := 15) (lo' := [some (.inr (.inr (some 0))), some (.inl c), some (.inl o), some (.inl w), none, none, none, none, none, none]) (st' := [.inl 1, .inl w]) rfl ?_
      refine n_ic_le (pc0 := 15) (len := 3) (t := 21) rfl (by first | assumption | omega | (unfold R32 at *; omega) | (unfold R64 at *; omega) | (simp only [R32, R64] at *; omega)) (by first | assumption | omega | (unfold R32 at *; omega) | (unfold R64 at *; omega) | (simp only [R32, R64] at *; omega)) (fun h_15 => ?_) (fun h_15 => ?_)
      · show WV _ _ _ 21 _ _ _ _ _
        rw [if_neg h_15] at hQ
        refine r_ex 1 (pc' := 22) (lo' := [some (.inr (.inr (some 0))), some (.inl c), some (.inl o), some (.inl w), none, none, none, none, none, none]) (st' := [.inr (.inr (some 0))]) rfl ?_
        refine r_call (m := 72) (args := [.inr (.inr (some 0))]) (n' := 155) (pc' := 25) (lo' := [some (.inr (.inr (some 0))), some (.inl c), some (.inl o), some (.inl w), none, none, none, none, none, none]) (st' := []) (I := .invokevirtual 72) (pc0 := 22) (len := 3) rfl rfl rfl (e_cl_asItIs hX) ?_
        show WV _ _ _ 25 _ [.inr (.inr (some 79))] _ (cl_asItIs v) _
        have hX_4 : XI (cl_asItIs v) := i_cl_asItIs (v := v) hX
        refine r_ex 7 (pc' := 36) (lo' := [some (.inr (.inr (some 0))), some (.inl c), some (.inl o), some (.inl w), some (.inr (.inr (some 79))), some (.inl 0), some (.inl 0), some (.inl 1), none, none]) (st' := []) rfl ?_
        refine l_cl_behind_36 101 (cl_asItIs v) c o w 0 0 1 _ _ _ hX_4 (by first | assumption | omega | (unfold R32 at *; omega) | (unfold R64 at *; omega) | (simp only [R32, R64] at *; omega)) (by first | assumption | omega | (unfold R32 at *; omega) | (unfold R64 at *; omega) | (simp only [R32, R64] at *; omega)) (by first | assumption | omega | (unfold R32 at *; omega) | (unfold R64 at *; omega) | (simp only [R32, R64] at *; omega)) (by first | assumption | omega | (unfold R32 at *; omega) | (unfold R64 at *; omega) | (simp only [R32, R64] at *; omega)) (by first | assumption | omega | (unfold R32 at *; omega) | (unfold R64 at *; omega) | (simp only [R32, R64] at *; omega)) (by first | assumption | omega | (unfold R32 at *; omega) | (unfold R64 at *; omega) | (simp only [R32, R64] at *; omega)) (by first | assumption | omega | (unfold R32 at *; omega) | (unfold R64 at *; omega) | (simp only [R32, R64] at *; omega)) (fun o0_13 o1_13 o2_13 o4_13 o7_13 o8_13 o9_13  hv_13_0 hv_13_1 => ?_)
        show WV _ _ _ 106 _ _ _ _ _
        refine r_ex 1 (pc' := 107) (lo' := [o0_13, o1_13, o2_13, some (.inl w), o4_13, some (.inl ((cl_behind_36 101 (cl_asItIs v) c o w 0 0 1).1)), some (.inl ((cl_behind_36 101 (cl_asItIs v) c o w 0 0 1).2)), o7_13, o8_13, o9_13]) (st' := [.inl w]) rfl ?_
        refine n_if_ne (pc0 := 107) (len := 3) (t := 115) rfl (by first | assumption | omega | (unfold R32 at *; omega) | (unfold R64 at *; omega) | (simp only [R32, R64] at *; omega)) (fun h_107 => ?_) (fun h_107 => ?_)
        · show WV _ _ _ 115 _ _ _ _ _
          rw [if_neg h_107] at hQ
          refine r_ex 1 (pc' := 117) (lo' := [o0_13, o1_13, o2_13, some (.inl w), o4_13, some (.inl ((cl_behind_36 101 (cl_asItIs v) c o w 0 0 1).1)), some (.inl ((cl_behind_36 101 (cl_asItIs v) c o w 0 0 1).2)), o7_13, o8_13, o9_13]) (st' := [.inl ((cl_behind_36 101 (cl_asItIs v) c o w 0 0 1).2)]) rfl ?_
          refine r_ret (rr := some (.inl ((cl_behind_36 101 (cl_asItIs v) c o w 0 0 1).2))) (I := .ireturn) (pc0 := 117) (len := 1) rfl rfl ?_
          exact hQ hX_4 
        · show WV _ _ _ 110 _ _ _ _ _
          rw [if_pos h_107] at hQ
          refine r_ex 2 (pc' := 117) (lo' := [o0_13, o1_13, o2_13, some (.inl w), o4_13, some (.inl ((cl_behind_36 101 (cl_asItIs v) c o w 0 0 1).1)), some (.inl ((cl_behind_36 101 (cl_asItIs v) c o w 0 0 1).2)), o7_13, o8_13, o9_13]) (st' := [.inl ((cl_behind_36 101 (cl_asItIs v) c o w 0 0 1).1)]) rfl ?_
          refine r_ret (rr := some (.inl ((cl_behind_36 101 (cl_asItIs v) c o w 0 0 1).1))) (I := .ireturn) (pc0 := 117) (len := 1) rfl rfl ?_
          exact hQ hX_4 
      · show WV _ _ _ 18 _ _ _ _ _
        rw [if_pos h_15] at hQ
        refine r_ex 1 (pc' := 20) (lo' := [some (.inr (.inr (some 0))), some (.inl c), some (.inl o), some (.inl w), none, none, none, none, none, none]) (st' := [.inl (-2000000)]) rfl ?_
        refine r_ret (rr := some (.inl (-2000000))) (I := .ireturn) (pc0 := 20) (len := 1) rfl rfl ?_
        exact hQ hX 
  · show WV _ _ _ 6 _ _ _ _ _
    rw [if_neg h_3] at hQ
    refine r_ex 2 (pc' := 20) (lo' := [some (.inr (.inr (some 0))), some (.inl c), some (.inl o), some (.inl w), none, none, none, none, none, none]) (st' := [.inl (-2000000)]) rfl ?_
    refine r_ret (rr := some (.inl (-2000000))) (I := .ireturn) (pc0 := 20) (len := 1) rfl rfl ?_
    exact hQ hX 

theorem e_cl_behind {X : PX} {d b : Nat} {v : VS} {c : Int} {o : Int} {w : Int} (hX : XI v) (hp_a : R32 c) (hp_b : R32 o) (hp_c : R32 w) : EvV X (d + 1 + 1 + 1 + 1 + 1 + 1 + 1) 155 [.inr (.inr (some 0)), .inl c, .inl o, .inl w] b v (some (.inl (cl_behind v c o w).1)) b ((cl_behind v c o w).2) := EvV.of (w_cl_behind hX hp_a hp_b hp_c (fun _ => ⟨rfl, rfl, rfl⟩))

theorem i_cl_behind {v : VS} {c : Int} {o : Int} {w : Int} (hX : XI v) (hp_a : R32 c) (hp_b : R32 o) (hp_c : R32 w) : XI ((cl_behind v c o w).2) := by
  have q : WV (0, fun _ => 0, none) (0 + 1 + 1 + 1 + 1 + 1 + 1 + 1) 155 0 [some (.inr (.inr (some 0))), some (.inl c), some (.inl o), some (.inl w), none, none, none, none, none, none] [] 1 v (fun _ _ _ => XI ((cl_behind v c o w).2)) := w_cl_behind (X := (0, fun _ => 0, none)) (d := 0) (b := 1) hX hp_a hp_b hp_c (fun q => q)
  obtain ⟨_, _, _, _, _, _, _, q⟩ := q
  exact q

theorem o_cl_behind {rk : Nat} {v : VS} {c : Int} {o : Int} {w : Int} (hk : (rk < 0 ∨ 0 < rk) ∧ (rk < 67 ∨ 90 < rk) ∧ (rk < 105 ∨ 105 < rk)) : (cl_behind v c o w).2 rk = v rk := by
  unfold cl_behind
  by_cases hc_ : (0 ≤ c ∧ c < v 33 0) ∧ (0 ≤ o ∧ o < v 33 0) ∧ c ≠ o
  · rw [if_pos hc_]
    by_cases hc_ : w < 0
    · rw [if_pos hc_]
      all_goals (show v rk = _)
      all_goals rfl
    · rw [if_neg hc_]
      by_cases hc_ : 1 < w
      · rw [if_pos hc_]
        all_goals (show v rk = _)
        all_goals rfl
      · rw [if_neg hc_]
        by_cases hc_ : w = 0
        · rw [if_pos hc_]
          all_goals (show (cl_asItIs v) rk = _)
          all_goals (rw [o_cl_asItIs (by omega)])
        · rw [if_neg hc_]
          all_goals (show (cl_asItIs v) rk = _)
          all_goals (rw [o_cl_asItIs (by omega)])
  · rw [if_neg hc_]
    all_goals (show v rk = _)
    all_goals rfl

def cl_tune (v : VS) (c : Int) (n : Int) : Int × VS :=
  (if 0 ≤ c ∧ c < v 37 0 then (if n < 1 then ((-2), v) else (if 60 < n then ((-2), v) else ((v 40 ((c).toNat)), (v2 (v2 v 40 ((c).toNat) n) 0 10 1)))) else ((-2), v))
theorem w_cl_tune {X : PX} {d b : Nat} {v : VS} {c : Int} {n : Int} (hX : XI v) (hp_a : R32 c) (hp_b : R32 n) {Q : Option PV → Nat → VS → Prop} (hQ : XI (cl_tune v c n).2 → Q (some (.inl (cl_tune v c n).1)) b (cl_tune v c n).2) : WV X (d + 1) 157 0 [some (.inr (.inr (some 0))), some (.inl c), some (.inl n), none] [] b v Q := by
  rw [cl_tune] at hQ
  refine r_ex 2 (pc' := 2) (lo' := [some (.inr (.inr (some 0))), some (.inl c), some (.inl n), none]) (st' := [.inl c, .inr (.inr (some 0))]) rfl ?_
  have hp_1 : R32 c := (by first | assumption | omega | (unfold R32 at *; omega) | (unfold R64 at *; omega) | (simp only [R32, R64] at *; omega))
  have hb_2 : 0 ≤ v 37 0 ∧ v 37 0 ≤ 12 := hX 37 0
  refine r_callb (P := 0 ≤ c ∧ c < v 37 0) (m := 65) (args := [.inr (.inr (some 0)), .inl c]) (n' := 157) (pc' := 5) (lo' := [some (.inr (.inr (some 0))), some (.inl c), some (.inl n), none]) (st' := []) (I := .invokevirtual 65) (pc0 := 2) (len := 3) rfl rfl rfl (e_cl_isEar hX hp_1) (fun h_2 => ?_) (fun h_2 => ?_)
  · show WV _ _ _ 5 _ _ _ _ _
    rw [if_pos h_2] at hQ
    refine r_ex 3 (pc' := 10) (lo' := [some (.inr (.inr (some 0))), some (.inl c), some (.inl n), none]) (st' := [.inl 1, .inl n]) rfl ?_
    refine n_ic_lt (pc0 := 10) (len := 3) (t := 19) rfl (by first | assumption | omega | (unfold R32 at *; omega) | (unfold R64 at *; omega) | (simp only [R32, R64] at *; omega)) (by first | assumption | omega | (unfold R32 at *; omega) | (unfold R64 at *; omega) | (simp only [R32, R64] at *; omega)) (fun h_10 => ?_) (fun h_10 => ?_)
    · show WV _ _ _ 19 _ _ _ _ _
      rw [if_pos h_10] at hQ
      refine r_ex 1 (pc' := 21) (lo' := [some (.inr (.inr (some 0))), some (.inl c), some (.inl n), none]) (st' := [.inl (-2)]) rfl ?_
      refine r_ret (rr := some (.inl (-2))) (I := .ireturn) (pc0 := 21) (len := 1) rfl rfl ?_
      exact hQ hX 
    · show WV _ _ _ 13 _ _ _ _ _
      rw [if_neg h_10] at hQ
      refine r_ex 2 (pc' := 16) (lo' := [some (.inr (.inr (some 0))), some (.inl c), some (.inl n), none]) (st' := [.inl 60, .inl n]) rfl ?_
      refine n_ic_le (pc0 := 16) (len := 3) (t := 22) rfl (by first | assumption | omega | (unfold R32 at *; omega) | (unfold R64 at *; omega) | (simp only [R32, R64] at *; omega)) (by first | assumption | omega | (unfold R32 at *; omega) | (unfold R64 at *; omega) | (simp only [R32, R64] at *; omega)) (fun h_16 => ?_) (fun h_16 => ?_)
      · show WV _ _ _ 22 _ _ _ _ _
        rw [if_neg h_16] at hQ
        refine r_ex 5 (pc' := 33) (lo' := [some (.inr (.inr (some 0))), some (.inl c), some (.inl n), none]) (st' := [.inl c, .inr (.inr (some 40))]) rfl ?_
        refine r_iald2 (j := 0) (x := (v 40 ((c).toNat))) (pc' := 34) (pc0 := 33) (len := 1) rfl (s_40 _) (by first | assumption | omega | (unfold R32 at *; omega) | (unfold R64 at *; omega) | (simp only [R32, R64] at *; omega)) (by decide) rfl rfl ?_
        have hb_3 : 0 ≤ (v 40 ((c).toNat)) ∧ (v 40 ((c).toNat)) ≤ 60 := hX 40 ((c).toNat)
        refine r_ex 7 (pc' := 47) (lo' := [some (.inr (.inr (some 0))), some (.inl c), some (.inl n), some (.inl (v 40 ((c).toNat)))]) (st' := [.inl n, .inl c, .inr (.inr (some 40))]) rfl ?_
        refine r_iast2 (pc' := 48) (pc0 := 47) (len := 1) rfl (s_40 _) (by first | assumption | omega | (unfold R32 at *; omega) | (unfold R64 at *; omega) | (simp only [R32, R64] at *; omega)) (by decide) rfl ?_
        have hX_4 : XI (v2 v 40 ((c).toNat) n) := XI.put hX (show 0 ≤ n ∧ n ≤ 60 from (by first | assumption | omega | (unfold R32 at *; omega) | (unfold R64 at *; omega) | (simp only [R32, R64] at *; omega)))
        refine r_ex 2 (pc' := 50) (lo' := [some (.inr (.inr (some 0))), some (.inl c), some (.inl n), some (.inl (v 40 ((c).toNat)))]) (st' := [.inl 1, .inr (.inr (some 0))]) rfl ?_
        refine r_puti2 (j := 10) (pc' := 53) (pc0 := 50) (len := 3) rfl (s_0 _) rfl rfl rfl (Or.inr rfl) rfl rfl ?_
        have hX_5 : XI (v2 (v2 v 40 ((c).toNat) n) 0 10 1) := XI.put hX_4 (show 0 ≤ 1 ∧ 1 ≤ 1 from (by first | assumption | omega | (unfold R32 at *; omega) | (unfold R64 at *; omega) | (simp only [R32, R64] at *; omega)))
        refine r_ex 1 (pc' := 54) (lo' := [some (.inr (.inr (some 0))), some (.inl c), some (.inl n), some (.inl (v 40 ((c).toNat)))]) (st' := [.inl (v 40 ((c).toNat))]) rfl ?_
        refine r_ret (rr := some (.inl (v 40 ((c).toNat)))) (I := .ireturn) (pc0 := 54) (len := 1) rfl rfl ?_
        exact hQ hX_5 
      · show WV _ _ _ 19 _ _ _ _ _
        rw [if_pos h_16] at hQ
        refine r_ex 1 (pc' := 21) (lo' := [some (.inr (.inr (some 0))), some (.inl c), some (.inl n), none]) (st' := [.inl (-2)]) rfl ?_
        refine r_ret (rr := some (.inl (-2))) (I := .ireturn) (pc0 := 21) (len := 1) rfl rfl ?_
        exact hQ hX 
  · show WV _ _ _ 5 _ _ _ _ _
    rw [if_neg h_2] at hQ
    refine r_ex 2 (pc' := 21) (lo' := [some (.inr (.inr (some 0))), some (.inl c), some (.inl n), none]) (st' := [.inl (-2)]) rfl ?_
    refine r_ret (rr := some (.inl (-2))) (I := .ireturn) (pc0 := 21) (len := 1) rfl rfl ?_
    exact hQ hX 

theorem e_cl_tune {X : PX} {d b : Nat} {v : VS} {c : Int} {n : Int} (hX : XI v) (hp_a : R32 c) (hp_b : R32 n) : EvV X (d + 1) 157 [.inr (.inr (some 0)), .inl c, .inl n] b v (some (.inl (cl_tune v c n).1)) b ((cl_tune v c n).2) := EvV.of (w_cl_tune hX hp_a hp_b (fun _ => ⟨rfl, rfl, rfl⟩))

theorem i_cl_tune {v : VS} {c : Int} {n : Int} (hX : XI v) (hp_a : R32 c) (hp_b : R32 n) : XI ((cl_tune v c n).2) := by
  have q : WV (0, fun _ => 0, none) (0 + 1) 157 0 [some (.inr (.inr (some 0))), some (.inl c), some (.inl n), none] [] 1 v (fun _ _ _ => XI ((cl_tune v c n).2)) := w_cl_tune (X := (0, fun _ => 0, none)) (d := 0) (b := 1) hX hp_a hp_b (fun q => q)
  obtain ⟨_, _, _, _, _, _, _, q⟩ := q
  exact q

theorem o_cl_tune {rk : Nat} {v : VS} {c : Int} {n : Int} (hk : (rk < 0 ∨ 0 < rk) ∧ (rk < 40 ∨ 40 < rk)) : (cl_tune v c n).2 rk = v rk := by
  unfold cl_tune
  by_cases hc_ : 0 ≤ c ∧ c < v 37 0
  · rw [if_pos hc_]
    by_cases hc_ : n < 1
    · rw [if_pos hc_]
      all_goals (show v rk = _)
      all_goals rfl
    · rw [if_neg hc_]
      by_cases hc_ : 60 < n
      · rw [if_pos hc_]
        all_goals (show v rk = _)
        all_goals rfl
      · rw [if_neg hc_]
        all_goals (show (v2 (v2 v 40 ((c).toNat) n) 0 10 1) rk = _)
        all_goals (rw [v2_row (by omega), v2_row (by omega)])
  · rw [if_neg hc_]
    all_goals (show v rk = _)
    all_goals rfl

def cl_shift (v : VS) (c : Int) (s : Int) : Int × VS :=
  (if 0 ≤ c ∧ c < v 42 0 then (if 0 ≤ s ∧ s < v 33 1 then ((v 44 ((c).toNat)), (v2 (v2 v 44 ((c).toNat) s) 0 10 1)) else ((-2), v)) else ((-2), v))
theorem w_cl_shift {X : PX} {d b : Nat} {v : VS} {c : Int} {s : Int} (hX : XI v) (hp_a : R32 c) (hp_b : R32 s) {Q : Option PV → Nat → VS → Prop} (hQ : XI (cl_shift v c s).2 → Q (some (.inl (cl_shift v c s).1)) b (cl_shift v c s).2) : WV X (d + 1) 158 0 [some (.inr (.inr (some 0))), some (.inl c), some (.inl s), none] [] b v Q := by
  rw [cl_shift] at hQ
  refine r_ex 2 (pc' := 2) (lo' := [some (.inr (.inr (some 0))), some (.inl c), some (.inl s), none]) (st' := [.inl c, .inr (.inr (some 0))]) rfl ?_
  have hp_1 : R32 c := (by first | assumption | omega | (unfold R32 at *; omega) | (unfold R64 at *; omega) | (simp only [R32, R64] at *; omega))
  have hb_2 : 0 ≤ v 42 0 ∧ v 42 0 ≤ 4 := hX 42 0
  refine r_callb (P := 0 ≤ c ∧ c < v 42 0) (m := 159) (args := [.inr (.inr (some 0)), .inl c]) (n' := 158) (pc' := 5) (lo' := [some (.inr (.inr (some 0))), some (.inl c), some (.inl s), none]) (st' := []) (I := .invokevirtual 159) (pc0 := 2) (len := 3) rfl rfl rfl (e_cl_isStart hX hp_1) (fun h_2 => ?_) (fun h_2 => ?_)
  · show WV _ _ _ 5 _ _ _ _ _
    rw [if_pos h_2] at hQ
    refine r_ex 3 (pc' := 10) (lo' := [some (.inr (.inr (some 0))), some (.inl c), some (.inl s), none]) (st' := [.inl s, .inr (.inr (some 0))]) rfl ?_
    have hp_3 : R32 s := (by first | assumption | omega | (unfold R32 at *; omega) | (unfold R64 at *; omega) | (simp only [R32, R64] at *; omega))
    have hb_4 : 0 ≤ v 33 1 ∧ v 33 1 ≤ 300 := hX 33 1
    refine r_callb (P := 0 ≤ s ∧ s < v 33 1) (m := 67) (args := [.inr (.inr (some 0)), .inl s]) (n' := 158) (pc' := 13) (lo' := [some (.inr (.inr (some 0))), some (.inl c), some (.inl s), none]) (st' := []) (I := .invokevirtual 67) (pc0 := 10) (len := 3) rfl rfl rfl (e_cl_isSecond hX hp_3) (fun h_10 => ?_) (fun h_10 => ?_)
    · show WV _ _ _ 13 _ _ _ _ _
      rw [if_pos h_10] at hQ
      refine r_ex 6 (pc' := 30) (lo' := [some (.inr (.inr (some 0))), some (.inl c), some (.inl s), none]) (st' := [.inl c, .inr (.inr (some 44))]) rfl ?_
      refine r_iald2 (j := 0) (x := (v 44 ((c).toNat))) (pc' := 31) (pc0 := 30) (len := 1) rfl (s_44 _) (by first | assumption | omega | (unfold R32 at *; omega) | (unfold R64 at *; omega) | (simp only [R32, R64] at *; omega)) (by decide) rfl rfl ?_
      have hb_5 : 0 ≤ (v 44 ((c).toNat)) ∧ (v 44 ((c).toNat)) ≤ 299 := hX 44 ((c).toNat)
      refine r_ex 7 (pc' := 44) (lo' := [some (.inr (.inr (some 0))), some (.inl c), some (.inl s), some (.inl (v 44 ((c).toNat)))]) (st' := [.inl s, .inl c, .inr (.inr (some 44))]) rfl ?_
      refine r_iast2 (pc' := 45) (pc0 := 44) (len := 1) rfl (s_44 _) (by first | assumption | omega | (unfold R32 at *; omega) | (unfold R64 at *; omega) | (simp only [R32, R64] at *; omega)) (by decide) rfl ?_
      have hX_6 : XI (v2 v 44 ((c).toNat) s) := XI.put hX (show 0 ≤ s ∧ s ≤ 299 from (by first | assumption | omega | (unfold R32 at *; omega) | (unfold R64 at *; omega) | (simp only [R32, R64] at *; omega)))
      refine r_ex 2 (pc' := 47) (lo' := [some (.inr (.inr (some 0))), some (.inl c), some (.inl s), some (.inl (v 44 ((c).toNat)))]) (st' := [.inl 1, .inr (.inr (some 0))]) rfl ?_
      refine r_puti2 (j := 10) (pc' := 50) (pc0 := 47) (len := 3) rfl (s_0 _) rfl rfl rfl (Or.inr rfl) rfl rfl ?_
      have hX_7 : XI (v2 (v2 v 44 ((c).toNat) s) 0 10 1) := XI.put hX_6 (show 0 ≤ 1 ∧ 1 ≤ 1 from (by first | assumption | omega | (unfold R32 at *; omega) | (unfold R64 at *; omega) | (simp only [R32, R64] at *; omega)))
      refine r_ex 1 (pc' := 51) (lo' := [some (.inr (.inr (some 0))), some (.inl c), some (.inl s), some (.inl (v 44 ((c).toNat)))]) (st' := [.inl (v 44 ((c).toNat))]) rfl ?_
      refine r_ret (rr := some (.inl (v 44 ((c).toNat)))) (I := .ireturn) (pc0 := 51) (len := 1) rfl rfl ?_
      exact hQ hX_7 
    · show WV _ _ _ 13 _ _ _ _ _
      rw [if_neg h_10] at hQ
      refine r_ex 2 (pc' := 18) (lo' := [some (.inr (.inr (some 0))), some (.inl c), some (.inl s), none]) (st' := [.inl (-2)]) rfl ?_
      refine r_ret (rr := some (.inl (-2))) (I := .ireturn) (pc0 := 18) (len := 1) rfl rfl ?_
      exact hQ hX 
  · show WV _ _ _ 5 _ _ _ _ _
    rw [if_neg h_2] at hQ
    refine r_ex 2 (pc' := 18) (lo' := [some (.inr (.inr (some 0))), some (.inl c), some (.inl s), none]) (st' := [.inl (-2)]) rfl ?_
    refine r_ret (rr := some (.inl (-2))) (I := .ireturn) (pc0 := 18) (len := 1) rfl rfl ?_
    exact hQ hX 

theorem e_cl_shift {X : PX} {d b : Nat} {v : VS} {c : Int} {s : Int} (hX : XI v) (hp_a : R32 c) (hp_b : R32 s) : EvV X (d + 1) 158 [.inr (.inr (some 0)), .inl c, .inl s] b v (some (.inl (cl_shift v c s).1)) b ((cl_shift v c s).2) := EvV.of (w_cl_shift hX hp_a hp_b (fun _ => ⟨rfl, rfl, rfl⟩))

theorem i_cl_shift {v : VS} {c : Int} {s : Int} (hX : XI v) (hp_a : R32 c) (hp_b : R32 s) : XI ((cl_shift v c s).2) := by
  have q : WV (0, fun _ => 0, none) (0 + 1) 158 0 [some (.inr (.inr (some 0))), some (.inl c), some (.inl s), none] [] 1 v (fun _ _ _ => XI ((cl_shift v c s).2)) := w_cl_shift (X := (0, fun _ => 0, none)) (d := 0) (b := 1) hX hp_a hp_b (fun q => q)
  obtain ⟨_, _, _, _, _, _, _, q⟩ := q
  exact q

theorem o_cl_shift {rk : Nat} {v : VS} {c : Int} {s : Int} (hk : (rk < 0 ∨ 0 < rk) ∧ (rk < 44 ∨ 44 < rk)) : (cl_shift v c s).2 rk = v rk := by
  unfold cl_shift
  by_cases hc_ : 0 ≤ c ∧ c < v 42 0
  · rw [if_pos hc_]
    by_cases hc_ : 0 ≤ s ∧ s < v 33 1
    · rw [if_pos hc_]
      all_goals (show (v2 (v2 v 44 ((c).toNat) s) 0 10 1) rk = _)
      all_goals (rw [v2_row (by omega), v2_row (by omega)])
    · rw [if_neg hc_]
      all_goals (show v rk = _)
      all_goals rfl
  · rw [if_neg hc_]
    all_goals (show v rk = _)
    all_goals rfl
