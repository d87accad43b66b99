/-! the reference: what is asked, II -/
noncomputable def mo_agree_51 : Nat → VS → Int → Int → Int → Int
  | 0, v, t, w, c => 0
  | f + 1, v, t, w, c => (if c < (v 210 0) then (if w = 0 then w else (if (mo_hourOf v c t) = (mo_hourOf v 0 t) then (mo_agree_51 f v t 1 (c + 1)) else (mo_agree_51 f v t 0 (c + 1)))) else w)
noncomputable def mo_agree_23 : Nat → VS → Int → Int × VS
  | 0, v, t => (0, v)
  | f + 1, v, t => (if t < (v 210 1) then (if 0 < (mo_hourOf v 0 t) then (if (mo_agree_51 10 v t 1 1) = 0 then (mo_agree_23 f v (t + 1)) else (t, v)) else (if (mo_agree_51 10 v t 0 1) = 0 then (mo_agree_23 f v (t + 1)) else (t, v))) else ((-1), v))
noncomputable def mo_agree (v : VS) (s : Int) : Int × VS :=
  (if 0 ≤ s ∧ s < (v 210 1) then (mo_agree_23 301 (mo_told (v2 v 203 0 0)) s) else ((-2), (v2 v 203 0 0)))
theorem l_mo_agree_51 {X : PX} {d b : Nat} {Q : Option PV → Nat → VS → Prop}  : ∀ (f : Nat) (v : VS) (t : Int) (w : Int) (c : Int) (z1 : Int), XI v → (0 ≤ t ∧ t ≤ 300) → (0 ≤ w ∧ w ≤ 1) → (1 ≤ c ∧ c ≤ 9) → (9 < c + f) → (∀ qx4 : Option PV, (0 ≤ (mo_agree_51 f v t w c) ∧ (mo_agree_51 f v t w c) ≤ 1) → WV X (d + 1 + 1 + 1 + 1 + 1 + 1) 262 94 [some (.inr (.inr (some 203))), some (.inl z1), some (.inl t), some (.inl (mo_agree_51 f v t w c)), qx4] [] b v Q) → WV X (d + 1 + 1 + 1 + 1 + 1 + 1) 262 51 [some (.inr (.inr (some 203))), some (.inl z1), some (.inl t), some (.inl w), some (.inl c)] [] b v Q := by
  intro f
  induction f with
  | zero =>
    intro v t w c z1 hX hi_0 hi_1 hi_2 hf hK
    exfalso
    omega
  | succ f ih =>
    intro v t w c z1 hX hi_0 hi_1 hi_2 hf hK
    rw [mo_agree_51] at hK
    refine r_ex 4 (pc' := 58) (lo' := [some (.inr (.inr (some 203))), some (.inl z1), some (.inl t), some (.inl w), some (.inl c)]) (st' := [.inl 0, .inr (.inr (some 210)), .inl c]) rfl ?_
    refine r_iald2 (j := 0) (x := (v 210 0)) (pc' := 59) (pc0 := 58) (len := 1) rfl (s_210 _) (by first | assumption | omega | (unfold R32 at *; omega) | (unfold R64 at *; omega) | (simp only [R32, R64] at *; omega)) (by decide) rfl rfl ?_
    have hb_10 : 0 ≤ (v 210 0) ∧ (v 210 0) ≤ 9 := hX 210 0
    refine n_ic_ge (pc0 := 59) (len := 3) (t := 94) rfl (by first | assumption | omega | (unfold R32 at *; omega) | (unfold R64 at *; omega) | (simp only [R32, R64] at *; omega)) (by first | assumption | omega | (unfold R32 at *; omega) | (unfold R64 at *; omega) | (simp only [R32, R64] at *; omega)) (fun h_59 => ?_) (fun h_59 => ?_)
    · show WV _ _ _ 94 _ _ _ _ _
      rw [if_neg h_59] at hK
      exact hK _  (by first | assumption | omega | (unfold R32 at *; omega) | (unfold R64 at *; omega) | (simp only [R32, R64] at *; omega))
    · show WV _ _ _ 62 _ _ _ _ _
      rw [if_pos h_59] at hK
      refine r_ex 1 (pc' := 63) (lo' := [some (.inr (.inr (some 203))), some (.inl z1), some (.inl t), some (.inl w), some (.inl c)]) (st' := [.inl w]) rfl ?_
      refine n_if_eq (pc0 := 63) (len := 3) (t := 94) rfl (by first | assumption | omega | (unfold R32 at *; omega) | (unfold R64 at *; omega) | (simp only [R32, R64] at *; omega)) (fun h_63 => ?_) (fun h_63 => ?_)
      · show WV _ _ _ 94 _ _ _ _ _
        rw [if_pos h_63] at hK
        exact hK _  (by first | assumption | omega | (unfold R32 at *; omega) | (unfold R64 at *; omega) | (simp only [R32, R64] at *; omega))
      · show WV _ _ _ 66 _ _ _ _ _
        rw [if_neg h_63] at hK
        refine r_ex 3 (pc' := 70) (lo' := [some (.inr (.inr (some 203))), some (.inl z1), some (.inl t), some (.inl w), some (.inl c)]) (st' := [.inl t, .inl c, .inr (.inr (some 203))]) rfl ?_
        have hp_11 : R32 c := (by first | assumption | omega | (unfold R32 at *; omega) | (unfold R64 at *; omega) | (simp only [R32, R64] at *; omega))
        have hp_12 : R32 t := (by first | assumption | omega | (unfold R32 at *; omega) | (unfold R64 at *; omega) | (simp only [R32, R64] at *; omega))
        refine r_call (m := 257) (args := [.inr (.inr (some 203)), .inl c, .inl t]) (n' := 262) (pc' := 73) (lo' := [some (.inr (.inr (some 203))), some (.inl z1), some (.inl t), some (.inl w), some (.inl c)]) (st' := []) (I := .invokevirtual 257) (pc0 := 70) (len := 3) rfl rfl rfl (e_mo_hourOf hX hp_11 hp_12) ?_
        show WV _ _ _ 73 _ [.inl (mo_hourOf v c t)] _ _ _
        have hb_13 := n_mo_hourOf (v := v) (c := c) (t := t) hX hp_11 hp_12
        refine r_ex 3 (pc' := 76) (lo' := [some (.inr (.inr (some 203))), some (.inl z1), some (.inl t), some (.inl w), some (.inl c)]) (st' := [.inl t, .inl 0, .inr (.inr (some 203)), .inl (mo_hourOf v c t)]) rfl ?_
        have hp_14 : R32 (0 : Int) := (by first | assumption | omega | (unfold R32 at *; omega) | (unfold R64 at *; omega) | (simp only [R32, R64] at *; omega))
        have hp_15 : R32 t := (by first | assumption | omega | (unfold R32 at *; omega) | (unfold R64 at *; omega) | (simp only [R32, R64] at *; omega))
        refine r_call (m := 257) (args := [.inr (.inr (some 203)), .inl 0, .inl t]) (n' := 262) (pc' := 79) (lo' := [some (.inr (.inr (some 203))), some (.inl z1), some (.inl t), some (.inl w), some (.inl c)]) (st' := [.inl (mo_hourOf v c t)]) (I := .invokevirtual 257) (pc0 := 76) (len := 3) rfl rfl rfl (e_mo_hourOf hX hp_14 hp_15) ?_
        show WV _ _ _ 79 _ [.inl (mo_hourOf v 0 t), .inl (mo_hourOf v c t)] _ _ _
        have hb_16 := n_mo_hourOf (v := v) (c := 0) (t := t) hX hp_14 hp_15
        refine n_ic_ne (pc0 := 79) (len := 3) (t := 86) rfl (by first | assumption | omega | (unfold R32 at *; omega) | (unfold R64 at *; omega) | (simp only [R32, R64] at *; omega)) (by first | assumption | omega | (unfold R32 at *; omega) | (unfold R64 at *; omega) | (simp only [R32, R64] at *; omega)) (fun h_79 => ?_) (fun h_79 => ?_)
        · show WV _ _ _ 86 _ _ _ _ _
          rw [if_neg h_79] at hK
          refine r_ex 4 (pc' := 51) (lo' := [some (.inr (.inr (some 203))), some (.inl z1), some (.inl t), some (.inl 0), some (.inl (c + 1))]) (st' := []) rfl ?_
          refine ih v t 0 (c + 1) _ hX (by first | assumption | omega | (unfold R32 at *; omega) | (unfold R64 at *; omega) | (simp only [R32, R64] at *; omega)) (by first | assumption | omega | (unfold R32 at *; omega) | (unfold R64 at *; omega) | (simp only [R32, R64] at *; omega)) (by first | assumption | omega | (unfold R32 at *; omega) | (unfold R64 at *; omega) | (simp only [R32, R64] at *; omega)) (by first | assumption | omega | (unfold R32 at *; omega) | (unfold R64 at *; omega) | (simp only [R32, R64] at *; omega)) hK
        · show WV _ _ _ 82 _ _ _ _ _
          rw [if_pos h_79] at hK
          refine r_ex 5 (pc' := 51) (lo' := [some (.inr (.inr (some 203))), some (.inl z1), some (.inl t), some (.inl 1), some (.inl (c + 1))]) (st' := []) rfl ?_
          refine ih v t 1 (c + 1) _ hX (by first | assumption | omega | (unfold R32 at *; omega) | (unfold R64 at *; omega) | (simp only [R32, R64] at *; omega)) (by first | assumption | omega | (unfold R32 at *; omega) | (unfold R64 at *; omega) | (simp only [R32, R64] at *; omega)) (by first | assumption | omega | (unfold R32 at *; omega) | (unfold R64 at *; omega) | (simp only [R32, R64] at *; omega)) (by first | assumption | omega | (unfold R32 at *; omega) | (unfold R64 at *; omega) | (simp only [R32, R64] at *; omega)) hK

theorem l_mo_agree_23 {X : PX} {d b : Nat} {Q : Option PV → Nat → VS → Prop}  : ∀ (f : Nat) (v : VS) (t : Int) (o3 : Option PV) (o4 : Option PV) (z1 : Int), XI v → (0 ≤ t ∧ t ≤ 300) → (300 < t + f) → (XI (mo_agree_23 f v t).2 → Q (some (.inl (mo_agree_23 f v t).1)) b (mo_agree_23 f v t).2) → WV X (d + 1 + 1 + 1 + 1 + 1 + 1) 262 23 [some (.inr (.inr (some 203))), some (.inl z1), some (.inl t), o3, o4] [] b v Q := by
  intro f
  induction f with
  | zero =>
    intro v t o3 o4 z1 hX hi_0 hf hQ
    exfalso
    omega
  | succ f ih =>
    intro v t o3 o4 z1 hX hi_0 hf hQ
    rw [mo_agree_23] at hQ
    refine r_ex 4 (pc' := 29) (lo' := [some (.inr (.inr (some 203))), some (.inl z1), some (.inl t), o3, o4]) (st' := [.inl 1, .inr (.inr (some 210)), .inl t]) rfl ?_
    refine r_iald2 (j := 0) (x := (v 210 1)) (pc' := 30) (pc0 := 29) (len := 1) rfl (s_210 _) (by first | assumption | omega | (unfold R32 at *; omega) | (unfold R64 at *; omega) | (simp only [R32, R64] at *; omega)) (by decide) rfl rfl ?_
    have hb_6 : 0 ≤ (v 210 1) ∧ (v 210 1) ≤ 300 := hX 210 1
    refine n_ic_ge (pc0 := 30) (len := 3) (t := 106) rfl (by first | assumption | omega | (unfold R32 at *; omega) | (unfold R64 at *; omega) | (simp only [R32, R64] at *; omega)) (by first | assumption | omega | (unfold R32 at *; omega) | (unfold R64 at *; omega) | (simp only [R32, R64] at *; omega)) (fun h_30 => ?_) (fun h_30 => ?_)
    · show WV _ _ _ 106 _ _ _ _ _
      rw [if_neg h_30] at hQ
      refine r_ex 1 (pc' := 107) (lo' := [some (.inr (.inr (some 203))), some (.inl z1), some (.inl t), o3, o4]) (st' := [.inl (-1)]) rfl ?_
      refine r_ret (rr := some (.inl (-1))) (I := .ireturn) (pc0 := 107) (len := 1) rfl rfl ?_
      exact hQ hX 
    · show WV _ _ _ 33 _ _ _ _ _
      rw [if_pos h_30] at hQ
      refine r_ex 3 (pc' := 36) (lo' := [some (.inr (.inr (some 203))), some (.inl z1), some (.inl t), o3, o4]) (st' := [.inl t, .inl 0, .inr (.inr (some 203))]) rfl ?_
      have hp_7 : R32 (0 : Int) := (by first | assumption | omega | (unfold R32 at *; omega) | (unfold R64 at *; omega) | (simp only [R32, R64] at *; omega))
      have hp_8 : R32 t := (by first | assumption | omega | (unfold R32 at *; omega) | (unfold R64 at *; omega) | (simp only [R32, R64] at *; omega))
      refine r_call (m := 257) (args := [.inr (.inr (some 203)), .inl 0, .inl t]) (n' := 262) (pc' := 39) (lo' := [some (.inr (.inr (some 203))), some (.inl z1), some (.inl t), o3, o4]) (st' := []) (I := .invokevirtual 257) (pc0 := 36) (len := 3) rfl rfl rfl (e_mo_hourOf hX hp_7 hp_8) ?_
      show WV _ _ _ 39 _ [.inl (mo_hourOf v 0 t)] _ _ _
      have hb_9 := n_mo_hourOf (v := v) (c := 0) (t := t) hX hp_7 hp_8
      refine n_if_le (pc0 := 39) (len := 3) (t := 46) rfl (by first | assumption | omega | (unfold R32 at *; omega) | (unfold R64 at *; omega) | (simp only [R32, R64] at *; omega)) (fun h_39 => ?_) (fun h_39 => ?_)
      · show WV _ _ _ 46 _ _ _ _ _
        rw [if_neg h_39] at hQ
        refine r_ex 4 (pc' := 51) (lo' := [some (.inr (.inr (some 203))), some (.inl z1), some (.inl t), some (.inl 0), some (.inl 1)]) (st' := []) rfl ?_
        refine l_mo_agree_51 10 v t 0 1 _ hX (by first | assumption | omega | (unfold R32 at *; omega) | (unfold R64 at *; omega) | (simp only [R32, R64] at *; omega)) (by first | assumption | omega | (unfold R32 at *; omega) | (unfold R64 at *; omega) | (simp only [R32, R64] at *; omega)) (by first | assumption | omega | (unfold R32 at *; omega) | (unfold R64 at *; omega) | (simp only [R32, R64] at *; omega)) (by first | assumption | omega | (unfold R32 at *; omega) | (unfold R64 at *; omega) | (simp only [R32, R64] at *; omega)) (fun o4_17  hv_17_0 => ?_)
        show WV _ _ _ 94 _ _ _ _ _
        refine r_ex 1 (pc' := 95) (lo' := [some (.inr (.inr (some 203))), some (.inl z1), some (.inl t), some (.inl (mo_agree_51 10 v t 0 1)), o4_17]) (st' := [.inl (mo_agree_51 10 v t 0 1)]) rfl ?_
        refine n_if_eq (pc0 := 95) (len := 3) (t := 100) rfl (by first | assumption | omega | (unfold R32 at *; omega) | (unfold R64 at *; omega) | (simp only [R32, R64] at *; omega)) (fun h_95 => ?_) (fun h_95 => ?_)
        · show WV _ _ _ 100 _ _ _ _ _
          rw [if_pos h_95] at hQ
          refine r_ex 2 (pc' := 23) (lo' := [some (.inr (.inr (some 203))), some (.inl z1), some (.inl (t + 1)), some (.inl (mo_agree_51 10 v t 0 1)), o4_17]) (st' := []) rfl ?_
          refine ih v (t + 1) _ _ _ hX (by first | assumption | omega | (unfold R32 at *; omega) | (unfold R64 at *; omega) | (simp only [R32, R64] at *; omega)) (by first | assumption | omega | (unfold R32 at *; omega) | (unfold R64 at *; omega) | (simp only [R32, R64] at *; omega)) hQ
        · show WV _ _ _ 98 _ _ _ _ _
          rw [if_neg h_95] at hQ
          refine r_ex 1 (pc' := 99) (lo' := [some (.inr (.inr (some 203))), some (.inl z1), some (.inl t), some (.inl (mo_agree_51 10 v t 0 1)), o4_17]) (st' := [.inl t]) rfl ?_
          refine r_ret (rr := some (.inl t)) (I := .ireturn) (pc0 := 99) (len := 1) rfl rfl ?_
          exact hQ hX 
      · show WV _ _ _ 42 _ _ _ _ _
        rw [if_pos h_39] at hQ
        refine r_ex 5 (pc' := 51) (lo' := [some (.inr (.inr (some 203))), some (.inl z1), some (.inl t), some (.inl 1), some (.inl 1)]) (st' := []) rfl ?_
        refine l_mo_agree_51 10 v t 1 1 _ hX (by first | assumption | omega | (unfold R32 at *; omega) | (unfold R64 at *; omega) | (simp only [R32, R64] at *; omega)) (by first | assumption | omega | (unfold R32 at *; omega) | (unfold R64 at *; omega) | (simp only [R32, R64] at *; omega)) (by first | assumption | omega | (unfold R32 at *; omega) | (unfold R64 at *; omega) | (simp only [R32, R64] at *; omega)) (by first | assumption | omega | (unfold R32 at *; omega) | (unfold R64 at *; omega) | (simp only [R32, R64] at *; omega)) (fun o4_18  hv_18_0 => ?_)
        show WV _ _ _ 94 _ _ _ _ _
        refine r_ex 1 (pc' := 95) (lo' := [some (.inr (.inr (some 203))), some (.inl z1), some (.inl t), some (.inl (mo_agree_51 10 v t 1 1)), o4_18]) (st' := [.inl (mo_agree_51 10 v t 1 1)]) rfl ?_
        refine n_if_eq (pc0 := 95) (len := 3) (t := 100) rfl (by first | assumption | omega | (unfold R32 at *; omega) | (unfold R64 at *; omega) | (simp only [R32, R64] at *; omega)) (fun h_95 => ?_) (fun h_95 => ?_)
        · show WV _ _ _ 100 _ _ _ _ _
          rw [if_pos h_95] at hQ
          refine r_ex 2 (pc' := 23) (lo' := [some (.inr (.inr (some 203))), some (.inl z1), some (.inl (t + 1)), some (.inl (mo_agree_51 10 v t 1 1)), o4_18]) (st' := []) rfl ?_
          refine ih v (t + 1) _ _ _ hX (by first | assumption | omega | (unfold R32 at *; omega) | (unfold R64 at *; omega) | (simp only [R32, R64] at *; omega)) (by first | assumption | omega | (unfold R32 at *; omega) | (unfold R64 at *; omega) | (simp only [R32, R64] at *; omega)) hQ
        · show WV _ _ _ 98 _ _ _ _ _
          rw [if_neg h_95] at hQ
          refine r_ex 1 (pc' := 99) (lo' := [some (.inr (.inr (some 203))), some (.inl z1), some (.inl t), some (.inl (mo_agree_51 10 v t 1 1)), o4_18]) (st' := [.inl t]) rfl ?_
          refine r_ret (rr := some (.inl t)) (I := .ireturn) (pc0 := 99) (len := 1) rfl rfl ?_
          exact hQ hX 

theorem of_mo_agree_23 {rk : Nat}  : ∀ (f : Nat) {v : VS} {t : Int}, (mo_agree_23 f v t).2 rk = v rk := by
  intro f
  induction f with
  | zero => intro v t; rfl
  | succ f ih =>
    intro v t
    rw [mo_agree_23]
    by_cases hc_ : t < (v 210 1)
    · rw [if_pos hc_] <;> clear hc_
      by_cases hc_ : 0 < (mo_hourOf v 0 t)
      · rw [if_pos hc_] <;> clear hc_
        by_cases hc_ : (mo_agree_51 10 v t 1 1) = 0
        · rw [if_pos hc_] <;> clear hc_
          all_goals (rw [ih])
        · rw [if_neg hc_] <;> clear hc_
          all_goals (show v rk = _)
          all_goals rfl
      · rw [if_neg hc_] <;> clear hc_
        by_cases hc_ : (mo_agree_51 10 v t 0 1) = 0
        · rw [if_pos hc_] <;> clear hc_
          all_goals (rw [ih])
        · rw [if_neg hc_] <;> clear hc_
          all_goals (show v rk = _)
          all_goals rfl
    · rw [if_neg hc_] <;> clear hc_
      all_goals (show v rk = _)
      all_goals rfl
theorem o_mo_agree_23 {rk : Nat} {f : Nat} {v : VS} {t : Int}  : (mo_agree_23 f v t).2 rk = v rk := of_mo_agree_23  f

theorem w_mo_agree {X : PX} {d b : Nat} {v : VS} {s : Int} (hX : XI v) (hp_a : R32 s) (hp_b : CF v) {Q : Option PV → Nat → VS → Prop} (hQ : XI (mo_agree v s).2 → Q (some (.inl (mo_agree v s).1)) b (mo_agree v s).2) : WV X (d + 1 + 1 + 1 + 1 + 1 + 1) 262 0 [some (.inr (.inr (some 203))), some (.inl s), none, none, none] [] b v Q := by
  rw [mo_agree] at hQ
  refine r_ex 2 (pc' := 2) (lo' := [some (.inr (.inr (some 203))), some (.inl s), none, none, none]) (st' := [.inl 0, .inr (.inr (some 203))]) rfl ?_
  refine r_puti2 (j := 0) (pc' := 5) (pc0 := 2) (len := 3) rfl (s_203 _) rfl rfl rfl (Or.inl rfl) rfl rfl ?_
  have hX_1 : XI (v2 v 203 0 0) := XI.put hX trivial
  refine r_ex 2 (pc' := 7) (lo' := [some (.inr (.inr (some 203))), some (.inl s), none, none, none]) (st' := [.inl s, .inr (.inr (some 203))]) rfl ?_
  refine n_i2l (pc' := 8) (pc0 := 7) (len := 1) rfl (by first | assumption | omega | (unfold R32 at *; omega) | (unfold R64 at *; omega) | (simp only [R32, R64] at *; omega)) rfl ?_
  have hp_2 : R64 s := (by first | assumption | omega | (unfold R32 at *; omega) | (unfold R64 at *; omega) | (simp only [R32, R64] at *; omega))
  have hb_3 : 0 ≤ (v 210 1) ∧ (v 210 1) ≤ 300 := hX_1 210 1
  refine r_callb (P := 0 ≤ s ∧ s < (v 210 1)) (m := 240) (args := [.inr (.inr (some 203)), .inr (.inl s)]) (n' := 262) (pc' := 11) (lo' := [some (.inr (.inr (some 203))), some (.inl s), none, none, none]) (st' := []) (I := .invokevirtual 240) (pc0 := 8) (len := 3) rfl rfl rfl (e_mo_isSecond hX_1 hp_2) (fun h_8 => ?_) (fun h_8 => ?_)
  · show WV _ _ _ 11 _ _ _ _ _
    rw [if_pos h_8] at hQ
    refine r_ex 2 (pc' := 18) (lo' := [some (.inr (.inr (some 203))), some (.inl s), none, none, none]) (st' := [.inr (.inr (some 203))]) rfl ?_
    have hp_4 : CF (v2 v 203 0 0) := show CF (v2 v 203 0 0) from (show CF (v2 v 203 0 0) from CF.of hp_b (fun k h1 h2 => by rw [v2_row (by omega)]))
    refine r_call (m := 246) (args := [.inr (.inr (some 203))]) (n' := 262) (pc' := 21) (lo' := [some (.inr (.inr (some 203))), some (.inl s), none, none, none]) (st' := []) (I := .invokevirtual 246) (pc0 := 18) (len := 3) rfl rfl rfl (e_mo_told hX_1 hp_4) ?_
    show WV _ _ _ 21 _ [] _ (mo_told (v2 v 203 0 0)) _
    have hX_5 : XI (mo_told (v2 v 203 0 0)) := i_mo_told (v := (v2 v 203 0 0)) hX_1 hp_4
    refine r_ex 2 (pc' := 23) (lo' := [some (.inr (.inr (some 203))), some (.inl s), some (.inl s), none, none]) (st' := []) rfl ?_
    exact l_mo_agree_23 301 (mo_told (v2 v 203 0 0)) s _ _ _ hX_5 (by first | assumption | omega | (unfold R32 at *; omega) | (unfold R64 at *; omega) | (simp only [R32, R64] at *; omega)) (by first | assumption | omega | (unfold R32 at *; omega) | (unfold R64 at *; omega) | (simp only [R32, R64] at *; omega)) hQ
  · show WV _ _ _ 11 _ _ _ _ _
    rw [if_neg h_8] at hQ
    refine r_ex 2 (pc' := 16) (lo' := [some (.inr (.inr (some 203))), some (.inl s), none, none, none]) (st' := [.inl (-2)]) rfl ?_
    refine r_ret (rr := some (.inl (-2))) (I := .ireturn) (pc0 := 16) (len := 1) rfl rfl ?_
    exact hQ hX_1 

theorem e_mo_agree {X : PX} {d b : Nat} {v : VS} {s : Int} (hX : XI v) (hp_a : R32 s) (hp_b : CF v) : EvV X (d + 1 + 1 + 1 + 1 + 1 + 1) 262 [.inr (.inr (some 203)), .inl s] b v (some (.inl (mo_agree v s).1)) b ((mo_agree v s).2) := EvV.of (w_mo_agree hX hp_a hp_b (fun _ => ⟨rfl, rfl, rfl⟩))

theorem i_mo_agree {v : VS} {s : Int} (hX : XI v) (hp_a : R32 s) (hp_b : CF v) : XI ((mo_agree v s).2) := by
  have q : WV (0, fun _ => 0, none) (0 + 1 + 1 + 1 + 1 + 1 + 1) 262 0 [some (.inr (.inr (some 203))), some (.inl s), none, none, none] [] 1 v (fun _ _ _ => XI ((mo_agree v s).2)) := w_mo_agree (X := (0, fun _ => 0, none)) (d := 0) (b := 1) hX hp_a hp_b (fun q => q)
  obtain ⟨_, _, _, _, _, _, _, q⟩ := q
  exact q

theorem o_mo_agree {rk : Nat} {v : VS} {s : Int} (hk : (rk < 203 ∨ 203 < rk) ∧ (rk < 219 ∨ 231 < rk)) : (mo_agree v s).2 rk = v rk := by
  unfold mo_agree
  by_cases hc_ : 0 ≤ s ∧ s < (v 210 1)
  · rw [if_pos hc_] <;> clear hc_
    all_goals (rw [o_mo_agree_23, o_mo_told (by omega), v2_row (by omega)])
  · rw [if_neg hc_] <;> clear hc_
    all_goals (show (v2 v 203 0 0) rk = _)
    all_goals (rw [v2_row (by omega)])

noncomputable def mo_noon_50 : Nat → VS → Int → Int → Int → Int → Int → Int → Int × Int × Int
  | 0, v, h, w, n, a, e, i => (0, 0, 0)
  | f + 1, v, h, w, n, a, e, i => (if i < (v 203 37) then (if (mo_at v i 2) = h then (if a = (-1) then (mo_noon_50 f v h w (n + 1) i i (i + 1)) else (mo_noon_50 f v h w (n + 1) a i (i + 1))) else (mo_noon_50 f v h w n a e (i + 1))) else (n, a, e))
noncomputable def mo_noon (v : VS) (h : Int) (w : Int) : Int × VS :=
  (if 0 < (v 209 0) then (if 1 ≤ h ∧ h ≤ 99 then (if (0 : Int) ≤ w ∧ w ≤ (3 : Int) then (if w = 3 then (if w = 3 then ((mo_noon_50 301 (mo_told (v2 v 203 0 0)) h w 0 (-1) (-1) 0).1, (mo_told (v2 v 203 0 0))) else ((-1), (mo_told (v2 v 203 0 0)))) else (if (mo_noon_50 301 (mo_told (v2 v 203 0 0)) h w 0 (-1) (-1) 0).1 = 0 then (if w = 3 then ((mo_noon_50 301 (mo_told (v2 v 203 0 0)) h w 0 (-1) (-1) 0).1, (mo_told (v2 v 203 0 0))) else ((-1), (mo_told (v2 v 203 0 0)))) else (if w = 2 then ((mo_at (mo_told (v2 v 203 0 0)) ((mo_noon_50 301 (mo_told (v2 v 203 0 0)) h w 0 (-1) (-1) 0).2.2) 0), (mo_told (v2 v 203 0 0))) else ((mo_at (mo_told (v2 v 203 0 0)) ((mo_noon_50 301 (mo_told (v2 v 203 0 0)) h w 0 (-1) (-1) 0).2.1) w), (mo_told (v2 v 203 0 0)))))) else ((-2), (v2 v 203 0 0))) else ((-2), (v2 v 203 0 0))) else ((-2), (v2 v 203 0 0)))
theorem l_mo_noon_50 {X : PX} {d b : Nat} {Q : Option PV → Nat → VS → Prop}  : ∀ (f : Nat) (v : VS) (h : Int) (w : Int) (n : Int) (a : Int) (e : Int) (i : Int), XI v → (0 ≤ i ∧ i ≤ 300) → (0 ≤ n ∧ n ≤ i) → (R32 h) → (R32 w) → (-1 ≤ a ∧ a ≤ 299) → (-1 ≤ e ∧ e ≤ 299) → (n = 0 ∨ (0 ≤ a ∧ 0 ≤ e)) → (300 < i + f) → (∀ qx6 : Option PV, (0 ≤ (mo_noon_50 f v h w n a e i).1 ∧ (mo_noon_50 f v h w n a e i).1 ≤ 300) → (-1 ≤ (mo_noon_50 f v h w n a e i).2.1 ∧ (mo_noon_50 f v h w n a e i).2.1 ≤ 299) → (-1 ≤ (mo_noon_50 f v h w n a e i).2.2 ∧ (mo_noon_50 f v h w n a e i).2.2 ≤ 299) → ((mo_noon_50 f v h w n a e i).1 = 0 ∨ (0 ≤ (mo_noon_50 f v h w n a e i).2.1 ∧ 0 ≤ (mo_noon_50 f v h w n a e i).2.2)) → WV X (d + 1 + 1 + 1 + 1 + 1 + 1) 263 101 [some (.inr (.inr (some 203))), some (.inl h), some (.inl w), some (.inl ((mo_noon_50 f v h w n a e i).1)), some (.inl ((mo_noon_50 f v h w n a e i).2.1)), some (.inl ((mo_noon_50 f v h w n a e i).2.2)), qx6] [] b v Q) → WV X (d + 1 + 1 + 1 + 1 + 1 + 1) 263 50 [some (.inr (.inr (some 203))), some (.inl h), some (.inl w), some (.inl n), some (.inl a), some (.inl e), some (.inl i)] [] b v Q := by
  intro f
  induction f with
  | zero =>
    intro v h w n a e i hX hi_0 hi_1 hi_2 hi_3 hi_4 hi_5 hi_6 hf hK
    exfalso
    omega
  | succ f ih =>
    intro v h w n a e i hX hi_0 hi_1 hi_2 hi_3 hi_4 hi_5 hi_6 hf hK
    rw [mo_noon_50] at hK
    refine r_ex 3 (pc' := 56) (lo' := [some (.inr (.inr (some 203))), some (.inl h), some (.inl w), some (.inl n), some (.inl a), some (.inl e), some (.inl i)]) (st' := [.inl (v 203 37), .inl i]) rfl ?_
    have hb_9 : 0 ≤ (v 203 37) ∧ (v 203 37) ≤ 300 := hX 203 37
    refine n_ic_ge (pc0 := 56) (len := 3) (t := 101) rfl (by first | assumption | omega | (unfold R32 at *; omega) | (unfold R64 at *; omega) | (simp only [R32, R64] at *; omega)) (by first | assumption | omega | (unfold R32 at *; omega) | (unfold R64 at *; omega) | (simp only [R32, R64] at *; omega)) (fun h_56 => ?_) (fun h_56 => ?_)
    · show WV _ _ _ 101 _ _ _ _ _
      rw [if_neg h_56] at hK
      exact hK _  (by first | assumption | omega | (unfold R32 at *; omega) | (unfold R64 at *; omega) | (simp only [R32, R64] at *; omega)) (by first | assumption | omega | (unfold R32 at *; omega) | (unfold R64 at *; omega) | (simp only [R32, R64] at *; omega)) (by first | assumption | omega | (unfold R32 at *; omega) | (unfold R64 at *; omega) | (simp only [R32, R64] at *; omega)) (by first | assumption | omega | (unfold R32 at *; omega) | (unfold R64 at *; omega) | (simp only [R32, R64] at *; omega))
    · show WV _ _ _ 59 _ _ _ _ _
      rw [if_pos h_56] at hK
      refine r_ex 3 (pc' := 63) (lo' := [some (.inr (.inr (some 203))), some (.inl h), some (.inl w), some (.inl n), some (.inl a), some (.inl e), some (.inl i)]) (st' := [.inl 2, .inl i, .inr (.inr (some 203))]) rfl ?_
      have hp_10 : 0 ≤ i ∧ i < 300 := (by first | assumption | omega | (unfold R32 at *; omega) | (unfold R64 at *; omega) | (simp only [R32, R64] at *; omega))
      have hp_11 : 0 ≤ (2 : Int) ∧ (2 : Int) < 5 := (by first | assumption | omega | (unfold R32 at *; omega) | (unfold R64 at *; omega) | (simp only [R32, R64] at *; omega))
      refine r_call (m := 254) (args := [.inr (.inr (some 203)), .inl i, .inl 2]) (n' := 263) (pc' := 66) (lo' := [some (.inr (.inr (some 203))), some (.inl h), some (.inl w), some (.inl n), some (.inl a), some (.inl e), some (.inl i)]) (st' := []) (I := .invokevirtual 254) (pc0 := 63) (len := 3) rfl rfl rfl (e_mo_at hX hp_10 hp_11) ?_
      show WV _ _ _ 66 _ [.inl (mo_at v i 2)] _ _ _
      have hb_12 := n_mo_at (v := v) (i := i) (w := 2) hX hp_10 hp_11
      refine r_ex 1 (pc' := 67) (lo' := [some (.inr (.inr (some 203))), some (.inl h), some (.inl w), some (.inl n), some (.inl a), some (.inl e), some (.inl i)]) (st' := [.inl h, .inl (mo_at v i 2)]) rfl ?_
      refine n_ic_eq (pc0 := 67) (len := 3) (t := 73) rfl (by first | assumption | omega | (unfold R32 at *; omega) | (unfold R64 at *; omega) | (simp only [R32, R64] at *; omega)) (by first | assumption | omega | (unfold R32 at *; omega) | (unfold R64 at *; omega) | (simp only [R32, R64] at *; omega)) (fun h_67 => ?_) (fun h_67 => ?_)
      · show WV _ _ _ 73 _ _ _ _ _
        rw [if_pos h_67] at hK
        refine r_ex 2 (pc' := 76) (lo' := [some (.inr (.inr (some 203))), some (.inl h), some (.inl w), some (.inl n), some (.inl a), some (.inl e), some (.inl i)]) (st' := [.inl (-1), .inl a]) rfl ?_
        refine n_ic_ne (pc0 := 76) (len := 3) (t := 84) rfl (by first | assumption | omega | (unfold R32 at *; omega) | (unfold R64 at *; omega) | (simp only [R32, R64] at *; omega)) (by first | assumption | omega | (unfold R32 at *; omega) | (unfold R64 at *; omega) | (simp only [R32, R64] at *; omega)) (fun h_76 => ?_) (fun h_76 => ?_)
        · show WV _ _ _ 84 _ _ _ _ _
          rw [if_neg h_76] at hK
          refine r_ex 7 (pc' := 50) (lo' := [some (.inr (.inr (some 203))), some (.inl h), some (.inl w), some (.inl (n + 1)), some (.inl a), some (.inl i), some (.inl (i + 1))]) (st' := []) rfl ?_
          refine ih v h w (n + 1) a i (i + 1)  hX (by first | assumption | omega | (unfold R32 at *; omega) | (unfold R64 at *; omega) | (simp only [R32, R64] at *; omega)) (by first | assumption | omega | (unfold R32 at *; omega) | (unfold R64 at *; omega) | (simp only [R32, R64] at *; omega)) (by first | assumption | omega | (unfold R32 at *; omega) | (unfold R64 at *; omega) | (simp only [R32, R64] at *; omega)) (by first | assumption | omega | (unfold R32 at *; omega) | (unfold R64 at *; omega) | (simp only [R32, R64] at *; omega)) (by first | assumption | omega | (unfold R32 at *; omega) | (unfold R64 at *; omega) | (simp only [R32, R64] at *; omega)) (by first | assumption | omega | (unfold R32 at *; omega) | (unfold R64 at *; omega) | (simp only [R32, R64] at *; omega)) (by first | assumption | omega | (unfold R32 at *; omega) | (unfold R64 at *; omega) | (simp only [R32, R64] at *; omega)) (by first | assumption | omega | (unfold R32 at *; omega) | (unfold R64 at *; omega) | (simp only [R32, R64] at *; omega)) hK
        · show WV _ _ _ 79 _ _ _ _ _
          rw [if_pos h_76] at hK
          refine r_ex 8 (pc' := 50) (lo' := [some (.inr (.inr (some 203))), some (.inl h), some (.inl w), some (.inl (n + 1)), some (.inl i), some (.inl i), some (.inl (i + 1))]) (st' := []) rfl ?_
          refine ih v h w (n + 1) i i (i + 1)  hX (by first | assumption | omega | (unfold R32 at *; omega) | (unfold R64 at *; omega) | (simp only [R32, R64] at *; omega)) (by first | assumption | omega | (unfold R32 at *; omega) | (unfold R64 at *; omega) | (simp only [R32, R64] at *; omega)) (by first | assumption | omega | (unfold R32 at *; omega) | (unfold R64 at *; omega) | (simp only [R32, R64] at *; omega)) (by first | assumption | omega | (unfold R32 at *; omega) | (unfold R64 at *; omega) | (simp only [R32, R64] at *; omega)) (by first | assumption | omega | (unfold R32 at *; omega) | (unfold R64 at *; omega) | (simp only [R32, R64] at *; omega)) (by first | assumption | omega | (unfold R32 at *; omega) | (unfold R64 at *; omega) | (simp only [R32, R64] at *; omega)) (by first | assumption | omega | (unfold R32 at *; omega) | (unfold R64 at *; omega) | (simp only [R32, R64] at *; omega)) (by first | assumption | omega | (unfold R32 at *; omega) | (unfold R64 at *; omega) | (simp only [R32, R64] at *; omega)) hK
      · show WV _ _ _ 70 _ _ _ _ _
        rw [if_neg h_67] at hK
        refine r_ex 3 (pc' := 50) (lo' := [some (.inr (.inr (some 203))), some (.inl h), some (.inl w), some (.inl n), some (.inl a), some (.inl e), some (.inl (i + 1))]) (st' := []) rfl ?_
        refine ih v h w n a e (i + 1)  hX (by first | assumption | omega | (unfold R32 at *; omega) | (unfold R64 at *; omega) | (simp only [R32, R64] at *; omega)) (by first | assumption | omega | (unfold R32 at *; omega) | (unfold R64 at *; omega) | (simp only [R32, R64] at *; omega)) (by first | assumption | omega | (unfold R32 at *; omega) | (unfold R64 at *; omega) | (simp only [R32, R64] at *; omega)) (by first | assumption | omega | (unfold R32 at *; omega) | (unfold R64 at *; omega) | (simp only [R32, R64] at *; omega)) (by first | assumption | omega | (unfold R32 at *; omega) | (unfold R64 at *; omega) | (simp only [R32, R64] at *; omega)) (by first | assumption | omega | (unfold R32 at *; omega) | (unfold R64 at *; omega) | (simp only [R32, R64] at *; omega)) (by first | assumption | omega | (unfold R32 at *; omega) | (unfold R64 at *; omega) | (simp only [R32, R64] at *; omega)) (by first | assumption | omega | (unfold R32 at *; omega) | (unfold R64 at *; omega) | (simp only [R32, R64] at *; omega)) hK

theorem w_mo_noon {X : PX} {d b : Nat} {v : VS} {h : Int} {w : Int} (hX : XI v) (hp_a : R32 h) (hp_b : R32 w) (hp_c : CF v) {Q : Option PV → Nat → VS → Prop} (hQ : XI (mo_noon v h w).2 → Q (some (.inl (mo_noon v h w).1)) b (mo_noon v h w).2) : WV X (d + 1 + 1 + 1 + 1 + 1 + 1) 263 0 [some (.inr (.inr (some 203))), some (.inl h), some (.inl w), none, none, none, none] [] b v Q := by
  rw [mo_noon] at hQ
  refine r_ex 2 (pc' := 2) (lo' := [some (.inr (.inr (some 203))), some (.inl h), some (.inl w), none, none, none, none]) (st' := [.inl 0, .inr (.inr (some 203))]) rfl ?_
  refine r_puti2 (j := 0) (pc' := 5) (pc0 := 2) (len := 3) rfl (s_203 _) rfl rfl rfl (Or.inl rfl) rfl rfl ?_
  have hX_1 : XI (v2 v 203 0 0) := XI.put hX trivial
  refine r_ex 1 (pc' := 6) (lo' := [some (.inr (.inr (some 203))), some (.inl h), some (.inl w), none, none, none, none]) (st' := [.inr (.inr (some 203))]) rfl ?_
  have hb_2 : 0 ≤ (v 209 0) ∧ (v 209 0) ≤ 2001 := hX_1 209 0
  refine r_callb (P := 0 < (v 209 0)) (m := 245) (args := [.inr (.inr (some 203))]) (n' := 263) (pc' := 9) (lo' := [some (.inr (.inr (some 203))), some (.inl h), some (.inl w), none, none, none, none]) (st' := []) (I := .invokevirtual 245) (pc0 := 6) (len := 3) rfl rfl rfl (e_mo_isBay hX_1) (fun h_6 => ?_) (fun h_6 => ?_)
  · show WV _ _ _ 9 _ _ _ _ _
    rw [if_pos h_6] at hQ
    refine r_ex 2 (pc' := 13) (lo' := [some (.inr (.inr (some 203))), some (.inl h), some (.inl w), none, none, none, none]) (st' := [.inl h]) rfl ?_
    refine n_i2l (pc' := 14) (pc0 := 13) (len := 1) rfl (by first | assumption | omega | (unfold R32 at *; omega) | (unfold R64 at *; omega) | (simp only [R32, R64] at *; omega)) rfl ?_
    have hp_3 : R64 h := (by first | assumption | omega | (unfold R32 at *; omega) | (unfold R64 at *; omega) | (simp only [R32, R64] at *; omega))
    refine r_callb (P := 1 ≤ h ∧ h ≤ 99) (m := 264) (args := [.inr (.inl h)]) (n' := 263) (pc' := 17) (lo' := [some (.inr (.inr (some 203))), some (.inl h), some (.inl w), none, none, none, none]) (st' := []) (I := .invokestatic 264) (pc0 := 14) (len := 3) rfl rfl rfl (e_mo_isHour hX_1 hp_3) (fun h_14 => ?_) (fun h_14 => ?_)
    · show WV _ _ _ 17 _ _ _ _ _
      rw [if_pos h_14] at hQ
      refine r_ex 2 (pc' := 21) (lo' := [some (.inr (.inr (some 203))), some (.inl h), some (.inl w), none, none, none, none]) (st' := [.inl w]) rfl ?_
      refine n_i2l (pc' := 22) (pc0 := 21) (len := 1) rfl (by first | assumption | omega | (unfold R32 at *; omega) | (unfold R64 at *; omega) | (simp only [R32, R64] at *; omega)) rfl ?_
      refine r_ex 2 (pc' := 26) (lo' := [some (.inr (.inr (some 203))), some (.inl h), some (.inl w), none, none, none, none]) (st' := [.inr (.inl 3), .inr (.inl 0), .inr (.inl w)]) rfl ?_
      have hp_4 : R64 w := (by first | assumption | omega | (unfold R32 at *; omega) | (unfold R64 at *; omega) | (simp only [R32, R64] at *; omega))
      have hp_5 : R64 (0 : Int) := (by first | assumption | omega | (unfold R32 at *; omega) | (unfold R64 at *; omega) | (simp only [R32, R64] at *; omega))
      have hp_6 : R64 (3 : Int) := (by first | assumption | omega | (unfold R32 at *; omega) | (unfold R64 at *; omega) | (simp only [R32, R64] at *; omega))
      refine r_callb (P := (0 : Int) ≤ w ∧ w ≤ (3 : Int)) (m := 202) (args := [.inr (.inl w), .inr (.inl 0), .inr (.inl 3)]) (n' := 263) (pc' := 29) (lo' := [some (.inr (.inr (some 203))), some (.inl h), some (.inl w), none, none, none, none]) (st' := []) (I := .invokestatic 202) (pc0 := 26) (len := 3) rfl rfl rfl (e_mo_in hX_1 hp_4 hp_5 hp_6) (fun h_26 => ?_) (fun h_26 => ?_)
      · show WV _ _ _ 29 _ _ _ _ _
        rw [if_pos h_26] at hQ
        refine r_ex 2 (pc' := 36) (lo' := [some (.inr (.inr (some 203))), some (.inl h), some (.inl w), none, none, none, none]) (st' := [.inr (.inr (some 203))]) rfl ?_
        have hp_7 : CF (v2 v 203 0 0) := show CF (v2 v 203 0 0) from (show CF (v2 v 203 0 0) from CF.of hp_c (fun k h1 h2 => by rw [v2_row (by omega)]))
        refine r_call (m := 246) (args := [.inr (.inr (some 203))]) (n' := 263) (pc' := 39) (lo' := [some (.inr (.inr (some 203))), some (.inl h), some (.inl w), none, none, none, none]) (st' := []) (I := .invokevirtual 246) (pc0 := 36) (len := 3) rfl rfl rfl (e_mo_told hX_1 hp_7) ?_
        show WV _ _ _ 39 _ [] _ (mo_told (v2 v 203 0 0)) _
        have hX_8 : XI (mo_told (v2 v 203 0 0)) := i_mo_told (v := (v2 v 203 0 0)) hX_1 hp_7
        refine r_ex 8 (pc' := 50) (lo' := [some (.inr (.inr (some 203))), some (.inl h), some (.inl w), some (.inl 0), some (.inl (-1)), some (.inl (-1)), some (.inl 0)]) (st' := []) rfl ?_
        refine l_mo_noon_50 301 (mo_told (v2 v 203 0 0)) h w 0 (-1) (-1) 0  hX_8 (by first | assumption | omega | (unfold R32 at *; omega) | (unfold R64 at *; omega) | (simp only [R32, R64] at *; omega)) (by first | assumption | omega | (unfold R32 at *; omega) | (unfold R64 at *; omega) | (simp only [R32, R64] at *; omega)) (by first | assumption | omega | (unfold R32 at *; omega) | (unfold R64 at *; omega) | (simp only [R32, R64] at *; omega)) (by first | assumption | omega | (unfold R32 at *; omega) | (unfold R64 at *; omega) | (simp only [R32, R64] at *; omega)) (by first | assumption | omega | (unfold R32 at *; omega) | (unfold R64 at *; omega) | (simp only [R32, R64] at *; omega)) (by first | assumption | omega | (unfold R32 at *; omega) | (unfold R64 at *; omega) | (simp only [R32, R64] at *; omega)) (by first | assumption | omega | (unfold R32 at *; omega) | (unfold R64 at *; omega) | (simp only [R32, R64] at *; omega)) (by first | assumption | omega | (unfold R32 at *; omega) | (unfold R64 at *; omega) | (simp only [R32, R64] at *; omega)) (fun o6_13  hv_13_0 hv_13_1 hv_13_2 hv_13_3 => ?_)
        show WV _ _ _ 101 _ _ _ _ _
        refine r_ex 2 (pc' := 103) (lo' := [some (.inr (.inr (some 203))), some (.inl h), some (.inl w), some (.inl ((mo_noon_50 301 (mo_told (v2 v 203 0 0)) h w 0 (-1) (-1) 0).1)), some (.inl ((mo_noon_50 301 (mo_told (v2 v 203 0 0)) h w 0 (-1) (-1) 0).2.1)), some (.inl ((mo_noon_50 301 (mo_told (v2 v 203 0 0)) h w 0 (-1) (-1) 0).2.2)), o6_13]) (st' := [.inl 3, .inl w]) rfl ?_
        refine n_ic_eq (pc0 := 103) (len := 3) (t := 110) rfl (by first | assumption | omega | (unfold R32 at *; omega) | (unfold R64 at *; omega) | (simp only [R32, R64] at *; omega)) (by first | assumption | omega | (unfold R32 at *; omega) | (unfold R64 at *; omega) | (simp only [R32, R64] at *; omega)) (fun h_103 => ?_) (fun h_103 => ?_)
        · show WV _ _ _ 110 _ _ _ _ _
          rw [if_pos h_103] at hQ
          refine r_ex 2 (pc' := 112) (lo' := [some (.inr (.inr (some 203))), some (.inl h), some (.inl w), some (.inl ((mo_noon_50 301 (mo_told (v2 v 203 0 0)) h w 0 (-1) (-1) 0).1)), some (.inl ((mo_noon_50 301 (mo_told (v2 v 203 0 0)) h w 0 (-1) (-1) 0).2.1)), some (.inl ((mo_noon_50 301 (mo_told (v2 v 203 0 0)) h w 0 (-1) (-1) 0).2.2)), o6_13]) (st' := [.inl 3, .inl w]) rfl ?_
          refine n_ic_ne (pc0 := 112) (len := 3) (t := 119) rfl (by first | assumption | omega | (unfold R32 at *; omega) | (unfold R64 at *; omega) | (simp only [R32, R64] at *; omega)) (by first | assumption | omega | (unfold R32 at *; omega) | (unfold R64 at *; omega) | (simp only [R32, R64] at *; omega)) (fun h_112 => ?_) (fun h_112 => ?_)
          · show WV _ _ _ 119 _ _ _ _ _
            rw [if_neg h_112] at hQ
            refine r_ex 1 (pc' := 120) (lo' := [some (.inr (.inr (some 203))), some (.inl h), some (.inl w), some (.inl ((mo_noon_50 301 (mo_told (v2 v 203 0 0)) h w 0 (-1) (-1) 0).1)), some (.inl ((mo_noon_50 301 (mo_told (v2 v 203 0 0)) h w 0 (-1) (-1) 0).2.1)), some (.inl ((mo_noon_50 301 (mo_told (v2 v 203 0 0)) h w 0 (-1) (-1) 0).2.2)), o6_13]) (st' := [.inl (-1)]) rfl ?_
            refine r_ret (rr := some (.inl (-1))) (I := .ireturn) (pc0 := 120) (len := 1) rfl rfl ?_
            exact hQ hX_8 
          · show WV _ _ _ 115 _ _ _ _ _
            rw [if_pos h_112] at hQ
            refine r_ex 2 (pc' := 120) (lo' := [some (.inr (.inr (some 203))), some (.inl h), some (.inl w), some (.inl ((mo_noon_50 301 (mo_told (v2 v 203 0 0)) h w 0 (-1) (-1) 0).1)), some (.inl ((mo_noon_50 301 (mo_told (v2 v 203 0 0)) h w 0 (-1) (-1) 0).2.1)), some (.inl ((mo_noon_50 301 (mo_told (v2 v 203 0 0)) h w 0 (-1) (-1) 0).2.2)), o6_13]) (st' := [.inl ((mo_noon_50 301 (mo_told (v2 v 203 0 0)) h w 0 (-1) (-1) 0).1)]) rfl ?_
            refine r_ret (rr := some (.inl ((mo_noon_50 301 (mo_told (v2 v 203 0 0)) h w 0 (-1) (-1) 0).1))) (I := .ireturn) (pc0 := 120) (len := 1) rfl rfl ?_
            exact hQ hX_8 
        · show WV _ _ _ 106 _ _ _ _ _
          rw [if_neg h_103] at hQ
          refine r_ex 1 (pc' := 107) (lo' := [some (.inr (.inr (some 203))), some (.inl h), some (.inl w), some (.inl ((mo_noon_50 301 (mo_told (v2 v 203 0 0)) h w 0 (-1) (-1) 0).1)), some (.inl ((mo_noon_50 301 (mo_told (v2 v 203 0 0)) h w 0 (-1) (-1) 0).2.1)), some (.inl ((mo_noon_50 301 (mo_told (v2 v 203 0 0)) h w 0 (-1) (-1) 0).2.2)), o6_13]) (st' := [.inl ((mo_noon_50 301 (mo_told (v2 v 203 0 0)) h w 0 (-1) (-1) 0).1)]) rfl ?_
          refine n_if_ne (pc0 := 107) (len := 3) (t := 121) rfl (by first | assumption | omega | (unfold R32 at *; omega) | (unfold R64 at *; omega) | (simp only [R32, R64] at *; omega)) (fun h_107 => ?_) (fun h_107 => ?_)
          · show WV _ _ _ 121 _ _ _ _ _
            rw [if_neg h_107] at hQ
            refine r_ex 2 (pc' := 123) (lo' := [some (.inr (.inr (some 203))), some (.inl h), some (.inl w), some (.inl ((mo_noon_50 301 (mo_told (v2 v 203 0 0)) h w 0 (-1) (-1) 0).1)), some (.inl ((mo_noon_50 301 (mo_told (v2 v 203 0 0)) h w 0 (-1) (-1) 0).2.1)), some (.inl ((mo_noon_50 301 (mo_told (v2 v 203 0 0)) h w 0 (-1) (-1) 0).2.2)), o6_13]) (st' := [.inl 2, .inl w]) rfl ?_
            refine n_ic_ne (pc0 := 123) (len := 3) (t := 136) rfl (by first | assumption | omega | (unfold R32 at *; omega) | (unfold R64 at *; omega) | (simp only [R32, R64] at *; omega)) (by first | assumption | omega | (unfold R32 at *; omega) | (unfold R64 at *; omega) | (simp only [R32, R64] at *; omega)) (fun h_123 => ?_) (fun h_123 => ?_)
            · show WV _ _ _ 136 _ _ _ _ _
              rw [if_neg h_123] at hQ
              refine r_ex 3 (pc' := 140) (lo' := [some (.inr (.inr (some 203))), some (.inl h), some (.inl w), some (.inl ((mo_noon_50 301 (mo_told (v2 v 203 0 0)) h w 0 (-1) (-1) 0).1)), some (.inl ((mo_noon_50 301 (mo_told (v2 v 203 0 0)) h w 0 (-1) (-1) 0).2.1)), some (.inl ((mo_noon_50 301 (mo_told (v2 v 203 0 0)) h w 0 (-1) (-1) 0).2.2)), o6_13]) (st' := [.inl w, .inl ((mo_noon_50 301 (mo_told (v2 v 203 0 0)) h w 0 (-1) (-1) 0).2.1), .inr (.inr (some 203))]) rfl ?_
              have hp_14 : 0 ≤ ((mo_noon_50 301 (mo_told (v2 v 203 0 0)) h w 0 (-1) (-1) 0).2.1) ∧ ((mo_noon_50 301 (mo_told (v2 v 203 0 0)) h w 0 (-1) (-1) 0).2.1) < 300 := (by first | assumption | omega | (unfold R32 at *; omega) | (unfold R64 at *; omega) | (simp only [R32, R64] at *; omega))
              have hp_15 : 0 ≤ w ∧ w < 5 := (by first | assumption | omega | (unfold R32 at *; omega) | (unfold R64 at *; omega) | (simp only [R32, R64] at *; omega))
              refine r_call (m := 254) (args := [.inr (.inr (some 203)), .inl ((mo_noon_50 301 (mo_told (v2 v 203 0 0)) h w 0 (-1) (-1) 0).2.1), .inl w]) (n' := 263) (pc' := 143) (lo' := [some (.inr (.inr (some 203))), some (.inl h), some (.inl w), some (.inl ((mo_noon_50 301 (mo_told (v2 v 203 0 0)) h w 0 (-1) (-1) 0).1)), some (.inl ((mo_noon_50 301 (mo_told (v2 v 203 0 0)) h w 0 (-1) (-1) 0).2.1)), some (.inl ((mo_noon_50 301 (mo_told (v2 v 203 0 0)) h w 0 (-1) (-1) 0).2.2)), o6_13]) (st' := []) (I := .invokevirtual 254) (pc0 := 140) (len := 3) rfl rfl rfl (e_mo_at hX_8 hp_14 hp_15) ?_
              show WV _ _ _ 143 _ [.inl (mo_at (mo_told (v2 v 203 0 0)) ((mo_noon_50 301 (mo_told (v2 v 203 0 0)) h w 0 (-1) (-1) 0).2.1) w)] _ _ _
              have hb_16 := n_mo_at (v := (mo_told (v2 v 203 0 0))) (i := (mo_noon_50 301 (mo_told (v2 v 203 0 0)) h w 0 (-1) (-1) 0).2.1) (w := w) hX_8 hp_14 hp_15
              refine r_ret (rr := some (.inl (mo_at (mo_told (v2 v 203 0 0)) ((mo_noon_50 301 (mo_told (v2 v 203 0 0)) h w 0 (-1) (-1) 0).2.1) w))) (I := .ireturn) (pc0 := 143) (len := 1) rfl rfl ?_
              exact hQ hX_8 
            · show WV _ _ _ 126 _ _ _ _ _
              rw [if_pos h_123] at hQ
              refine r_ex 3 (pc' := 130) (lo' := [some (.inr (.inr (some 203))), some (.inl h), some (.inl w), some (.inl ((mo_noon_50 301 (mo_told (v2 v 203 0 0)) h w 0 (-1) (-1) 0).1)), some (.inl ((mo_noon_50 301 (mo_told (v2 v 203 0 0)) h w 0 (-1) (-1) 0).2.1)), some (.inl ((mo_noon_50 301 (mo_told (v2 v 203 0 0)) h w 0 (-1) (-1) 0).2.2)), o6_13]) (st' := [.inl 0, .inl ((mo_noon_50 301 (mo_told (v2 v 203 0 0)) h w 0 (-1) (-1) 0).2.2), .inr (.inr (some 203))]) rfl ?_
              have hp_17 : 0 ≤ ((mo_noon_50 301 (mo_told (v2 v 203 0 0)) h w 0 (-1) (-1) 0).2.2) ∧ ((mo_noon_50 301 (mo_told (v2 v 203 0 0)) h w 0 (-1) (-1) 0).2.2) < 300 := (by first | assumption | omega | (unfold R32 at *; omega) | (unfold R64 at *; omega) | (simp only [R32, R64] at *; omega))
              have hp_18 : 0 ≤ (0 : Int) ∧ (0 : Int) < 5 := (by first | assumption | omega | (unfold R32 at *; omega) | (unfold R64 at *; omega) | (simp only [R32, R64] at *; omega))
              refine r_call (m := 254) (args := [.inr (.inr (some 203)), .inl ((mo_noon_50 301 (mo_told (v2 v 203 0 0)) h w 0 (-1) (-1) 0).2.2), .inl 0]) (n' := 263) (pc' := 133) (lo' := [some (.inr (.inr (some 203))), some (.inl h), some (.inl w), some (.inl ((mo_noon_50 301 (mo_told (v2 v 203 0 0)) h w 0 (-1) (-1) 0).1)), some (.inl ((mo_noon_50 301 (mo_told (v2 v 203 0 0)) h w 0 (-1) (-1) 0).2.1)), some (.inl ((mo_noon_50 301 (mo_told (v2 v 203 0 0)) h w 0 (-1) (-1) 0).2.2)), o6_13]) (st' := []) (I := .invokevirtual 254) (pc0 := 130) (len := 3) rfl rfl rfl (e_mo_at hX_8 hp_17 hp_18) ?_
              show WV _ _ _ 133 _ [.inl (mo_at (mo_told (v2 v 203 0 0)) ((mo_noon_50 301 (mo_told (v2 v 203 0 0)) h w 0 (-1) (-1) 0).2.2) 0)] _ _ _
              have hb_19 := n_mo_at (v := (mo_told (v2 v 203 0 0))) (i := (mo_noon_50 301 (mo_told (v2 v 203 0 0)) h w 0 (-1) (-1) 0).2.2) (w := 0) hX_8 hp_17 hp_18
              refine r_ex 1 (pc' := 143) (lo' := [some (.inr (.inr (some 203))), some (.inl h), some (.inl w), some (.inl ((mo_noon_50 301 (mo_told (v2 v 203 0 0)) h w 0 (-1) (-1) 0).1)), some (.inl ((mo_noon_50 301 (mo_told (v2 v 203 0 0)) h w 0 (-1) (-1) 0).2.1)), some (.inl ((mo_noon_50 301 (mo_told (v2 v 203 0 0)) h w 0 (-1) (-1) 0).2.2)), o6_13]) (st' := [.inl (mo_at (mo_told (v2 v 203 0 0)) ((mo_noon_50 301 (mo_told (v2 v 203 0 0)) h w 0 (-1) (-1) 0).2.2) 0)]) rfl ?_
              refine r_ret (rr := some (.inl (mo_at (mo_told (v2 v 203 0 0)) ((mo_noon_50 301 (mo_told (v2 v 203 0 0)) h w 0 (-1) (-1) 0).2.2) 0))) (I := .ireturn) (pc0 := 143) (len := 1) rfl rfl ?_
              exact hQ hX_8 
          · show WV _ _ _ 110 _ _ _ _ _
            rw [if_pos h_107] at hQ
            refine r_ex 2 (pc' := 112) (lo' := [some (.inr (.inr (some 203))), some (.inl h), some (.inl w), some (.inl ((mo_noon_50 301 (mo_told (v2 v 203 0 0)) h w 0 (-1) (-1) 0).1)), some (.inl ((mo_noon_50 301 (mo_told (v2 v 203 0 0)) h w 0 (-1) (-1) 0).2.1)), some (.inl ((mo_noon_50 301 (mo_told (v2 v 203 0 0)) h w 0 (-1) (-1) 0).2.2)), o6_13]) (st' := [.inl 3, .inl w]) rfl ?_
            refine n_ic_ne (pc0 := 112) (len := 3) (t := 119) rfl (by first | assumption | omega | (unfold R32 at *; omega) | (unfold R64 at *; omega) | (simp only [R32, R64] at *; omega)) (by first | assumption | omega | (unfold R32 at *; omega) | (unfold R64 at *; omega) | (simp only [R32, R64] at *; omega)) (fun h_112 => ?_) (fun h_112 => ?_)
            · show WV _ _ _ 119 _ _ _ _ _
              rw [if_neg h_112] at hQ
              refine r_ex 1 (pc' := 120) (lo' := [some (.inr (.inr (some 203))), some (.inl h), some (.inl w), some (.inl ((mo_noon_50 301 (mo_told (v2 v 203 0 0)) h w 0 (-1) (-1) 0).1)), some (.inl ((mo_noon_50 301 (mo_told (v2 v 203 0 0)) h w 0 (-1) (-1) 0).2.1)), some (.inl ((mo_noon_50 301 (mo_told (v2 v 203 0 0)) h w 0 (-1) (-1) 0).2.2)), o6_13]) (st' := [.inl (-1)]) rfl ?_
              refine r_ret (rr := some (.inl (-1))) (I := .ireturn) (pc0 := 120) (len := 1) rfl rfl ?_
              exact hQ hX_8 
            · show WV _ _ _ 115 _ _ _ _ _
              rw [if_pos h_112] at hQ
              refine r_ex 2 (pc' := 120) (lo' := [some (.inr (.inr (some 203))), some (.inl h), some (.inl w), some (.inl ((mo_noon_50 301 (mo_told (v2 v 203 0 0)) h w 0 (-1) (-1) 0).1)), some (.inl ((mo_noon_50 301 (mo_told (v2 v 203 0 0)) h w 0 (-1) (-1) 0).2.1)), some (.inl ((mo_noon_50 301 (mo_told (v2 v 203 0 0)) h w 0 (-1) (-1) 0).2.2)), o6_13]) (st' := [.inl ((mo_noon_50 301 (mo_told (v2 v 203 0 0)) h w 0 (-1) (-1) 0).1)]) rfl ?_
              refine r_ret (rr := some (.inl ((mo_noon_50 301 (mo_told (v2 v 203 0 0)) h w 0 (-1) (-1) 0).1))) (I := .ireturn) (pc0 := 120) (len := 1) rfl rfl ?_
              exact hQ hX_8 
      · show WV _ _ _ 29 _ _ _ _ _
        rw [if_neg h_26] at hQ
        refine r_ex 2 (pc' := 34) (lo' := [some (.inr (.inr (some 203))), some (.inl h), some (.inl w), none, none, none, none]) (st' := [.inl (-2)]) rfl ?_
        refine r_ret (rr := some (.inl (-2))) (I := .ireturn) (pc0 := 34) (len := 1) rfl rfl ?_
        exact hQ hX_1 
    · show WV _ _ _ 17 _ _ _ _ _
      rw [if_neg h_14] at hQ
      refine r_ex 2 (pc' := 34) (lo' := [some (.inr (.inr (some 203))), some (.inl h), some (.inl w), none, none, none, none]) (st' := [.inl (-2)]) rfl ?_
      refine r_ret (rr := some (.inl (-2))) (I := .ireturn) (pc0 := 34) (len := 1) rfl rfl ?_
      exact hQ hX_1 
  · show WV _ _ _ 9 _ _ _ _ _
    rw [if_neg h_6] at hQ
    refine r_ex 2 (pc' := 34) (lo' := [some (.inr (.inr (some 203))), some (.inl h), some (.inl w), none, none, none, none]) (st' := [.inl (-2)]) rfl ?_
    refine r_ret (rr := some (.inl (-2))) (I := .ireturn) (pc0 := 34) (len := 1) rfl rfl ?_
    exact hQ hX_1 

theorem e_mo_noon {X : PX} {d b : Nat} {v : VS} {h : Int} {w : Int} (hX : XI v) (hp_a : R32 h) (hp_b : R32 w) (hp_c : CF v) : EvV X (d + 1 + 1 + 1 + 1 + 1 + 1) 263 [.inr (.inr (some 203)), .inl h, .inl w] b v (some (.inl (mo_noon v h w).1)) b ((mo_noon v h w).2) := EvV.of (w_mo_noon hX hp_a hp_b hp_c (fun _ => ⟨rfl, rfl, rfl⟩))

theorem i_mo_noon {v : VS} {h : Int} {w : Int} (hX : XI v) (hp_a : R32 h) (hp_b : R32 w) (hp_c : CF v) : XI ((mo_noon v h w).2) := by
  have q : WV (0, fun _ => 0, none) (0 + 1 + 1 + 1 + 1 + 1 + 1) 263 0 [some (.inr (.inr (some 203))), some (.inl h), some (.inl w), none, none, none, none] [] 1 v (fun _ _ _ => XI ((mo_noon v h w).2)) := w_mo_noon (X := (0, fun _ => 0, none)) (d := 0) (b := 1) hX hp_a hp_b hp_c (fun q => q)
  obtain ⟨_, _, _, _, _, _, _, q⟩ := q
  exact q

theorem o_mo_noon {rk : Nat} {v : VS} {h : Int} {w : Int} (hk : (rk < 203 ∨ 203 < rk) ∧ (rk < 219 ∨ 231 < rk)) : (mo_noon v h w).2 rk = v rk := by
  unfold mo_noon
  by_cases hc_ : 0 < (v 209 0)
  · rw [if_pos hc_] <;> clear hc_
    by_cases hc_ : 1 ≤ h ∧ h ≤ 99
    · rw [if_pos hc_] <;> clear hc_
      by_cases hc_ : (0 : Int) ≤ w ∧ w ≤ (3 : Int)
      · rw [if_pos hc_] <;> clear hc_
        by_cases hc_ : w = 3
        · rw [if_pos hc_] <;> clear hc_
          by_cases hc_ : w = 3
          · rw [if_pos hc_] <;> clear hc_
            all_goals (show (mo_told (v2 v 203 0 0)) rk = _)
            all_goals (rw [o_mo_told (by omega), v2_row (by omega)])
          · rw [if_neg hc_] <;> clear hc_
            all_goals (show (mo_told (v2 v 203 0 0)) rk = _)
            all_goals (rw [o_mo_told (by omega), v2_row (by omega)])
        · rw [if_neg hc_] <;> clear hc_
          by_cases hc_ : (mo_noon_50 301 (mo_told (v2 v 203 0 0)) h w 0 (-1) (-1) 0).1 = 0
          · rw [if_pos hc_] <;> clear hc_
            by_cases hc_ : w = 3
            · rw [if_pos hc_] <;> clear hc_
              all_goals (show (mo_told (v2 v 203 0 0)) rk = _)
              all_goals (rw [o_mo_told (by omega), v2_row (by omega)])
            · rw [if_neg hc_] <;> clear hc_
              all_goals (show (mo_told (v2 v 203 0 0)) rk = _)
              all_goals (rw [o_mo_told (by omega), v2_row (by omega)])
          · rw [if_neg hc_] <;> clear hc_
            by_cases hc_ : w = 2
            · rw [if_pos hc_] <;> clear hc_
              all_goals (show (mo_told (v2 v 203 0 0)) rk = _)
              all_goals (rw [o_mo_told (by omega), v2_row (by omega)])
            · rw [if_neg hc_] <;> clear hc_
              all_goals (show (mo_told (v2 v 203 0 0)) rk = _)
              all_goals (rw [o_mo_told (by omega), v2_row (by omega)])
      · rw [if_neg hc_] <;> clear hc_
        all_goals (show (v2 v 203 0 0) rk = _)
        all_goals (rw [v2_row (by omega)])
    · rw [if_neg hc_] <;> clear hc_
      all_goals (show (v2 v 203 0 0) rk = _)
      all_goals (rw [v2_row (by omega)])
  · rw [if_neg hc_] <;> clear hc_
    all_goals (show (v2 v 203 0 0) rk = _)
    all_goals (rw [v2_row (by omega)])

noncomputable def mo_ship (v : VS) (c : Int) (o : Int) (s : Int) : Int × VS :=
  (if 0 ≤ c ∧ c < (v 210 0) then (if 0 ≤ o ∧ o < (v 210 0) then (if c = o then ((-2000000), (v2 v 203 0 0)) else (if 0 ≤ s ∧ s < (v 210 1) then (((mo_hourOf (mo_told (v2 v 203 0 0)) c s) - (mo_hourOf (mo_told (v2 v 203 0 0)) o s)), (mo_told (v2 v 203 0 0))) else ((-2000000), (v2 v 203 0 0)))) else ((-2000000), (v2 v 203 0 0))) else ((-2000000), (v2 v 203 0 0)))
theorem w_mo_ship {X : PX} {d b : Nat} {v : VS} {c : Int} {o : Int} {s : Int} (hX : XI v) (hp_a : R32 c) (hp_b : R32 o) (hp_c : R32 s) (hp_d : CF v) {Q : Option PV → Nat → VS → Prop} (hQ : XI (mo_ship v c o s).2 → Q (some (.inl (mo_ship v c o s).1)) b (mo_ship v c o s).2) : WV X (d + 1 + 1 + 1 + 1 + 1 + 1) 265 0 [some (.inr (.inr (some 203))), some (.inl c), some (.inl o), some (.inl s)] [] b v Q := by
  rw [mo_ship] at hQ
  refine r_ex 2 (pc' := 2) (lo' := [some (.inr (.inr (some 203))), some (.inl c), some (.inl o), some (.inl s)]) (st' := [.inl 0, .inr (.inr (some 203))]) rfl ?_
  refine r_puti2 (j := 0) (pc' := 5) (pc0 := 2) (len := 3) rfl (s_203 _) rfl rfl rfl (Or.inl rfl) rfl rfl ?_
  have hX_1 : XI (v2 v 203 0 0) := XI.put hX trivial
  refine r_ex 2 (pc' := 7) (lo' := [some (.inr (.inr (some 203))), some (.inl c), some (.inl o), some (.inl s)]) (st' := [.inl c, .inr (.inr (some 203))]) rfl ?_
  refine n_i2l (pc' := 8) (pc0 := 7) (len := 1) rfl (by first | assumption | omega | (unfold R32 at *; omega) | (unfold R64 at *; omega) | (simp only [R32, R64] at *; omega)) rfl ?_
  have hp_2 : R64 c := (by first | assumption | omega | (unfold R32 at *; omega) | (unfold R64 at *; omega) | (simp only [R32, R64] at *; omega))
  have hb_3 : 0 ≤ (v 210 0) ∧ (v 210 0) ≤ 9 := hX_1 210 0
  refine r_callb (P := 0 ≤ c ∧ c < (v 210 0)) (m := 236) (args := [.inr (.inr (some 203)), .inr (.inl c)]) (n' := 265) (pc' := 11) (lo' := [some (.inr (.inr (some 203))), some (.inl c), some (.inl o), some (.inl s)]) (st' := []) (I := .invokevirtual 236) (pc0 := 8) (len := 3) rfl rfl rfl (e_mo_isChurch hX_1 hp_2) (fun h_8 => ?_) (fun h_8 => ?_)
  · show WV _ _ _ 11 _ _ _ _ _
    rw [if_pos h_8] at hQ
    refine r_ex 3 (pc' := 16) (lo' := [some (.inr (.inr (some 203))), some (.inl c), some (.inl o), some (.inl s)]) (st' := [.inl o, .inr (.inr (some 203))]) rfl ?_
    refine n_i2l (pc' := 17) (pc0 := 16) (len := 1) rfl (by first | assumption | omega | (unfold R32 at *; omega) | (unfold R64 at *; omega) | (simp only [R32, R64] at *; omega)) rfl ?_
    have hp_4 : R64 o := (by first | assumption | omega | (unfold R32 at *; omega) | (unfold R64 at *; omega) | (simp only [R32, R64] at *; omega))
    refine r_callb (P := 0 ≤ o ∧ o < (v 210 0)) (m := 236) (args := [.inr (.inr (some 203)), .inr (.inl o)]) (n' := 265) (pc' := 20) (lo' := [some (.inr (.inr (some 203))), some (.inl c), some (.inl o), some (.inl s)]) (st' := []) (I := .invokevirtual 236) (pc0 := 17) (len := 3) rfl rfl rfl (e_mo_isChurch hX_1 hp_4) (fun h_17 => ?_) (fun h_17 => ?_)
    · show WV _ _ _ 20 _ _ _ _ _
      rw [if_pos h_17] at hQ
      refine r_ex 3 (pc' := 25) (lo' := [some (.inr (.inr (some 203))), some (.inl c), some (.inl o), some (.inl s)]) (st' := [.inl o, .inl c]) rfl ?_
      refine n_ic_eq (pc0 := 25) (len := 3) (t := 37) rfl (by first | assumption | omega | (unfold R32 at *; omega) | (unfold R64 at *; omega) | (simp only [R32, R64] at *; omega)) (by first | assumption | omega | (unfold R32 at *; omega) | (unfold R64 at *; omega) | (simp only [R32, R64] at *; omega)) (fun h_25 => ?_) (fun h_25 => ?_)
      · show WV _ _ _ 37 _ _ _ _ _
        rw [if_pos h_25] at hQ
        refine r_ex 1 (pc' := 40) (lo' := [some (.inr (.inr (some 203))), some (.inl c), some (.inl o), some (.inl s)]) (st' := [.inl (-2000000)]) rfl ?_
        refine r_ret (rr := some (.inl (-2000000))) (I := .ireturn) (pc0 := 40) (len := 1) rfl rfl ?_
        exact hQ hX_1 
      · show WV _ _ _ 28 _ _ _ _ _
        rw [if_neg h_25] at hQ
        refine r_ex 2 (pc' := 30) (lo' := [some (.inr (.inr (some 203))), some (.inl c), some (.inl o), some (.inl s)]) (st' := [.inl s, .inr (.inr (some 203))]) rfl ?_
        refine n_i2l (pc' := 31) (pc0 := 30) (len := 1) rfl (by first | assumption | omega | (unfold R32 at *; omega) | (unfold R64 at *; omega) | (simp only [R32, R64] at *; omega)) rfl ?_
        have hp_5 : R64 s := (by first | assumption | omega | (unfold R32 at *; omega) | (unfold R64 at *; omega) | (simp only [R32, R64] at *; omega))
        have hb_6 : 0 ≤ (v 210 1) ∧ (v 210 1) ≤ 300 := hX_1 210 1
        refine r_callb (P := 0 ≤ s ∧ s < (v 210 1)) (m := 240) (args := [.inr (.inr (some 203)), .inr (.inl s)]) (n' := 265) (pc' := 34) (lo' := [some (.inr (.inr (some 203))), some (.inl c), some (.inl o), some (.inl s)]) (st' := []) (I := .invokevirtual 240) (pc0 := 31) (len := 3) rfl rfl rfl (e_mo_isSecond hX_1 hp_5) (fun h_31 => ?_) (fun h_31 => ?_)
        · show WV _ _ _ 34 _ _ _ _ _
          rw [if_pos h_31] at hQ
          refine r_ex 2 (pc' := 42) (lo' := [some (.inr (.inr (some 203))), some (.inl c), some (.inl o), some (.inl s)]) (st' := [.inr (.inr (some 203))]) rfl ?_
          have hp_7 : CF (v2 v 203 0 0) := show CF (v2 v 203 0 0) from (show CF (v2 v 203 0 0) from CF.of hp_d (fun k h1 h2 => by rw [v2_row (by omega)]))
          refine r_call (m := 246) (args := [.inr (.inr (some 203))]) (n' := 265) (pc' := 45) (lo' := [some (.inr (.inr (some 203))), some (.inl c), some (.inl o), some (.inl s)]) (st' := []) (I := .invokevirtual 246) (pc0 := 42) (len := 3) rfl rfl rfl (e_mo_told hX_1 hp_7) ?_
          show WV _ _ _ 45 _ [] _ (mo_told (v2 v 203 0 0)) _
          have hX_8 : XI (mo_told (v2 v 203 0 0)) := i_mo_told (v := (v2 v 203 0 0)) hX_1 hp_7
          refine r_ex 3 (pc' := 48) (lo' := [some (.inr (.inr (some 203))), some (.inl c), some (.inl o), some (.inl s)]) (st' := [.inl s, .inl c, .inr (.inr (some 203))]) rfl ?_
          have hp_9 : R32 c := (by first | assumption | omega | (unfold R32 at *; omega) | (unfold R64 at *; omega) | (simp only [R32, R64] at *; omega))
          have hp_10 : R32 s := (by first | assumption | omega | (unfold R32 at *; omega) | (unfold R64 at *; omega) | (simp only [R32, R64] at *; omega))
          refine r_call (m := 257) (args := [.inr (.inr (some 203)), .inl c, .inl s]) (n' := 265) (pc' := 51) (lo' := [some (.inr (.inr (some 203))), some (.inl c), some (.inl o), some (.inl s)]) (st' := []) (I := .invokevirtual 257) (pc0 := 48) (len := 3) rfl rfl rfl (e_mo_hourOf hX_8 hp_9 hp_10) ?_
          show WV _ _ _ 51 _ [.inl (mo_hourOf (mo_told (v2 v 203 0 0)) c s)] _ _ _
          have hb_11 := n_mo_hourOf (v := (mo_told (v2 v 203 0 0))) (c := c) (t := s) hX_8 hp_9 hp_10
          refine r_ex 3 (pc' := 54) (lo' := [some (.inr (.inr (some 203))), some (.inl c), some (.inl o), some (.inl s)]) (st' := [.inl s, .inl o, .inr (.inr (some 203)), .inl (mo_hourOf (mo_told (v2 v 203 0 0)) c s)]) rfl ?_
          have hp_12 : R32 o := (by first | assumption | omega | (unfold R32 at *; omega) | (unfold R64 at *; omega) | (simp only [R32, R64] at *; omega))
          have hp_13 : R32 s := (by first | assumption | omega | (unfold R32 at *; omega) | (unfold R64 at *; omega) | (simp only [R32, R64] at *; omega))
          refine r_call (m := 257) (args := [.inr (.inr (some 203)), .inl o, .inl s]) (n' := 265) (pc' := 57) (lo' := [some (.inr (.inr (some 203))), some (.inl c), some (.inl o), some (.inl s)]) (st' := [.inl (mo_hourOf (mo_told (v2 v 203 0 0)) c s)]) (I := .invokevirtual 257) (pc0 := 54) (len := 3) rfl rfl rfl (e_mo_hourOf hX_8 hp_12 hp_13) ?_
          show WV _ _ _ 57 _ [.inl (mo_hourOf (mo_told (v2 v 203 0 0)) o s), .inl (mo_hourOf (mo_told (v2 v 203 0 0)) c s)] _ _ _
          have hb_14 := n_mo_hourOf (v := (mo_told (v2 v 203 0 0))) (c := o) (t := s) hX_8 hp_12 hp_13
          refine r_ex 1 (pc' := 58) (lo' := [some (.inr (.inr (some 203))), some (.inl c), some (.inl o), some (.inl s)]) (st' := [.inl ((mo_hourOf (mo_told (v2 v 203 0 0)) c s) - (mo_hourOf (mo_told (v2 v 203 0 0)) o s))]) rfl ?_
          refine r_ret (rr := some (.inl ((mo_hourOf (mo_told (v2 v 203 0 0)) c s) - (mo_hourOf (mo_told (v2 v 203 0 0)) o s)))) (I := .ireturn) (pc0 := 58) (len := 1) rfl rfl ?_
          exact hQ hX_8 
        · show WV _ _ _ 34 _ _ _ _ _
          rw [if_neg h_31] at hQ
          refine r_ex 2 (pc' := 40) (lo' := [some (.inr (.inr (some 203))), some (.inl c), some (.inl o), some (.inl s)]) (st' := [.inl (-2000000)]) rfl ?_
          refine r_ret (rr := some (.inl (-2000000))) (I := .ireturn) (pc0 := 40) (len := 1) rfl rfl ?_
          exact hQ hX_1 
    · show WV _ _ _ 20 _ _ _ _ _
      rw [if_neg h_17] at hQ
      refine r_ex 2 (pc' := 40) (lo' := [some (.inr (.inr (some 203))), some (.inl c), some (.inl o), some (.inl s)]) (st' := [.inl (-2000000)]) rfl ?_
      refine r_ret (rr := some (.inl (-2000000))) (I := .ireturn) (pc0 := 40) (len := 1) rfl rfl ?_
      exact hQ hX_1 
  · show WV _ _ _ 11 _ _ _ _ _
    rw [if_neg h_8] at hQ
    refine r_ex 2 (pc' := 40) (lo' := [some (.inr (.inr (some 203))), some (.inl c), some (.inl o), some (.inl s)]) (st' := [.inl (-2000000)]) rfl ?_
    refine r_ret (rr := some (.inl (-2000000))) (I := .ireturn) (pc0 := 40) (len := 1) rfl rfl ?_
    exact hQ hX_1 

theorem e_mo_ship {X : PX} {d b : Nat} {v : VS} {c : Int} {o : Int} {s : Int} (hX : XI v) (hp_a : R32 c) (hp_b : R32 o) (hp_c : R32 s) (hp_d : CF v) : EvV X (d + 1 + 1 + 1 + 1 + 1 + 1) 265 [.inr (.inr (some 203)), .inl c, .inl o, .inl s] b v (some (.inl (mo_ship v c o s).1)) b ((mo_ship v c o s).2) := EvV.of (w_mo_ship hX hp_a hp_b hp_c hp_d (fun _ => ⟨rfl, rfl, rfl⟩))

theorem i_mo_ship {v : VS} {c : Int} {o : Int} {s : Int} (hX : XI v) (hp_a : R32 c) (hp_b : R32 o) (hp_c : R32 s) (hp_d : CF v) : XI ((mo_ship v c o s).2) := by
  have q : WV (0, fun _ => 0, none) (0 + 1 + 1 + 1 + 1 + 1 + 1) 265 0 [some (.inr (.inr (some 203))), some (.inl c), some (.inl o), some (.inl s)] [] 1 v (fun _ _ _ => XI ((mo_ship v c o s).2)) := w_mo_ship (X := (0, fun _ => 0, none)) (d := 0) (b := 1) hX hp_a hp_b hp_c hp_d (fun q => q)
  obtain ⟨_, _, _, _, _, _, _, q⟩ := q
  exact q

theorem o_mo_ship {rk : Nat} {v : VS} {c : Int} {o : Int} {s : Int} (hk : (rk < 203 ∨ 203 < rk) ∧ (rk < 219 ∨ 231 < rk)) : (mo_ship v c o s).2 rk = v rk := by
  unfold mo_ship
  by_cases hc_ : 0 ≤ c ∧ c < (v 210 0)
  · rw [if_pos hc_] <;> clear hc_
    by_cases hc_ : 0 ≤ o ∧ o < (v 210 0)
    · rw [if_pos hc_] <;> clear hc_
      by_cases hc_ : c = o
      · rw [if_pos hc_] <;> clear hc_
        all_goals (show (v2 v 203 0 0) rk = _)
        all_goals (rw [v2_row (by omega)])
      · rw [if_neg hc_] <;> clear hc_
        by_cases hc_ : 0 ≤ s ∧ s < (v 210 1)
        · rw [if_pos hc_] <;> clear hc_
          all_goals (show (mo_told (v2 v 203 0 0)) rk = _)
          all_goals (rw [o_mo_told (by omega), v2_row (by omega)])
        · rw [if_neg hc_] <;> clear hc_
          all_goals (show (v2 v 203 0 0) rk = _)
          all_goals (rw [v2_row (by omega)])
    · rw [if_neg hc_] <;> clear hc_
      all_goals (show (v2 v 203 0 0) rk = _)
      all_goals (rw [v2_row (by omega)])
  · rw [if_neg hc_] <;> clear hc_
    all_goals (show (v2 v 203 0 0) rk = _)
    all_goals (rw [v2_row (by omega)])

noncomputable def mo_quiet (v : VS)  : Int × VS :=
  (if 0 < (v 209 0) then (if ((mo_told (v2 v 203 0 0)) 203 37) = 0 then ((-1), (mo_told (v2 v 203 0 0))) else ((mo_at (mo_told (v2 v 203 0 0)) (((mo_told (v2 v 203 0 0)) 203 37) - 1) 0), (mo_told (v2 v 203 0 0)))) else ((-2), (v2 v 203 0 0)))
theorem w_mo_quiet {X : PX} {d b : Nat} {v : VS}  (hX : XI v) (hp_a : CF v) {Q : Option PV → Nat → VS → Prop} (hQ : XI (mo_quiet v).2 → Q (some (.inl (mo_quiet v).1)) b (mo_quiet v).2) : WV X (d + 1 + 1 + 1 + 1 + 1 + 1) 266 0 [some (.inr (.inr (some 203)))] [] b v Q := by
  rw [mo_quiet] at hQ
  refine r_ex 2 (pc' := 2) (lo' := [some (.inr (.inr (some 203)))]) (st' := [.inl 0, .inr (.inr (some 203))]) rfl ?_
  refine r_puti2 (j := 0) (pc' := 5) (pc0 := 2) (len := 3) rfl (s_203 _) rfl rfl rfl (Or.inl rfl) rfl rfl ?_
  have hX_1 : XI (v2 v 203 0 0) := XI.put hX trivial
  refine r_ex 1 (pc' := 6) (lo' := [some (.inr (.inr (some 203)))]) (st' := [.inr (.inr (some 203))]) rfl ?_
  have hb_2 : 0 ≤ (v 209 0) ∧ (v 209 0) ≤ 2001 := hX_1 209 0
  refine r_callb (P := 0 < (v 209 0)) (m := 245) (args := [.inr (.inr (some 203))]) (n' := 266) (pc' := 9) (lo' := [some (.inr (.inr (some 203)))]) (st' := []) (I := .invokevirtual 245) (pc0 := 6) (len := 3) rfl rfl rfl (e_mo_isBay hX_1) (fun h_6 => ?_) (fun h_6 => ?_)
  · show WV _ _ _ 9 _ _ _ _ _
    rw [if_pos h_6] at hQ
    refine r_ex 2 (pc' := 16) (lo' := [some (.inr (.inr (some 203)))]) (st' := [.inr (.inr (some 203))]) rfl ?_
    have hp_3 : CF (v2 v 203 0 0) := show CF (v2 v 203 0 0) from (show CF (v2 v 203 0 0) from CF.of hp_a (fun k h1 h2 => by rw [v2_row (by omega)]))
    refine r_call (m := 246) (args := [.inr (.inr (some 203))]) (n' := 266) (pc' := 19) (lo' := [some (.inr (.inr (some 203)))]) (st' := []) (I := .invokevirtual 246) (pc0 := 16) (len := 3) rfl rfl rfl (e_mo_told hX_1 hp_3) ?_
    show WV _ _ _ 19 _ [] _ (mo_told (v2 v 203 0 0)) _
    have hX_4 : XI (mo_told (v2 v 203 0 0)) := i_mo_told (v := (v2 v 203 0 0)) hX_1 hp_3
    refine r_ex 2 (pc' := 23) (lo' := [some (.inr (.inr (some 203)))]) (st' := [.inl ((mo_told (v2 v 203 0 0)) 203 37)]) rfl ?_
    have hb_5 : 0 ≤ ((mo_told (v2 v 203 0 0)) 203 37) ∧ ((mo_told (v2 v 203 0 0)) 203 37) ≤ 300 := hX_4 203 37
    refine n_if_ne (pc0 := 23) (len := 3) (t := 30) rfl (by first | assumption | omega | (unfold R32 at *; omega) | (unfold R64 at *; omega) | (simp only [R32, R64] at *; omega)) (fun h_23 => ?_) (fun h_23 => ?_)
    · show WV _ _ _ 30 _ _ _ _ _
      rw [if_neg h_23] at hQ
      refine r_ex 6 (pc' := 38) (lo' := [some (.inr (.inr (some 203)))]) (st' := [.inl 0, .inl (((mo_told (v2 v 203 0 0)) 203 37) - 1), .inr (.inr (some 203))]) rfl ?_
      have hp_6 : 0 ≤ (((mo_told (v2 v 203 0 0)) 203 37) - 1) ∧ (((mo_told (v2 v 203 0 0)) 203 37) - 1) < 300 := (by first | assumption | omega | (unfold R32 at *; omega) | (unfold R64 at *; omega) | (simp only [R32, R64] at *; omega))
      have hp_7 : 0 ≤ (0 : Int) ∧ (0 : Int) < 5 := (by first | assumption | omega | (unfold R32 at *; omega) | (unfold R64 at *; omega) | (simp only [R32, R64] at *; omega))
      refine r_call (m := 254) (args := [.inr (.inr (some 203)), .inl (((mo_told (v2 v 203 0 0)) 203 37) - 1), .inl 0]) (n' := 266) (pc' := 41) (lo' := [some (.inr (.inr (some 203)))]) (st' := []) (I := .invokevirtual 254) (pc0 := 38) (len := 3) rfl rfl rfl (e_mo_at hX_4 hp_6 hp_7) ?_
      show WV _ _ _ 41 _ [.inl (mo_at (mo_told (v2 v 203 0 0)) (((mo_told (v2 v 203 0 0)) 203 37) - 1) 0)] _ _ _
      have hb_8 := n_mo_at (v := (mo_told (v2 v 203 0 0))) (i := (((mo_told (v2 v 203 0 0)) 203 37) - 1)) (w := 0) hX_4 hp_6 hp_7
      refine r_ret (rr := some (.inl (mo_at (mo_told (v2 v 203 0 0)) (((mo_told (v2 v 203 0 0)) 203 37) - 1) 0))) (I := .ireturn) (pc0 := 41) (len := 1) rfl rfl ?_
      exact hQ hX_4 
    · show WV _ _ _ 26 _ _ _ _ _
      rw [if_pos h_23] at hQ
      refine r_ex 2 (pc' := 41) (lo' := [some (.inr (.inr (some 203)))]) (st' := [.inl (-1)]) rfl ?_
      refine r_ret (rr := some (.inl (-1))) (I := .ireturn) (pc0 := 41) (len := 1) rfl rfl ?_
      exact hQ hX_4 
  · show WV _ _ _ 9 _ _ _ _ _
    rw [if_neg h_6] at hQ
    refine r_ex 2 (pc' := 14) (lo' := [some (.inr (.inr (some 203)))]) (st' := [.inl (-2)]) rfl ?_
    refine r_ret (rr := some (.inl (-2))) (I := .ireturn) (pc0 := 14) (len := 1) rfl rfl ?_
    exact hQ hX_1 

theorem e_mo_quiet {X : PX} {d b : Nat} {v : VS}  (hX : XI v) (hp_a : CF v) : EvV X (d + 1 + 1 + 1 + 1 + 1 + 1) 266 [.inr (.inr (some 203))] b v (some (.inl (mo_quiet v).1)) b ((mo_quiet v).2) := EvV.of (w_mo_quiet hX hp_a (fun _ => ⟨rfl, rfl, rfl⟩))

theorem i_mo_quiet {v : VS}  (hX : XI v) (hp_a : CF v) : XI ((mo_quiet v).2) := by
  have q : WV (0, fun _ => 0, none) (0 + 1 + 1 + 1 + 1 + 1 + 1) 266 0 [some (.inr (.inr (some 203)))] [] 1 v (fun _ _ _ => XI ((mo_quiet v).2)) := w_mo_quiet (X := (0, fun _ => 0, none)) (d := 0) (b := 1) hX hp_a (fun q => q)
  obtain ⟨_, _, _, _, _, _, _, q⟩ := q
  exact q

theorem o_mo_quiet {rk : Nat} {v : VS}  (hk : (rk < 203 ∨ 203 < rk) ∧ (rk < 219 ∨ 231 < rk)) : (mo_quiet v ).2 rk = v rk := by
  unfold mo_quiet
  by_cases hc_ : 0 < (v 209 0)
  · rw [if_pos hc_] <;> clear hc_
    by_cases hc_ : ((mo_told (v2 v 203 0 0)) 203 37) = 0
    · rw [if_pos hc_] <;> clear hc_
      all_goals (show (mo_told (v2 v 203 0 0)) rk = _)
      all_goals (rw [o_mo_told (by omega), v2_row (by omega)])
    · rw [if_neg hc_] <;> clear hc_
      all_goals (show (mo_told (v2 v 203 0 0)) rk = _)
      all_goals (rw [o_mo_told (by omega), v2_row (by omega)])
  · rw [if_neg hc_] <;> clear hc_
    all_goals (show (v2 v 203 0 0) rk = _)
    all_goals (rw [v2_row (by omega)])

theorem b511 {x c : Int} (hx : 0 ≤ x ∧ x ≤ 511) (hc : 0 ≤ c ∧ c < 9) : 0 ≤ setb x c ∧ setb x c ≤ 511 := by
  have := setb_in (x := x) (c := c) (k := 9) (by omega) (by omega)
  omega
theorem c511 {x c : Int} (hx : 0 ≤ x ∧ x ≤ 511) : 0 ≤ clrb x c ∧ clrb x c ≤ 511 := by
  have := clr_in (x := x) (c := c) (k := 9) (by omega)
  omega
theorem c4095 {x c : Int} (hx : 0 ≤ x ∧ x ≤ 4095) : 0 ≤ clrb x c ∧ clrb x c ≤ 4095 := by
  have := clr_in (x := x) (c := c) (k := 12) (by omega)
  omega

noncomputable def mo_sets9 (v : VS) (k : Int) (s : Int) : Int × VS :=
  (if s = 1 then ((bt (v 210 9) k), (v2 v 210 9 (setb (v 210 9) k))) else ((bt (v 210 9) k), (v2 v 210 9 (clrb (v 210 9) k))))
theorem w_mo_sets9 {X : PX} {d b : Nat} {v : VS} {k : Int} {s : Int} (hX : XI v) (hp_a : 0 ≤ k ∧ k ≤ 8) (hp_b : 0 ≤ s ∧ s ≤ 1) {Q : Option PV → Nat → VS → Prop} (hQ : XI (mo_sets9 v k s).2 → (0 ≤ (mo_sets9 v k s).1 ∧ (mo_sets9 v k s).1 ≤ 1) → Q (some (.inl (mo_sets9 v k s).1)) b (mo_sets9 v k s).2) : WV X d 268 0 [some (.inr (.inr (some 203))), some (.inl 9), some (.inl k), some (.inl s), none] [] b v Q := by
  rw [mo_sets9] at hQ
  refine r_ex 3 (pc' := 5) (lo' := [some (.inr (.inr (some 203))), some (.inl 9), some (.inl k), some (.inl s), none]) (st' := [.inl 9, .inr (.inr (some 210))]) rfl ?_
  refine r_iald2 (j := 0) (x := (v 210 9)) (pc' := 6) (pc0 := 5) (len := 1) rfl (s_210 _) (by first | assumption | omega | (unfold R32 at *; omega) | (unfold R64 at *; omega) | (simp only [R32, R64] at *; omega)) (by decide) rfl rfl ?_
  have hb_1 : 0 ≤ (v 210 9) ∧ (v 210 9) ≤ 511 := hX 210 9
  refine r_ex 4 (pc' := 10) (lo' := [some (.inr (.inr (some 203))), some (.inl 9), some (.inl k), some (.inl s), none]) (st' := [.inl (pm_and (pm_shr (v 210 9) k) 1)]) rfl ?_
  rw [bit_eq (x := (v 210 9)) (c := k) (by first | assumption | omega | (unfold R32 at *; omega) | (unfold R64 at *; omega) | (simp only [R32, R64] at *; omega)) (by first | assumption | omega | (unfold R32 at *; omega) | (unfold R64 at *; omega) | (simp only [R32, R64] at *; omega))]
  have hb_2 := bt01 (v 210 9) k
  refine r_ex 6 (pc' := 19) (lo' := [some (.inr (.inr (some 203))), some (.inl 9), some (.inl k), some (.inl s), some (.inl (bt (v 210 9) k))]) (st' := [.inl 1, .inl s, .inl 9, .inr (.inr (some 210))]) rfl ?_
  refine n_ic_ne (pc0 := 19) (len := 3) (t := 35) rfl (by first | assumption | omega | (unfold R32 at *; omega) | (unfold R64 at *; omega) | (simp only [R32, R64] at *; omega)) (by first | assumption | omega | (unfold R32 at *; omega) | (unfold R64 at *; omega) | (simp only [R32, R64] at *; omega)) (fun h_19 => ?_) (fun h_19 => ?_)
  · show WV _ _ _ 35 _ _ _ _ _
    rw [if_neg h_19] at hQ
    refine r_ex 3 (pc' := 40) (lo' := [some (.inr (.inr (some 203))), some (.inl 9), some (.inl k), some (.inl s), some (.inl (bt (v 210 9) k))]) (st' := [.inl 9, .inr (.inr (some 210)), .inl 9, .inr (.inr (some 210))]) rfl ?_
    refine r_iald2 (j := 0) (x := (v 210 9)) (pc' := 41) (pc0 := 40) (len := 1) rfl (s_210 _) (by first | assumption | omega | (unfold R32 at *; omega) | (unfold R64 at *; omega) | (simp only [R32, R64] at *; omega)) (by decide) rfl rfl ?_
    refine r_ex 6 (pc' := 47) (lo' := [some (.inr (.inr (some 203))), some (.inl 9), some (.inl k), some (.inl s), some (.inl (bt (v 210 9) k))]) (st' := [.inl (pm_and (v 210 9) (pm_xor (pm_shl 1 k) (-1))), .inl 9, .inr (.inr (some 210))]) rfl ?_
    rw [clr_eq (x := (v 210 9)) (c := k) (by first | assumption | omega | (unfold R32 at *; omega) | (unfold R64 at *; omega) | (simp only [R32, R64] at *; omega)) (by first | assumption | omega | (unfold R32 at *; omega) | (unfold R64 at *; omega) | (simp only [R32, R64] at *; omega))]
    refine r_iast2 (pc' := 48) (pc0 := 47) (len := 1) rfl (s_210 _) (by first | assumption | omega | (unfold R32 at *; omega) | (unfold R64 at *; omega) | (simp only [R32, R64] at *; omega)) (by decide) rfl ?_
    have hX_3 : XI (v2 v 210 9 (clrb (v 210 9) k)) := XI.put hX (show 0 ≤ (clrb (v 210 9) k) ∧ (clrb (v 210 9) k) ≤ 511 from (by first | exact b511 (by omega) (by omega) | exact c511 (by omega) | omega))
    show WV _ _ _ 48 _ _ _ (v2 v 210 9 (clrb (v 210 9) k)) _
    refine r_ex 1 (pc' := 50) (lo' := [some (.inr (.inr (some 203))), some (.inl 9), some (.inl k), some (.inl s), some (.inl (bt (v 210 9) k))]) (st' := [.inl (bt (v 210 9) k)]) rfl ?_
    refine r_ret (rr := some (.inl (bt (v 210 9) k))) (I := .ireturn) (pc0 := 50) (len := 1) rfl rfl ?_
    exact hQ hX_3 (by first | assumption | omega | (unfold R32 at *; omega) | (unfold R64 at *; omega) | (simp only [R32, R64] at *; omega))
  · show WV _ _ _ 22 _ _ _ _ _
    rw [if_pos h_19] at hQ
    refine r_ex 3 (pc' := 27) (lo' := [some (.inr (.inr (some 203))), some (.inl 9), some (.inl k), some (.inl s), some (.inl (bt (v 210 9) k))]) (st' := [.inl 9, .inr (.inr (some 210)), .inl 9, .inr (.inr (some 210))]) rfl ?_
    refine r_iald2 (j := 0) (x := (v 210 9)) (pc' := 28) (pc0 := 27) (len := 1) rfl (s_210 _) (by first | assumption | omega | (unfold R32 at *; omega) | (unfold R64 at *; omega) | (simp only [R32, R64] at *; omega)) (by decide) rfl rfl ?_
    refine r_ex 4 (pc' := 32) (lo' := [some (.inr (.inr (some 203))), some (.inl 9), some (.inl k), some (.inl s), some (.inl (bt (v 210 9) k))]) (st' := [.inl (pm_or (v 210 9) (pm_shl 1 k)), .inl 9, .inr (.inr (some 210))]) rfl ?_
    rw [or_eq (x := (v 210 9)) (c := k) (by first | assumption | omega | (unfold R32 at *; omega) | (unfold R64 at *; omega) | (simp only [R32, R64] at *; omega)) (by first | assumption | omega | (unfold R32 at *; omega) | (unfold R64 at *; omega) | (simp only [R32, R64] at *; omega))]
    have hb_4 := setb_in (x := (v 210 9)) (c := k) (k := 12) (by first | assumption | omega | (unfold R32 at *; omega) | (unfold R64 at *; omega) | (simp only [R32, R64] at *; omega)) (by first | assumption | omega | (unfold R32 at *; omega) | (unfold R64 at *; omega) | (simp only [R32, R64] at *; omega))
    refine r_ex 1 (pc' := 47) (lo' := [some (.inr (.inr (some 203))), some (.inl 9), some (.inl k), some (.inl s), some (.inl (bt (v 210 9) k))]) (st' := [.inl (setb (v 210 9) k), .inl 9, .inr (.inr (some 210))]) rfl ?_
    refine r_iast2 (pc' := 48) (pc0 := 47) (len := 1) rfl (s_210 _) (by first | assumption | omega | (unfold R32 at *; omega) | (unfold R64 at *; omega) | (simp only [R32, R64] at *; omega)) (by decide) rfl ?_
    have hX_5 : XI (v2 v 210 9 (setb (v 210 9) k)) := XI.put hX (show 0 ≤ (setb (v 210 9) k) ∧ (setb (v 210 9) k) ≤ 511 from (by first | exact b511 (by omega) (by omega) | exact c511 (by omega) | omega))
    show WV _ _ _ 48 _ _ _ (v2 v 210 9 (setb (v 210 9) k)) _
    refine r_ex 1 (pc' := 50) (lo' := [some (.inr (.inr (some 203))), some (.inl 9), some (.inl k), some (.inl s), some (.inl (bt (v 210 9) k))]) (st' := [.inl (bt (v 210 9) k)]) rfl ?_
    refine r_ret (rr := some (.inl (bt (v 210 9) k))) (I := .ireturn) (pc0 := 50) (len := 1) rfl rfl ?_
    exact hQ hX_5 (by first | assumption | omega | (unfold R32 at *; omega) | (unfold R64 at *; omega) | (simp only [R32, R64] at *; omega))

theorem e_mo_sets9 {X : PX} {d b : Nat} {v : VS} {k : Int} {s : Int} (hX : XI v) (hp_a : 0 ≤ k ∧ k ≤ 8) (hp_b : 0 ≤ s ∧ s ≤ 1) : EvV X d 268 [.inr (.inr (some 203)), .inl 9, .inl k, .inl s] b v (some (.inl (mo_sets9 v k s).1)) b ((mo_sets9 v k s).2) := EvV.of (w_mo_sets9 hX hp_a hp_b (fun _ _ => ⟨rfl, rfl, rfl⟩))

theorem i_mo_sets9 {v : VS} {k : Int} {s : Int} (hX : XI v) (hp_a : 0 ≤ k ∧ k ≤ 8) (hp_b : 0 ≤ s ∧ s ≤ 1) : XI ((mo_sets9 v k s).2) := by
  have q : WV (0, fun _ => 0, none) 0 268 0 [some (.inr (.inr (some 203))), some (.inl 9), some (.inl k), some (.inl s), none] [] 1 v (fun _ _ _ => XI ((mo_sets9 v k s).2)) := w_mo_sets9 (X := (0, fun _ => 0, none)) (d := 0) (b := 1) hX hp_a hp_b (fun q _ => q)
  obtain ⟨_, _, _, _, _, _, _, q⟩ := q
  exact q

theorem n_mo_sets9 {v : VS} {k : Int} {s : Int} (hX : XI v) (hp_a : 0 ≤ k ∧ k ≤ 8) (hp_b : 0 ≤ s ∧ s ≤ 1) : 0 ≤ (mo_sets9 v k s).1 ∧ (mo_sets9 v k s).1 ≤ 1 := by
  have q : WV (0, fun _ => 0, none) 0 268 0 [some (.inr (.inr (some 203))), some (.inl 9), some (.inl k), some (.inl s), none] [] 1 v (fun _ _ _ => 0 ≤ (mo_sets9 v k s).1 ∧ (mo_sets9 v k s).1 ≤ 1) := w_mo_sets9 (X := (0, fun _ => 0, none)) (d := 0) (b := 1) hX hp_a hp_b (fun _ q => q)
  obtain ⟨_, _, _, _, _, _, _, q⟩ := q
  exact q

theorem o_mo_sets9 {rk : Nat} {v : VS} {k : Int} {s : Int} (hk : (rk < 210 ∨ 210 < rk)) : (mo_sets9 v k s).2 rk = v rk := by
  unfold mo_sets9
  by_cases hc_ : s = 1
  · rw [if_pos hc_] <;> clear hc_
    all_goals (show (v2 v 210 9 (setb (v 210 9) k)) rk = _)
    all_goals (rw [v2_row (by omega)])
  · rw [if_neg hc_] <;> clear hc_
    all_goals (show (v2 v 210 9 (clrb (v 210 9) k)) rk = _)
    all_goals (rw [v2_row (by omega)])

noncomputable def mo_sets10 (v : VS) (k : Int) (s : Int) : Int × VS :=
  (if s = 1 then ((bt (v 210 10) k), (v2 v 210 10 (setb (v 210 10) k))) else ((bt (v 210 10) k), (v2 v 210 10 (clrb (v 210 10) k))))
theorem w_mo_sets10 {X : PX} {d b : Nat} {v : VS} {k : Int} {s : Int} (hX : XI v) (hp_a : 0 ≤ k ∧ k ≤ 11) (hp_b : 0 ≤ s ∧ s ≤ 1) {Q : Option PV → Nat → VS → Prop} (hQ : XI (mo_sets10 v k s).2 → (0 ≤ (mo_sets10 v k s).1 ∧ (mo_sets10 v k s).1 ≤ 1) → Q (some (.inl (mo_sets10 v k s).1)) b (mo_sets10 v k s).2) : WV X d 268 0 [some (.inr (.inr (some 203))), some (.inl 10), some (.inl k), some (.inl s), none] [] b v Q := by
  rw [mo_sets10] at hQ
  refine r_ex 3 (pc' := 5) (lo' := [some (.inr (.inr (some 203))), some (.inl 10), some (.inl k), some (.inl s), none]) (st' := [.inl 10, .inr (.inr (some 210))]) rfl ?_
  refine r_iald2 (j := 0) (x := (v 210 10)) (pc' := 6) (pc0 := 5) (len := 1) rfl (s_210 _) (by first | assumption | omega | (unfold R32 at *; omega) | (unfold R64 at *; omega) | (simp only [R32, R64] at *; omega)) (by decide) rfl rfl ?_
  have hb_1 : 0 ≤ (v 210 10) ∧ (v 210 10) ≤ 4095 := hX 210 10
  refine r_ex 4 (pc' := 10) (lo' := [some (.inr (.inr (some 203))), some (.inl 10), some (.inl k), some (.inl s), none]) (st' := [.inl (pm_and (pm_shr (v 210 10) k) 1)]) rfl ?_
  rw [bit_eq (x := (v 210 10)) (c := k) (by first | assumption | omega | (unfold R32 at *; omega) | (unfold R64 at *; omega) | (simp only [R32, R64] at *; omega)) (by first | assumption | omega | (unfold R32 at *; omega) | (unfold R64 at *; omega) | (simp only [R32, R64] at *; omega))]
  have hb_2 := bt01 (v 210 10) k
  refine r_ex 6 (pc' := 19) (lo' := [some (.inr (.inr (some 203))), some (.inl 10), some (.inl k), some (.inl s), some (.inl (bt (v 210 10) k))]) (st' := [.inl 1, .inl s, .inl 10, .inr (.inr (some 210))]) rfl ?_
  refine n_ic_ne (pc0 := 19) (len := 3) (t := 35) rfl (by first | assumption | omega | (unfold R32 at *; omega) | (unfold R64 at *; omega) | (simp only [R32, R64] at *; omega)) (by first | assumption | omega | (unfold R32 at *; omega) | (unfold R64 at *; omega) | (simp only [R32, R64] at *; omega)) (fun h_19 => ?_) (fun h_19 => ?_)
  · show WV _ _ _ 35 _ _ _ _ _
    rw [if_neg h_19] at hQ
    refine r_ex 3 (pc' := 40) (lo' := [some (.inr (.inr (some 203))), some (.inl 10), some (.inl k), some (.inl s), some (.inl (bt (v 210 10) k))]) (st' := [.inl 10, .inr (.inr (some 210)), .inl 10, .inr (.inr (some 210))]) rfl ?_
    refine r_iald2 (j := 0) (x := (v 210 10)) (pc' := 41) (pc0 := 40) (len := 1) rfl (s_210 _) (by first | assumption | omega | (unfold R32 at *; omega) | (unfold R64 at *; omega) | (simp only [R32, R64] at *; omega)) (by decide) rfl rfl ?_
    refine r_ex 6 (pc' := 47) (lo' := [some (.inr (.inr (some 203))), some (.inl 10), some (.inl k), some (.inl s), some (.inl (bt (v 210 10) k))]) (st' := [.inl (pm_and (v 210 10) (pm_xor (pm_shl 1 k) (-1))), .inl 10, .inr (.inr (some 210))]) rfl ?_
    rw [clr_eq (x := (v 210 10)) (c := k) (by first | assumption | omega | (unfold R32 at *; omega) | (unfold R64 at *; omega) | (simp only [R32, R64] at *; omega)) (by first | assumption | omega | (unfold R32 at *; omega) | (unfold R64 at *; omega) | (simp only [R32, R64] at *; omega))]
    refine r_iast2 (pc' := 48) (pc0 := 47) (len := 1) rfl (s_210 _) (by first | assumption | omega | (unfold R32 at *; omega) | (unfold R64 at *; omega) | (simp only [R32, R64] at *; omega)) (by decide) rfl ?_
    have hX_3 : XI (v2 v 210 10 (clrb (v 210 10) k)) := XI.put hX (show 0 ≤ (clrb (v 210 10) k) ∧ (clrb (v 210 10) k) ≤ 4095 from (by first | exact c4095 (by omega) | exact c4095 (by omega) | omega))
    show WV _ _ _ 48 _ _ _ (v2 v 210 10 (clrb (v 210 10) k)) _
    refine r_ex 1 (pc' := 50) (lo' := [some (.inr (.inr (some 203))), some (.inl 10), some (.inl k), some (.inl s), some (.inl (bt (v 210 10) k))]) (st' := [.inl (bt (v 210 10) k)]) rfl ?_
    refine r_ret (rr := some (.inl (bt (v 210 10) k))) (I := .ireturn) (pc0 := 50) (len := 1) rfl rfl ?_
    exact hQ hX_3 (by first | assumption | omega | (unfold R32 at *; omega) | (unfold R64 at *; omega) | (simp only [R32, R64] at *; omega))
  · show WV _ _ _ 22 _ _ _ _ _
    rw [if_pos h_19] at hQ
    refine r_ex 3 (pc' := 27) (lo' := [some (.inr (.inr (some 203))), some (.inl 10), some (.inl k), some (.inl s), some (.inl (bt (v 210 10) k))]) (st' := [.inl 10, .inr (.inr (some 210)), .inl 10, .inr (.inr (some 210))]) rfl ?_
    refine r_iald2 (j := 0) (x := (v 210 10)) (pc' := 28) (pc0 := 27) (len := 1) rfl (s_210 _) (by first | assumption | omega | (unfold R32 at *; omega) | (unfold R64 at *; omega) | (simp only [R32, R64] at *; omega)) (by decide) rfl rfl ?_
    refine r_ex 4 (pc' := 32) (lo' := [some (.inr (.inr (some 203))), some (.inl 10), some (.inl k), some (.inl s), some (.inl (bt (v 210 10) k))]) (st' := [.inl (pm_or (v 210 10) (pm_shl 1 k)), .inl 10, .inr (.inr (some 210))]) rfl ?_
    rw [or_eq (x := (v 210 10)) (c := k) (by first | assumption | omega | (unfold R32 at *; omega) | (unfold R64 at *; omega) | (simp only [R32, R64] at *; omega)) (by first | assumption | omega | (unfold R32 at *; omega) | (unfold R64 at *; omega) | (simp only [R32, R64] at *; omega))]
    have hb_4 := setb_in (x := (v 210 10)) (c := k) (k := 12) (by first | assumption | omega | (unfold R32 at *; omega) | (unfold R64 at *; omega) | (simp only [R32, R64] at *; omega)) (by first | assumption | omega | (unfold R32 at *; omega) | (unfold R64 at *; omega) | (simp only [R32, R64] at *; omega))
    refine r_ex 1 (pc' := 47) (lo' := [some (.inr (.inr (some 203))), some (.inl 10), some (.inl k), some (.inl s), some (.inl (bt (v 210 10) k))]) (st' := [.inl (setb (v 210 10) k), .inl 10, .inr (.inr (some 210))]) rfl ?_
    refine r_iast2 (pc' := 48) (pc0 := 47) (len := 1) rfl (s_210 _) (by first | assumption | omega | (unfold R32 at *; omega) | (unfold R64 at *; omega) | (simp only [R32, R64] at *; omega)) (by decide) rfl ?_
    have hX_5 : XI (v2 v 210 10 (setb (v 210 10) k)) := XI.put hX (show 0 ≤ (setb (v 210 10) k) ∧ (setb (v 210 10) k) ≤ 4095 from (by first | exact c4095 (by omega) | exact c4095 (by omega) | omega))
    show WV _ _ _ 48 _ _ _ (v2 v 210 10 (setb (v 210 10) k)) _
    refine r_ex 1 (pc' := 50) (lo' := [some (.inr (.inr (some 203))), some (.inl 10), some (.inl k), some (.inl s), some (.inl (bt (v 210 10) k))]) (st' := [.inl (bt (v 210 10) k)]) rfl ?_
    refine r_ret (rr := some (.inl (bt (v 210 10) k))) (I := .ireturn) (pc0 := 50) (len := 1) rfl rfl ?_
    exact hQ hX_5 (by first | assumption | omega | (unfold R32 at *; omega) | (unfold R64 at *; omega) | (simp only [R32, R64] at *; omega))

theorem e_mo_sets10 {X : PX} {d b : Nat} {v : VS} {k : Int} {s : Int} (hX : XI v) (hp_a : 0 ≤ k ∧ k ≤ 11) (hp_b : 0 ≤ s ∧ s ≤ 1) : EvV X d 268 [.inr (.inr (some 203)), .inl 10, .inl k, .inl s] b v (some (.inl (mo_sets10 v k s).1)) b ((mo_sets10 v k s).2) := EvV.of (w_mo_sets10 hX hp_a hp_b (fun _ _ => ⟨rfl, rfl, rfl⟩))

theorem i_mo_sets10 {v : VS} {k : Int} {s : Int} (hX : XI v) (hp_a : 0 ≤ k ∧ k ≤ 11) (hp_b : 0 ≤ s ∧ s ≤ 1) : XI ((mo_sets10 v k s).2) := by
  have q : WV (0, fun _ => 0, none) 0 268 0 [some (.inr (.inr (some 203))), some (.inl 10), some (.inl k), some (.inl s), none] [] 1 v (fun _ _ _ => XI ((mo_sets10 v k s).2)) := w_mo_sets10 (X := (0, fun _ => 0, none)) (d := 0) (b := 1) hX hp_a hp_b (fun q _ => q)
  obtain ⟨_, _, _, _, _, _, _, q⟩ := q
  exact q

theorem n_mo_sets10 {v : VS} {k : Int} {s : Int} (hX : XI v) (hp_a : 0 ≤ k ∧ k ≤ 11) (hp_b : 0 ≤ s ∧ s ≤ 1) : 0 ≤ (mo_sets10 v k s).1 ∧ (mo_sets10 v k s).1 ≤ 1 := by
  have q : WV (0, fun _ => 0, none) 0 268 0 [some (.inr (.inr (some 203))), some (.inl 10), some (.inl k), some (.inl s), none] [] 1 v (fun _ _ _ => 0 ≤ (mo_sets10 v k s).1 ∧ (mo_sets10 v k s).1 ≤ 1) := w_mo_sets10 (X := (0, fun _ => 0, none)) (d := 0) (b := 1) hX hp_a hp_b (fun _ q => q)
  obtain ⟨_, _, _, _, _, _, _, q⟩ := q
  exact q

theorem o_mo_sets10 {rk : Nat} {v : VS} {k : Int} {s : Int} (hk : (rk < 210 ∨ 210 < rk)) : (mo_sets10 v k s).2 rk = v rk := by
  unfold mo_sets10
  by_cases hc_ : s = 1
  · rw [if_pos hc_] <;> clear hc_
    all_goals (show (v2 v 210 10 (setb (v 210 10) k)) rk = _)
    all_goals (rw [v2_row (by omega)])
  · rw [if_neg hc_] <;> clear hc_
    all_goals (show (v2 v 210 10 (clrb (v 210 10) k)) rk = _)
    all_goals (rw [v2_row (by omega)])

noncomputable def mo_muffle (v : VS) (c : Int) (i : Int) : Int × VS :=
  (if 0 ≤ c ∧ c < (v 210 0) then (if (0 : Int) ≤ i ∧ i ≤ (1 : Int) then ((mo_sets9 (v2 v 203 0 0) c i).1, (mo_sets9 (v2 v 203 0 0) c i).2) else ((-2), (v2 v 203 0 0))) else ((-2), (v2 v 203 0 0)))
theorem w_mo_muffle {X : PX} {d b : Nat} {v : VS} {c : Int} {i : Int} (hX : XI v) (hp_a : R32 c) (hp_b : R32 i) {Q : Option PV → Nat → VS → Prop} (hQ : XI (mo_muffle v c i).2 → Q (some (.inl (mo_muffle v c i).1)) b (mo_muffle v c i).2) : WV X (d + 1 + 1) 267 0 [some (.inr (.inr (some 203))), some (.inl c), some (.inl i)] [] b v Q := by
  rw [mo_muffle] at hQ
  refine r_ex 2 (pc' := 2) (lo' := [some (.inr (.inr (some 203))), some (.inl c), some (.inl i)]) (st' := [.inl 0, .inr (.inr (some 203))]) rfl ?_
  refine r_puti2 (j := 0) (pc' := 5) (pc0 := 2) (len := 3) rfl (s_203 _) rfl rfl rfl (Or.inl rfl) rfl rfl ?_
  have hX_1 : XI (v2 v 203 0 0) := XI.put hX trivial
  refine r_ex 2 (pc' := 7) (lo' := [some (.inr (.inr (some 203))), some (.inl c), some (.inl i)]) (st' := [.inl c, .inr (.inr (some 203))]) rfl ?_
  refine n_i2l (pc' := 8) (pc0 := 7) (len := 1) rfl (by first | assumption | omega | (unfold R32 at *; omega) | (unfold R64 at *; omega) | (simp only [R32, R64] at *; omega)) rfl ?_
  have hp_2 : R64 c := (by first | assumption | omega | (unfold R32 at *; omega) | (unfold R64 at *; omega) | (simp only [R32, R64] at *; omega))
  have hb_3 : 0 ≤ (v 210 0) ∧ (v 210 0) ≤ 9 := hX_1 210 0
  refine r_callb (P := 0 ≤ c ∧ c < (v 210 0)) (m := 236) (args := [.inr (.inr (some 203)), .inr (.inl c)]) (n' := 267) (pc' := 11) (lo' := [some (.inr (.inr (some 203))), some (.inl c), some (.inl i)]) (st' := []) (I := .invokevirtual 236) (pc0 := 8) (len := 3) rfl rfl rfl (e_mo_isChurch hX_1 hp_2) (fun h_8 => ?_) (fun h_8 => ?_)
  · show WV _ _ _ 11 _ _ _ _ _
    rw [if_pos h_8] at hQ
    refine r_ex 2 (pc' := 15) (lo' := [some (.inr (.inr (some 203))), some (.inl c), some (.inl i)]) (st' := [.inl i]) rfl ?_
    refine n_i2l (pc' := 16) (pc0 := 15) (len := 1) rfl (by first | assumption | omega | (unfold R32 at *; omega) | (unfold R64 at *; omega) | (simp only [R32, R64] at *; omega)) rfl ?_
    refine r_ex 2 (pc' := 18) (lo' := [some (.inr (.inr (some 203))), some (.inl c), some (.inl i)]) (st' := [.inr (.inl 1), .inr (.inl 0), .inr (.inl i)]) rfl ?_
    have hp_4 : R64 i := (by first | assumption | omega | (unfold R32 at *; omega) | (unfold R64 at *; omega) | (simp only [R32, R64] at *; omega))
    have hp_5 : R64 (0 : Int) := (by first | assumption | omega | (unfold R32 at *; omega) | (unfold R64 at *; omega) | (simp only [R32, R64] at *; omega))
    have hp_6 : R64 (1 : Int) := (by first | assumption | omega | (unfold R32 at *; omega) | (unfold R64 at *; omega) | (simp only [R32, R64] at *; omega))
    refine r_callb (P := (0 : Int) ≤ i ∧ i ≤ (1 : Int)) (m := 202) (args := [.inr (.inl i), .inr (.inl 0), .inr (.inl 1)]) (n' := 267) (pc' := 21) (lo' := [some (.inr (.inr (some 203))), some (.inl c), some (.inl i)]) (st' := []) (I := .invokestatic 202) (pc0 := 18) (len := 3) rfl rfl rfl (e_mo_in hX_1 hp_4 hp_5 hp_6) (fun h_18 => ?_) (fun h_18 => ?_)
    · show WV _ _ _ 21 _ _ _ _ _
      rw [if_pos h_18] at hQ
      refine r_ex 5 (pc' := 29) (lo' := [some (.inr (.inr (some 203))), some (.inl c), some (.inl i)]) (st' := [.inl i, .inl c, .inl 9, .inr (.inr (some 203))]) rfl ?_
      have hp_7 : 0 ≤ c ∧ c ≤ 8 := (by first | assumption | omega | (unfold R32 at *; omega) | (unfold R64 at *; omega) | (simp only [R32, R64] at *; omega))
      have hp_8 : 0 ≤ i ∧ i ≤ 1 := (by first | assumption | omega | (unfold R32 at *; omega) | (unfold R64 at *; omega) | (simp only [R32, R64] at *; omega))
      refine r_call (m := 268) (args := [.inr (.inr (some 203)), .inl 9, .inl c, .inl i]) (n' := 267) (pc' := 32) (lo' := [some (.inr (.inr (some 203))), some (.inl c), some (.inl i)]) (st' := []) (I := .invokevirtual 268) (pc0 := 29) (len := 3) rfl rfl rfl (e_mo_sets9 hX_1 hp_7 hp_8) ?_
      show WV _ _ _ 32 _ [.inl ((mo_sets9 (v2 v 203 0 0) c i).1)] _ (mo_sets9 (v2 v 203 0 0) c i).2 _
      have hX_9 : XI (mo_sets9 (v2 v 203 0 0) c i).2 := i_mo_sets9 (v := (v2 v 203 0 0)) (k := c) (s := i) hX_1 hp_7 hp_8
      have hb_10 := n_mo_sets9 (v := (v2 v 203 0 0)) (k := c) (s := i) hX_1 hp_7 hp_8
      refine r_ex 1 (pc' := 37) (lo' := [some (.inr (.inr (some 203))), some (.inl c), some (.inl i)]) (st' := [.inl ((mo_sets9 (v2 v 203 0 0) c i).1)]) rfl ?_
      refine r_ret (rr := some (.inl ((mo_sets9 (v2 v 203 0 0) c i).1))) (I := .ireturn) (pc0 := 37) (len := 1) rfl rfl ?_
      exact hQ hX_9 
    · show WV _ _ _ 21 _ _ _ _ _
      rw [if_neg h_18] at hQ
      refine r_ex 2 (pc' := 37) (lo' := [some (.inr (.inr (some 203))), some (.inl c), some (.inl i)]) (st' := [.inl (-2)]) rfl ?_
      refine r_ret (rr := some (.inl (-2))) (I := .ireturn) (pc0 := 37) (len := 1) rfl rfl ?_
      exact hQ hX_1 
  · show WV _ _ _ 11 _ _ _ _ _
    rw [if_neg h_8] at hQ
    refine r_ex 2 (pc' := 37) (lo' := [some (.inr (.inr (some 203))), some (.inl c), some (.inl i)]) (st' := [.inl (-2)]) rfl ?_
    refine r_ret (rr := some (.inl (-2))) (I := .ireturn) (pc0 := 37) (len := 1) rfl rfl ?_
    exact hQ hX_1 

theorem e_mo_muffle {X : PX} {d b : Nat} {v : VS} {c : Int} {i : Int} (hX : XI v) (hp_a : R32 c) (hp_b : R32 i) : EvV X (d + 1 + 1) 267 [.inr (.inr (some 203)), .inl c, .inl i] b v (some (.inl (mo_muffle v c i).1)) b ((mo_muffle v c i).2) := EvV.of (w_mo_muffle hX hp_a hp_b (fun _ => ⟨rfl, rfl, rfl⟩))

theorem i_mo_muffle {v : VS} {c : Int} {i : Int} (hX : XI v) (hp_a : R32 c) (hp_b : R32 i) : XI ((mo_muffle v c i).2) := by
  have q : WV (0, fun _ => 0, none) (0 + 1 + 1) 267 0 [some (.inr (.inr (some 203))), some (.inl c), some (.inl i)] [] 1 v (fun _ _ _ => XI ((mo_muffle v c i).2)) := w_mo_muffle (X := (0, fun _ => 0, none)) (d := 0) (b := 1) hX hp_a hp_b (fun q => q)
  obtain ⟨_, _, _, _, _, _, _, q⟩ := q
  exact q

theorem o_mo_muffle {rk : Nat} {v : VS} {c : Int} {i : Int} (hk : (rk < 203 ∨ 203 < rk) ∧ (rk < 210 ∨ 210 < rk)) : (mo_muffle v c i).2 rk = v rk := by
  unfold mo_muffle
  by_cases hc_ : 0 ≤ c ∧ c < (v 210 0)
  · rw [if_pos hc_] <;> clear hc_
    by_cases hc_ : (0 : Int) ≤ i ∧ i ≤ (1 : Int)
    · rw [if_pos hc_] <;> clear hc_
      all_goals (show ((mo_sets9 (v2 v 203 0 0) c i).2) rk = _)
      all_goals (rw [o_mo_sets9 (by omega), v2_row (by omega)])
    · rw [if_neg hc_] <;> clear hc_
      all_goals (show (v2 v 203 0 0) rk = _)
      all_goals (rw [v2_row (by omega)])
  · rw [if_neg hc_] <;> clear hc_
    all_goals (show (v2 v 203 0 0) rk = _)
    all_goals (rw [v2_row (by omega)])

noncomputable def mo_cut (v : VS) (c : Int) (i : Int) : Int × VS :=
  (if 0 ≤ c ∧ c < (v 210 3) then (if (0 : Int) ≤ i ∧ i ≤ (1 : Int) then ((mo_sets10 (v2 v 203 0 0) c i).1, (mo_sets10 (v2 v 203 0 0) c i).2) else ((-2), (v2 v 203 0 0))) else ((-2), (v2 v 203 0 0)))
theorem w_mo_cut {X : PX} {d b : Nat} {v : VS} {c : Int} {i : Int} (hX : XI v) (hp_a : R32 c) (hp_b : R32 i) {Q : Option PV → Nat → VS → Prop} (hQ : XI (mo_cut v c i).2 → Q (some (.inl (mo_cut v c i).1)) b (mo_cut v c i).2) : WV X (d + 1 + 1) 269 0 [some (.inr (.inr (some 203))), some (.inl c), some (.inl i)] [] b v Q := by
  rw [mo_cut] at hQ
  refine r_ex 2 (pc' := 2) (lo' := [some (.inr (.inr (some 203))), some (.inl c), some (.inl i)]) (st' := [.inl 0, .inr (.inr (some 203))]) rfl ?_
  refine r_puti2 (j := 0) (pc' := 5) (pc0 := 2) (len := 3) rfl (s_203 _) rfl rfl rfl (Or.inl rfl) rfl rfl ?_
  have hX_1 : XI (v2 v 203 0 0) := XI.put hX trivial
  refine r_ex 2 (pc' := 7) (lo' := [some (.inr (.inr (some 203))), some (.inl c), some (.inl i)]) (st' := [.inl c, .inr (.inr (some 203))]) rfl ?_
  have hp_2 : R32 c := (by first | assumption | omega | (unfold R32 at *; omega) | (unfold R64 at *; omega) | (simp only [R32, R64] at *; omega))
  have hb_3 : 0 ≤ (v 210 3) ∧ (v 210 3) ≤ 12 := hX_1 210 3
  refine r_callb (P := 0 ≤ c ∧ c < (v 210 3)) (m := 238) (args := [.inr (.inr (some 203)), .inl c]) (n' := 269) (pc' := 10) (lo' := [some (.inr (.inr (some 203))), some (.inl c), some (.inl i)]) (st' := []) (I := .invokevirtual 238) (pc0 := 7) (len := 3) rfl rfl rfl (e_mo_isEar hX_1 hp_2) (fun h_7 => ?_) (fun h_7 => ?_)
  · show WV _ _ _ 10 _ _ _ _ _
    rw [if_pos h_7] at hQ
    refine r_ex 2 (pc' := 14) (lo' := [some (.inr (.inr (some 203))), some (.inl c), some (.inl i)]) (st' := [.inl i]) rfl ?_
    refine n_i2l (pc' := 15) (pc0 := 14) (len := 1) rfl (by first | assumption | omega | (unfold R32 at *; omega) | (unfold R64 at *; omega) | (simp only [R32, R64] at *; omega)) rfl ?_
    refine r_ex 2 (pc' := 17) (lo' := [some (.inr (.inr (some 203))), some (.inl c), some (.inl i)]) (st' := [.inr (.inl 1), .inr (.inl 0), .inr (.inl i)]) rfl ?_
    have hp_4 : R64 i := (by first | assumption | omega | (unfold R32 at *; omega) | (unfold R64 at *; omega) | (simp only [R32, R64] at *; omega))
    have hp_5 : R64 (0 : Int) := (by first | assumption | omega | (unfold R32 at *; omega) | (unfold R64 at *; omega) | (simp only [R32, R64] at *; omega))
    have hp_6 : R64 (1 : Int) := (by first | assumption | omega | (unfold R32 at *; omega) | (unfold R64 at *; omega) | (simp only [R32, R64] at *; omega))
    refine r_callb (P := (0 : Int) ≤ i ∧ i ≤ (1 : Int)) (m := 202) (args := [.inr (.inl i), .inr (.inl 0), .inr (.inl 1)]) (n' := 269) (pc' := 20) (lo' := [some (.inr (.inr (some 203))), some (.inl c), some (.inl i)]) (st' := []) (I := .invokestatic 202) (pc0 := 17) (len := 3) rfl rfl rfl (e_mo_in hX_1 hp_4 hp_5 hp_6) (fun h_17 => ?_) (fun h_17 => ?_)
    · show WV _ _ _ 20 _ _ _ _ _
      rw [if_pos h_17] at hQ
      refine r_ex 5 (pc' := 28) (lo' := [some (.inr (.inr (some 203))), some (.inl c), some (.inl i)]) (st' := [.inl i, .inl c, .inl 10, .inr (.inr (some 203))]) rfl ?_
      have hp_7 : 0 ≤ c ∧ c ≤ 11 := (by first | assumption | omega | (unfold R32 at *; omega) | (unfold R64 at *; omega) | (simp only [R32, R64] at *; omega))
      have hp_8 : 0 ≤ i ∧ i ≤ 1 := (by first | assumption | omega | (unfold R32 at *; omega) | (unfold R64 at *; omega) | (simp only [R32, R64] at *; omega))
      refine r_call (m := 268) (args := [.inr (.inr (some 203)), .inl 10, .inl c, .inl i]) (n' := 269) (pc' := 31) (lo' := [some (.inr (.inr (some 203))), some (.inl c), some (.inl i)]) (st' := []) (I := .invokevirtual 268) (pc0 := 28) (len := 3) rfl rfl rfl (e_mo_sets10 hX_1 hp_7 hp_8) ?_
      show WV _ _ _ 31 _ [.inl ((mo_sets10 (v2 v 203 0 0) c i).1)] _ (mo_sets10 (v2 v 203 0 0) c i).2 _
      have hX_9 : XI (mo_sets10 (v2 v 203 0 0) c i).2 := i_mo_sets10 (v := (v2 v 203 0 0)) (k := c) (s := i) hX_1 hp_7 hp_8
      have hb_10 := n_mo_sets10 (v := (v2 v 203 0 0)) (k := c) (s := i) hX_1 hp_7 hp_8
      refine r_ex 1 (pc' := 36) (lo' := [some (.inr (.inr (some 203))), some (.inl c), some (.inl i)]) (st' := [.inl ((mo_sets10 (v2 v 203 0 0) c i).1)]) rfl ?_
      refine r_ret (rr := some (.inl ((mo_sets10 (v2 v 203 0 0) c i).1))) (I := .ireturn) (pc0 := 36) (len := 1) rfl rfl ?_
      exact hQ hX_9 
    · show WV _ _ _ 20 _ _ _ _ _
      rw [if_neg h_17] at hQ
      refine r_ex 2 (pc' := 36) (lo' := [some (.inr (.inr (some 203))), some (.inl c), some (.inl i)]) (st' := [.inl (-2)]) rfl ?_
      refine r_ret (rr := some (.inl (-2))) (I := .ireturn) (pc0 := 36) (len := 1) rfl rfl ?_
      exact hQ hX_1 
  · show WV _ _ _ 10 _ _ _ _ _
    rw [if_neg h_7] at hQ
    refine r_ex 2 (pc' := 36) (lo' := [some (.inr (.inr (some 203))), some (.inl c), some (.inl i)]) (st' := [.inl (-2)]) rfl ?_
    refine r_ret (rr := some (.inl (-2))) (I := .ireturn) (pc0 := 36) (len := 1) rfl rfl ?_
    exact hQ hX_1 

theorem e_mo_cut {X : PX} {d b : Nat} {v : VS} {c : Int} {i : Int} (hX : XI v) (hp_a : R32 c) (hp_b : R32 i) : EvV X (d + 1 + 1) 269 [.inr (.inr (some 203)), .inl c, .inl i] b v (some (.inl (mo_cut v c i).1)) b ((mo_cut v c i).2) := EvV.of (w_mo_cut hX hp_a hp_b (fun _ => ⟨rfl, rfl, rfl⟩))

theorem i_mo_cut {v : VS} {c : Int} {i : Int} (hX : XI v) (hp_a : R32 c) (hp_b : R32 i) : XI ((mo_cut v c i).2) := by
  have q : WV (0, fun _ => 0, none) (0 + 1 + 1) 269 0 [some (.inr (.inr (some 203))), some (.inl c), some (.inl i)] [] 1 v (fun _ _ _ => XI ((mo_cut v c i).2)) := w_mo_cut (X := (0, fun _ => 0, none)) (d := 0) (b := 1) hX hp_a hp_b (fun q => q)
  obtain ⟨_, _, _, _, _, _, _, q⟩ := q
  exact q

theorem o_mo_cut {rk : Nat} {v : VS} {c : Int} {i : Int} (hk : (rk < 203 ∨ 203 < rk) ∧ (rk < 210 ∨ 210 < rk)) : (mo_cut v c i).2 rk = v rk := by
  unfold mo_cut
  by_cases hc_ : 0 ≤ c ∧ c < (v 210 3)
  · rw [if_pos hc_] <;> clear hc_
    by_cases hc_ : (0 : Int) ≤ i ∧ i ≤ (1 : Int)
    · rw [if_pos hc_] <;> clear hc_
      all_goals (show ((mo_sets10 (v2 v 203 0 0) c i).2) rk = _)
      all_goals (rw [o_mo_sets10 (by omega), v2_row (by omega)])
    · rw [if_neg hc_] <;> clear hc_
      all_goals (show (v2 v 203 0 0) rk = _)
      all_goals (rw [v2_row (by omega)])
  · rw [if_neg hc_] <;> clear hc_
    all_goals (show (v2 v 203 0 0) rk = _)
    all_goals (rw [v2_row (by omega)])

theorem and_dec_ok : (List.range 4096).all (fun x => decide (x = 0 ∨ (0 ≤ pm_and (x : Int) ((x : Int) - 1) ∧ pm_and (x : Int) ((x : Int) - 1) < x))) = true := by decide +kernel
theorem and_dec {x : Int} (h : 0 ≤ x ∧ x < 4096) (h0 : ¬ x = 0) : 0 ≤ pm_and x (x - 1) ∧ pm_and x (x - 1) < x := by
  obtain ⟨n, rfl⟩ := Int.eq_ofNat_of_zero_le h.1
  have q := of_decide_eq_true (List.all_eq_true.mp and_dec_ok n (List.mem_range.mpr (by omega)))
  omega

noncomputable def mo_sizeOf_4 : Nat → VS → Int → Int → Int
  | 0, v, n, x => 0
  | f + 1, v, n, x => (if x = 0 then n else (mo_sizeOf_4 f v (n + 1) (pm_and x (x - 1))))
noncomputable def mo_sizeOf (v : VS) (s : Int) : Int :=
  (mo_sizeOf_4 4097 v 0 s)
theorem l_mo_sizeOf_4 {X : PX} {d b : Nat} {Q : Option PV → Nat → VS → Prop}  : ∀ (f : Nat) (v : VS) (n : Int) (x : Int) (z0 : Int), XI v → (0 ≤ x ∧ x < 4096) → (0 ≤ n ∧ n + x ≤ 4096) → (x < f) → (∀ qx2 : Option PV, (0 ≤ (mo_sizeOf_4 f v n x) ∧ (mo_sizeOf_4 f v n x) ≤ 4096) → WV X d 271 20 [some (.inl z0), some (.inl (mo_sizeOf_4 f v n x)), qx2] [] b v Q) → WV X d 271 4 [some (.inl z0), some (.inl n), some (.inl x)] [] b v Q := by
  intro f
  induction f with
  | zero =>
    intro v n x z0 hX hi_0 hi_1 hf hK
    exfalso
    omega
  | succ f ih =>
    intro v n x z0 hX hi_0 hi_1 hf hK
    rw [mo_sizeOf_4] at hK
    refine r_ex 1 (pc' := 5) (lo' := [some (.inl z0), some (.inl n), some (.inl x)]) (st' := [.inl x]) rfl ?_
    refine n_if_eq (pc0 := 5) (len := 3) (t := 20) rfl (by first | assumption | omega | (unfold R32 at *; omega) | (unfold R64 at *; omega) | (simp only [R32, R64] at *; omega)) (fun h_5 => ?_) (fun h_5 => ?_)
    · show WV _ _ _ 20 _ _ _ _ _
      rw [if_pos h_5] at hK
      exact hK _  (by first | assumption | omega | (have := and_dec (x := x) (by omega) (by assumption); omega))
    · show WV _ _ _ 8 _ _ _ _ _
      rw [if_neg h_5] at hK
      refine r_ex 8 (pc' := 4) (lo' := [some (.inl z0), some (.inl (n + 1)), some (.inl (pm_and x (x - 1)))]) (st' := []) rfl ?_
      refine ih v (n + 1) (pm_and x (x - 1)) _ hX (by first | assumption | omega | (have := and_dec (x := x) (by omega) (by assumption); omega)) (by first | assumption | omega | (have := and_dec (x := x) (by omega) (by assumption); omega)) (by first | assumption | omega | (have := and_dec (x := x) (by omega) (by assumption); omega)) hK

theorem w_mo_sizeOf {X : PX} {d b : Nat} {v : VS} {s : Int} (hX : XI v) (hp_a : 0 ≤ s ∧ s < 4096) {Q : Option PV → Nat → VS → Prop} (hQ : (0 ≤ (mo_sizeOf v s) ∧ (mo_sizeOf v s) ≤ 4096) → Q (some (.inl (mo_sizeOf v s))) b v) : WV X d 271 0 [some (.inl s), none, none] [] b v Q := by
  rw [mo_sizeOf] at hQ
  refine r_ex 4 (pc' := 4) (lo' := [some (.inl s), some (.inl 0), some (.inl s)]) (st' := []) rfl ?_
  refine l_mo_sizeOf_4 4097 v 0 s _ hX (by first | assumption | omega | (have := and_dec (x := x) (by omega) (by assumption); omega)) (by first | assumption | omega | (have := and_dec (x := x) (by omega) (by assumption); omega)) (by first | assumption | omega | (have := and_dec (x := x) (by omega) (by assumption); omega)) (fun o2_1  hv_1_0 => ?_)
  show WV _ _ _ 20 _ _ _ _ _
  refine r_ex 1 (pc' := 21) (lo' := [some (.inl s), some (.inl (mo_sizeOf_4 4097 v 0 s)), o2_1]) (st' := [.inl (mo_sizeOf_4 4097 v 0 s)]) rfl ?_
  refine r_ret (rr := some (.inl (mo_sizeOf_4 4097 v 0 s))) (I := .ireturn) (pc0 := 21) (len := 1) rfl rfl ?_
  exact hQ (by first | assumption | omega | (unfold R32 at *; omega) | (unfold R64 at *; omega) | (simp only [R32, R64] at *; omega))

theorem e_mo_sizeOf {X : PX} {d b : Nat} {v : VS} {s : Int} (hX : XI v) (hp_a : 0 ≤ s ∧ s < 4096) : EvV X d 271 [.inl s] b v (some (.inl (mo_sizeOf v s))) b v := EvV.of (w_mo_sizeOf hX hp_a (fun _ => ⟨rfl, rfl, rfl⟩))

theorem n_mo_sizeOf {v : VS} {s : Int} (hX : XI v) (hp_a : 0 ≤ s ∧ s < 4096) : 0 ≤ (mo_sizeOf v s) ∧ (mo_sizeOf v s) ≤ 4096 := by
  have q : WV (0, fun _ => 0, none) 0 271 0 [some (.inl s), none, none] [] 1 v (fun _ _ _ => 0 ≤ (mo_sizeOf v s) ∧ (mo_sizeOf v s) ≤ 4096) := w_mo_sizeOf (X := (0, fun _ => 0, none)) (d := 0) (b := 1) hX hp_a (fun q => q)
  obtain ⟨_, _, _, _, _, _, _, q⟩ := q
  exact q

noncomputable def mo_strikesBy (v : VS) (m : Int) (k : Int) : Int × VS :=
  (((mo_run (v2 (v2 (mo_plainly v) 203 30 (pm_or ((mo_plainly v) 203 30) m)) 203 31 (pm_or ((mo_plainly v) 203 31) k))) 203 37), (mo_run (v2 (v2 (mo_plainly v) 203 30 (pm_or ((mo_plainly v) 203 30) m)) 203 31 (pm_or ((mo_plainly v) 203 31) k))))
theorem w_mo_strikesBy {X : PX} {d b : Nat} {v : VS} {m : Int} {k : Int} (hX : XI v) (hp_a : 0 ≤ m ∧ m ≤ 511) (hp_b : 0 ≤ k ∧ k ≤ 4095) (hp_c : CF v) {Q : Option PV → Nat → VS → Prop} (hQ : XI (mo_strikesBy v m k).2 → (0 ≤ (mo_strikesBy v m k).1 ∧ (mo_strikesBy v m k).1 ≤ 300) → Q (some (.inl (mo_strikesBy v m k).1)) b (mo_strikesBy v m k).2) : WV X (d + 1 + 1 + 1 + 1 + 1) 272 0 [some (.inr (.inr (some 203))), some (.inl m), some (.inl k)] [] b v Q := by
  rw [mo_strikesBy] at hQ
  refine r_ex 1 (pc' := 1) (lo' := [some (.inr (.inr (some 203))), some (.inl m), some (.inl k)]) (st' := [.inr (.inr (some 203))]) rfl ?_
  refine r_call (m := 241) (args := [.inr (.inr (some 203))]) (n' := 272) (pc' := 4) (lo' := [some (.inr (.inr (some 203))), some (.inl m), some (.inl k)]) (st' := []) (I := .invokevirtual 241) (pc0 := 1) (len := 3) rfl rfl rfl (e_mo_plainly hX) ?_
  show WV _ _ _ 4 _ [] _ (mo_plainly v) _
  have hX_1 : XI (mo_plainly v) := i_mo_plainly (v := v) hX
  refine r_ex 5 (pc' := 11) (lo' := [some (.inr (.inr (some 203))), some (.inl m), some (.inl k)]) (st' := [.inl (pm_or ((mo_plainly v) 203 30) m), .inr (.inr (some 203))]) rfl ?_
  have hb_2 : 0 ≤ ((mo_plainly v) 203 30) ∧ ((mo_plainly v) 203 30) ≤ 511 := hX_1 203 30
  refine r_puti2 (j := 30) (pc' := 14) (pc0 := 11) (len := 3) rfl (s_203 _) rfl rfl rfl (Or.inl rfl) rfl rfl ?_
  have hX_3 : XI (v2 (mo_plainly v) 203 30 (pm_or ((mo_plainly v) 203 30) m)) := XI.put hX_1 (show 0 ≤ (pm_or ((mo_plainly v) 203 30) m) ∧ (pm_or ((mo_plainly v) 203 30) m) ≤ 511 from (by have := or_in (x := (mo_plainly v) 203 30) (y := m) (k := 9) (by omega) (by omega) (by omega); omega))
  refine r_ex 5 (pc' := 21) (lo' := [some (.inr (.inr (some 203))), some (.inl m), some (.inl k)]) (st' := [.inl (pm_or ((mo_plainly v) 203 31) k), .inr (.inr (some 203))]) rfl ?_
  have hb_4 : 0 ≤ ((mo_plainly v) 203 31) ∧ ((mo_plainly v) 203 31) ≤ 4095 := hX_3 203 31
  refine r_puti2 (j := 31) (pc' := 24) (pc0 := 21) (len := 3) rfl (s_203 _) rfl rfl rfl (Or.inl rfl) rfl rfl ?_
  have hX_5 : XI (v2 (v2 (mo_plainly v) 203 30 (pm_or ((mo_plainly v) 203 30) m)) 203 31 (pm_or ((mo_plainly v) 203 31) k)) := XI.put hX_3 (show 0 ≤ (pm_or ((mo_plainly v) 203 31) k) ∧ (pm_or ((mo_plainly v) 203 31) k) ≤ 4095 from (by have := or_in (x := (mo_plainly v) 203 31) (y := k) (k := 12) (by omega) (by omega) (by omega); omega))
  refine r_ex 1 (pc' := 25) (lo' := [some (.inr (.inr (some 203))), some (.inl m), some (.inl k)]) (st' := [.inr (.inr (some 203))]) rfl ?_
  have hp_6 : CF (v2 (v2 (mo_plainly v) 203 30 (pm_or ((mo_plainly v) 203 30) m)) 203 31 (pm_or ((mo_plainly v) 203 31) k)) := show CF (v2 (v2 (mo_plainly v) 203 30 (pm_or ((mo_plainly v) 203 30) m)) 203 31 (pm_or ((mo_plainly v) 203 31) k)) from (show CF (v2 (v2 (mo_plainly v) 203 30 (pm_or ((mo_plainly v) 203 30) m)) 203 31 (pm_or ((mo_plainly v) 203 31) k)) from CF.of hp_c (fun k h1 h2 => by rw [v2_row (by omega), v2_row (by omega), o_mo_plainly (by omega)]))
  refine r_call (m := 247) (args := [.inr (.inr (some 203))]) (n' := 272) (pc' := 28) (lo' := [some (.inr (.inr (some 203))), some (.inl m), some (.inl k)]) (st' := []) (I := .invokevirtual 247) (pc0 := 25) (len := 3) rfl rfl rfl (e_mo_run hX_5 hp_6) ?_
  show WV _ _ _ 28 _ [] _ (mo_run (v2 (v2 (mo_plainly v) 203 30 (pm_or ((mo_plainly v) 203 30) m)) 203 31 (pm_or ((mo_plainly v) 203 31) k))) _
  have hX_7 : XI (mo_run (v2 (v2 (mo_plainly v) 203 30 (pm_or ((mo_plainly v) 203 30) m)) 203 31 (pm_or ((mo_plainly v) 203 31) k))) := i_mo_run (v := (v2 (v2 (mo_plainly v) 203 30 (pm_or ((mo_plainly v) 203 30) m)) 203 31 (pm_or ((mo_plainly v) 203 31) k))) hX_5 hp_6
  refine r_ex 2 (pc' := 32) (lo' := [some (.inr (.inr (some 203))), some (.inl m), some (.inl k)]) (st' := [.inl ((mo_run (v2 (v2 (mo_plainly v) 203 30 (pm_or ((mo_plainly v) 203 30) m)) 203 31 (pm_or ((mo_plainly v) 203 31) k))) 203 37)]) rfl ?_
  have hb_8 : 0 ≤ ((mo_run (v2 (v2 (mo_plainly v) 203 30 (pm_or ((mo_plainly v) 203 30) m)) 203 31 (pm_or ((mo_plainly v) 203 31) k))) 203 37) ∧ ((mo_run (v2 (v2 (mo_plainly v) 203 30 (pm_or ((mo_plainly v) 203 30) m)) 203 31 (pm_or ((mo_plainly v) 203 31) k))) 203 37) ≤ 300 := hX_7 203 37
  refine r_ret (rr := some (.inl ((mo_run (v2 (v2 (mo_plainly v) 203 30 (pm_or ((mo_plainly v) 203 30) m)) 203 31 (pm_or ((mo_plainly v) 203 31) k))) 203 37))) (I := .ireturn) (pc0 := 32) (len := 1) rfl rfl ?_
  exact hQ hX_7 (by first | assumption | omega | (unfold R32 at *; omega) | (unfold R64 at *; omega) | (simp only [R32, R64] at *; omega))

theorem e_mo_strikesBy {X : PX} {d b : Nat} {v : VS} {m : Int} {k : Int} (hX : XI v) (hp_a : 0 ≤ m ∧ m ≤ 511) (hp_b : 0 ≤ k ∧ k ≤ 4095) (hp_c : CF v) : EvV X (d + 1 + 1 + 1 + 1 + 1) 272 [.inr (.inr (some 203)), .inl m, .inl k] b v (some (.inl (mo_strikesBy v m k).1)) b ((mo_strikesBy v m k).2) := EvV.of (w_mo_strikesBy hX hp_a hp_b hp_c (fun _ _ => ⟨rfl, rfl, rfl⟩))

theorem i_mo_strikesBy {v : VS} {m : Int} {k : Int} (hX : XI v) (hp_a : 0 ≤ m ∧ m ≤ 511) (hp_b : 0 ≤ k ∧ k ≤ 4095) (hp_c : CF v) : XI ((mo_strikesBy v m k).2) := by
  have q : WV (0, fun _ => 0, none) (0 + 1 + 1 + 1 + 1 + 1) 272 0 [some (.inr (.inr (some 203))), some (.inl m), some (.inl k)] [] 1 v (fun _ _ _ => XI ((mo_strikesBy v m k).2)) := w_mo_strikesBy (X := (0, fun _ => 0, none)) (d := 0) (b := 1) hX hp_a hp_b hp_c (fun q _ => q)
  obtain ⟨_, _, _, _, _, _, _, q⟩ := q
  exact q

theorem n_mo_strikesBy {v : VS} {m : Int} {k : Int} (hX : XI v) (hp_a : 0 ≤ m ∧ m ≤ 511) (hp_b : 0 ≤ k ∧ k ≤ 4095) (hp_c : CF v) : 0 ≤ (mo_strikesBy v m k).1 ∧ (mo_strikesBy v m k).1 ≤ 300 := by
  have q : WV (0, fun _ => 0, none) (0 + 1 + 1 + 1 + 1 + 1) 272 0 [some (.inr (.inr (some 203))), some (.inl m), some (.inl k)] [] 1 v (fun _ _ _ => 0 ≤ (mo_strikesBy v m k).1 ∧ (mo_strikesBy v m k).1 ≤ 300) := w_mo_strikesBy (X := (0, fun _ => 0, none)) (d := 0) (b := 1) hX hp_a hp_b hp_c (fun _ q => q)
  obtain ⟨_, _, _, _, _, _, _, q⟩ := q
  exact q

theorem o_mo_strikesBy {rk : Nat} {v : VS} {m : Int} {k : Int} (hk : (rk < 203 ∨ 203 < rk) ∧ (rk < 219 ∨ 231 < rk)) : (mo_strikesBy v m k).2 rk = v rk := by
  unfold mo_strikesBy
  all_goals (show (mo_run (v2 (v2 (mo_plainly v) 203 30 (pm_or ((mo_plainly v) 203 30) m)) 203 31 (pm_or ((mo_plainly v) 203 31) k))) rk = _)
  all_goals (rw [o_mo_run (by omega), v2_row (by omega), v2_row (by omega), o_mo_plainly (by omega)])
