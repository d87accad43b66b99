/-! the reference: what is asked, IV -/
theorem SM.of {v v' : VS} (h : SM v) (e : ∀ k, (k = 203 ∨ k = 220 ∨ k = 230) → v' k = v k) : SM v' := by
  unfold SM at *
  rw [e 203 (by omega), e 220 (by omega), e 230 (by omega)]
  exact h

noncomputable def mo_commonOf_2 : Nat → VS → Int → Int → VS
  | 0, v, t, c => v
  | f + 1, v, t, c => (if c < (v 210 0) then (mo_commonOf_2 f (v2 v 232 ((c).toNat) (mo_hourOf v c t)) t (c + 1)) else v)
noncomputable def mo_commonOf_50 : Nat → VS → Int → Int → Int → Int → Int → Int
  | 0, v, g, m, h, n, c => 0
  | f + 1, v, g, m, h, n, c => (if c < (v 210 0) then (if (v 232 ((c).toNat)) = h then (mo_commonOf_50 f v g m h (n + 1) (c + 1)) else (mo_commonOf_50 f v g m h (n + 0) (c + 1))) else n)
noncomputable def mo_commonOf_37 : Nat → VS → Int → Int → Int → Int
  | 0, v, g, m, h => 0
  | f + 1, v, g, m, h => (if 99 < h then g else (if m < (mo_commonOf_50 10 v g m h 0 0) then (mo_commonOf_37 f v h (mo_commonOf_50 10 v g m h 0 0) (h + 1)) else (mo_commonOf_37 f v g m (h + 1))))
noncomputable def mo_commonOf_30 (v : VS)  : Int × VS :=
  ((mo_commonOf_37 101 v 0 0 1), v)
noncomputable def mo_commonOf (v : VS) (t : Int) : Int × VS :=
  (mo_commonOf_30  (mo_commonOf_2 10 v t 0))
theorem l_mo_commonOf_2 {X : PX} {d b : Nat} {Q : Option PV → Nat → VS → Prop}  : ∀ (f : Nat) (v : VS) (t : Int) (c : Int) (o3 : Option PV) (o4 : Option PV) (o5 : Option PV) (o6 : Option PV), XI v → (0 ≤ c ∧ c ≤ 9) → (R32 t) → (9 < c + f) → (∀ qx2 : Option PV, XI (mo_commonOf_2 f v t c) → WV X (d + 1 + 1) 293 30 [some (.inr (.inr (some 203))), some (.inl t), qx2, o3, o4, o5, o6] [] b (mo_commonOf_2 f v t c) Q) → WV X (d + 1 + 1) 293 2 [some (.inr (.inr (some 203))), some (.inl t), some (.inl c), o3, o4, o5, o6] [] b v Q := by
  intro f
  induction f with
  | zero =>
    intro v t c o3 o4 o5 o6 hX hi_0 hi_1 hf hK
    exfalso
    omega
  | succ f ih =>
    intro v t c o3 o4 o5 o6 hX hi_0 hi_1 hf hK
    rw [mo_commonOf_2] at hK
    refine r_ex 4 (pc' := 8) (lo' := [some (.inr (.inr (some 203))), some (.inl t), some (.inl c), o3, o4, o5, o6]) (st' := [.inl 0, .inr (.inr (some 210)), .inl c]) rfl ?_
    refine r_iald2 (j := 0) (x := (v 210 0)) (pc' := 9) (pc0 := 8) (len := 1) rfl (s_210 _) (by first | assumption | omega | (unfold R32 at *; omega) | (unfold R64 at *; omega) | (simp only [R32, R64] at *; omega)) (by decide) rfl rfl ?_
    have hb_1 : 0 ≤ (v 210 0) ∧ (v 210 0) ≤ 9 := hX 210 0
    refine n_ic_ge (pc0 := 9) (len := 3) (t := 30) rfl (by first | assumption | omega | (unfold R32 at *; omega) | (unfold R64 at *; omega) | (simp only [R32, R64] at *; omega)) (by first | assumption | omega | (unfold R32 at *; omega) | (unfold R64 at *; omega) | (simp only [R32, R64] at *; omega)) (fun h_9 => ?_) (fun h_9 => ?_)
    · show WV _ _ _ 30 _ _ _ _ _
      rw [if_neg h_9] at hK
      exact hK _ hX 
    · show WV _ _ _ 12 _ _ _ _ _
      rw [if_pos h_9] at hK
      refine r_ex 6 (pc' := 20) (lo' := [some (.inr (.inr (some 203))), some (.inl t), some (.inl c), o3, o4, o5, o6]) (st' := [.inl t, .inl c, .inr (.inr (some 203)), .inl c, .inr (.inr (some 232))]) rfl ?_
      have hp_2 : R32 c := (by first | assumption | omega | (unfold R32 at *; omega) | (unfold R64 at *; omega) | (simp only [R32, R64] at *; omega))
      have hp_3 : R32 t := (by first | assumption | omega | (unfold R32 at *; omega) | (unfold R64 at *; omega) | (simp only [R32, R64] at *; omega))
      refine r_call (m := 257) (args := [.inr (.inr (some 203)), .inl c, .inl t]) (n' := 293) (pc' := 23) (lo' := [some (.inr (.inr (some 203))), some (.inl t), some (.inl c), o3, o4, o5, o6]) (st' := [.inl c, .inr (.inr (some 232))]) (I := .invokevirtual 257) (pc0 := 20) (len := 3) rfl rfl rfl (e_mo_hourOf hX hp_2 hp_3) ?_
      show WV _ _ _ 23 _ [.inl (mo_hourOf v c t), .inl c, .inr (.inr (some 232))] _ _ _
      have hb_4 := n_mo_hourOf (v := v) (c := c) (t := t) hX hp_2 hp_3
      refine r_iast2 (pc' := 24) (pc0 := 23) (len := 1) rfl (s_232 _) (by first | assumption | omega | (unfold R32 at *; omega) | (unfold R64 at *; omega) | (simp only [R32, R64] at *; omega)) (by decide) rfl ?_
      have hX_5 : XI (v2 v 232 ((c).toNat) (mo_hourOf v c t)) := XI.put hX (show -1 ≤ (mo_hourOf v c t) ∧ (mo_hourOf v c t) ≤ 3699 from (by first | assumption | omega | (unfold R32 at *; omega) | (unfold R64 at *; omega) | (simp only [R32, R64] at *; omega)))
      refine r_ex 2 (pc' := 2) (lo' := [some (.inr (.inr (some 203))), some (.inl t), some (.inl (c + 1)), o3, o4, o5, o6]) (st' := []) rfl ?_
      refine ih (v2 v 232 ((c).toNat) (mo_hourOf v c t)) t (c + 1) _ _ _ _ hX_5 (by first | assumption | omega | (unfold R32 at *; omega) | (unfold R64 at *; omega) | (simp only [R32, R64] at *; omega)) (by first | assumption | omega | (unfold R32 at *; omega) | (unfold R64 at *; omega) | (simp only [R32, R64] at *; omega)) (by first | assumption | omega | (unfold R32 at *; omega) | (unfold R64 at *; omega) | (simp only [R32, R64] at *; omega)) hK

theorem of_mo_commonOf_2 {rk : Nat} (hk : (rk < 232 ∨ 232 < rk)) : ∀ (f : Nat) {v : VS} {t : Int} {c : Int}, (mo_commonOf_2 f v t c) rk = v rk := by
  intro f
  induction f with
  | zero => intro v t c; rfl
  | succ f ih =>
    intro v t c
    rw [mo_commonOf_2]
    by_cases hc_ : c < (v 210 0)
    · rw [if_pos hc_] <;> clear hc_
      all_goals (rw [ih, v2_row (by omega)])
    · rw [if_neg hc_] <;> clear hc_
      all_goals (show v rk = _)
      all_goals rfl
theorem o_mo_commonOf_2 {rk : Nat} {f : Nat} {v : VS} {t : Int} {c : Int} (hk : (rk < 232 ∨ 232 < rk)) : (mo_commonOf_2 f v t c) rk = v rk := of_mo_commonOf_2 hk f

theorem l_mo_commonOf_50 {X : PX} {d b : Nat} {Q : Option PV → Nat → VS → Prop}  : ∀ (f : Nat) (v : VS) (g : Int) (m : Int) (h : Int) (n : Int) (c : Int) (z1 : Int), XI v → (0 ≤ g ∧ g ≤ 99) → (0 ≤ m ∧ m ≤ 9) → (1 ≤ h ∧ h ≤ 99) → (0 ≤ n ∧ n ≤ c) → (0 ≤ c ∧ c ≤ 9) → (9 < c + f) → (∀ qx6 : Option PV, (0 ≤ (mo_commonOf_50 f v g m h n c) ∧ (mo_commonOf_50 f v g m h n c) ≤ 9) → WV X (d + 1 + 1) 293 89 [some (.inr (.inr (some 203))), some (.inl z1), some (.inl g), some (.inl m), some (.inl h), some (.inl (mo_commonOf_50 f v g m h n c)), qx6] [] b v Q) → WV X (d + 1 + 1) 293 50 [some (.inr (.inr (some 203))), some (.inl z1), some (.inl g), some (.inl m), some (.inl h), some (.inl n), some (.inl c)] [] b v Q := by
  intro f
  induction f with
  | zero =>
    intro v g m h n c z1 hX hi_0 hi_1 hi_2 hi_3 hi_4 hf hK
    exfalso
    omega
  | succ f ih =>
    intro v g m h n c z1 hX hi_0 hi_1 hi_2 hi_3 hi_4 hf hK
    rw [mo_commonOf_50] at hK
    refine r_ex 4 (pc' := 57) (lo' := [some (.inr (.inr (some 203))), some (.inl z1), some (.inl g), some (.inl m), some (.inl h), some (.inl n), some (.inl c)]) (st' := [.inl 0, .inr (.inr (some 210)), .inl c]) rfl ?_
    refine r_iald2 (j := 0) (x := (v 210 0)) (pc' := 58) (pc0 := 57) (len := 1) rfl (s_210 _) (by first | assumption | omega | (unfold R32 at *; omega) | (unfold R64 at *; omega) | (simp only [R32, R64] at *; omega)) (by decide) rfl rfl ?_
    have hb_7 : 0 ≤ (v 210 0) ∧ (v 210 0) ≤ 9 := hX 210 0
    refine n_ic_ge (pc0 := 58) (len := 3) (t := 89) rfl (by first | assumption | omega | (unfold R32 at *; omega) | (unfold R64 at *; omega) | (simp only [R32, R64] at *; omega)) (by first | assumption | omega | (unfold R32 at *; omega) | (unfold R64 at *; omega) | (simp only [R32, R64] at *; omega)) (fun h_58 => ?_) (fun h_58 => ?_)
    · show WV _ _ _ 89 _ _ _ _ _
      rw [if_neg h_58] at hK
      exact hK _  (by first | assumption | omega | (unfold R32 at *; omega) | (unfold R64 at *; omega) | (simp only [R32, R64] at *; omega))
    · show WV _ _ _ 61 _ _ _ _ _
      rw [if_pos h_58] at hK
      refine r_ex 4 (pc' := 69) (lo' := [some (.inr (.inr (some 203))), some (.inl z1), some (.inl g), some (.inl m), some (.inl h), some (.inl n), some (.inl c)]) (st' := [.inl c, .inr (.inr (some 232)), .inl n]) rfl ?_
      refine r_iald2 (j := 0) (x := (v 232 ((c).toNat))) (pc' := 70) (pc0 := 69) (len := 1) rfl (s_232 _) (by first | assumption | omega | (unfold R32 at *; omega) | (unfold R64 at *; omega) | (simp only [R32, R64] at *; omega)) (by decide) rfl rfl ?_
      have hb_8 : -1 ≤ (v 232 ((c).toNat)) ∧ (v 232 ((c).toNat)) ≤ 3699 := hX 232 ((c).toNat)
      refine r_ex 1 (pc' := 72) (lo' := [some (.inr (.inr (some 203))), some (.inl z1), some (.inl g), some (.inl m), some (.inl h), some (.inl n), some (.inl c)]) (st' := [.inl h, .inl (v 232 ((c).toNat)), .inl n]) rfl ?_
      refine n_ic_ne (pc0 := 72) (len := 3) (t := 79) rfl (by first | assumption | omega | (unfold R32 at *; omega) | (unfold R64 at *; omega) | (simp only [R32, R64] at *; omega)) (by first | assumption | omega | (unfold R32 at *; omega) | (unfold R64 at *; omega) | (simp only [R32, R64] at *; omega)) (fun h_72 => ?_) (fun h_72 => ?_)
      · show WV _ _ _ 79 _ _ _ _ _
        rw [if_neg h_72] at hK
        refine r_ex 5 (pc' := 50) (lo' := [some (.inr (.inr (some 203))), some (.inl z1), some (.inl g), some (.inl m), some (.inl h), some (.inl (n + 0)), some (.inl (c + 1))]) (st' := []) rfl ?_
        refine ih v g m h (n + 0) (c + 1) _ hX (by first | assumption | omega | (unfold R32 at *; omega) | (unfold R64 at *; omega) | (simp only [R32, R64] at *; omega)) (by first | assumption | omega | (unfold R32 at *; omega) | (unfold R64 at *; omega) | (simp only [R32, R64] at *; omega)) (by first | assumption | omega | (unfold R32 at *; omega) | (unfold R64 at *; omega) | (simp only [R32, R64] at *; omega)) (by first | assumption | omega | (unfold R32 at *; omega) | (unfold R64 at *; omega) | (simp only [R32, R64] at *; omega)) (by first | assumption | omega | (unfold R32 at *; omega) | (unfold R64 at *; omega) | (simp only [R32, R64] at *; omega)) (by first | assumption | omega | (unfold R32 at *; omega) | (unfold R64 at *; omega) | (simp only [R32, R64] at *; omega)) hK
      · show WV _ _ _ 75 _ _ _ _ _
        rw [if_pos h_72] at hK
        refine r_ex 6 (pc' := 50) (lo' := [some (.inr (.inr (some 203))), some (.inl z1), some (.inl g), some (.inl m), some (.inl h), some (.inl (n + 1)), some (.inl (c + 1))]) (st' := []) rfl ?_
        refine ih v g m h (n + 1) (c + 1) _ hX (by first | assumption | omega | (unfold R32 at *; omega) | (unfold R64 at *; omega) | (simp only [R32, R64] at *; omega)) (by first | assumption | omega | (unfold R32 at *; omega) | (unfold R64 at *; omega) | (simp only [R32, R64] at *; omega)) (by first | assumption | omega | (unfold R32 at *; omega) | (unfold R64 at *; omega) | (simp only [R32, R64] at *; omega)) (by first | assumption | omega | (unfold R32 at *; omega) | (unfold R64 at *; omega) | (simp only [R32, R64] at *; omega)) (by first | assumption | omega | (unfold R32 at *; omega) | (unfold R64 at *; omega) | (simp only [R32, R64] at *; omega)) (by first | assumption | omega | (unfold R32 at *; omega) | (unfold R64 at *; omega) | (simp only [R32, R64] at *; omega)) hK

theorem l_mo_commonOf_37 {X : PX} {d b : Nat} {Q : Option PV → Nat → VS → Prop}  : ∀ (f : Nat) (v : VS) (g : Int) (m : Int) (h : Int) (o5 : Option PV) (o6 : Option PV) (z1 : Int), XI v → (0 ≤ g ∧ g ≤ 99) → (0 ≤ m ∧ m ≤ 9) → (1 ≤ h ∧ h ≤ 100) → (100 < h + f) → (∀ qx3 : Option PV, ∀ qx4 : Option PV, ∀ qx5 : Option PV, ∀ qx6 : Option PV, (0 ≤ (mo_commonOf_37 f v g m h) ∧ (mo_commonOf_37 f v g m h) ≤ 99) → WV X (d + 1 + 1) 293 110 [some (.inr (.inr (some 203))), some (.inl z1), some (.inl (mo_commonOf_37 f v g m h)), qx3, qx4, qx5, qx6] [] b v Q) → WV X (d + 1 + 1) 293 37 [some (.inr (.inr (some 203))), some (.inl z1), some (.inl g), some (.inl m), some (.inl h), o5, o6] [] b v Q := by
  intro f
  induction f with
  | zero =>
    intro v g m h o5 o6 z1 hX hi_0 hi_1 hi_2 hf hK
    exfalso
    omega
  | succ f ih =>
    intro v g m h o5 o6 z1 hX hi_0 hi_1 hi_2 hf hK
    rw [mo_commonOf_37] at hK
    refine r_ex 2 (pc' := 41) (lo' := [some (.inr (.inr (some 203))), some (.inl z1), some (.inl g), some (.inl m), some (.inl h), o5, o6]) (st' := [.inl 99, .inl h]) rfl ?_
    refine n_ic_gt (pc0 := 41) (len := 3) (t := 110) rfl (by first | assumption | omega | (unfold R32 at *; omega) | (unfold R64 at *; omega) | (simp only [R32, R64] at *; omega)) (by first | assumption | omega | (unfold R32 at *; omega) | (unfold R64 at *; omega) | (simp only [R32, R64] at *; omega)) (fun h_41 => ?_) (fun h_41 => ?_)
    · show WV _ _ _ 110 _ _ _ _ _
      rw [if_pos h_41] at hK
      exact hK _ _ _ _  (by first | assumption | omega | (unfold R32 at *; omega) | (unfold R64 at *; omega) | (simp only [R32, R64] at *; omega))
    · show WV _ _ _ 44 _ _ _ _ _
      rw [if_neg h_41] at hK
      refine r_ex 4 (pc' := 50) (lo' := [some (.inr (.inr (some 203))), some (.inl z1), some (.inl g), some (.inl m), some (.inl h), some (.inl 0), some (.inl 0)]) (st' := []) rfl ?_
      refine l_mo_commonOf_50 10 v g m h 0 0 _ hX (by first | assumption | omega | (unfold R32 at *; omega) | (unfold R64 at *; omega) | (simp only [R32, R64] at *; omega)) (by first | assumption | omega | (unfold R32 at *; omega) | (unfold R64 at *; omega) | (simp only [R32, R64] at *; omega)) (by first | assumption | omega | (unfold R32 at *; omega) | (unfold R64 at *; omega) | (simp only [R32, R64] at *; omega)) (by first | assumption | omega | (unfold R32 at *; omega) | (unfold R64 at *; omega) | (simp only [R32, R64] at *; omega)) (by first | assumption | omega | (unfold R32 at *; omega) | (unfold R64 at *; omega) | (simp only [R32, R64] at *; omega)) (by first | assumption | omega | (unfold R32 at *; omega) | (unfold R64 at *; omega) | (simp only [R32, R64] at *; omega)) (fun o6_9  hv_9_0 => ?_)
      show WV _ _ _ 89 _ _ _ _ _
      refine r_ex 2 (pc' := 92) (lo' := [some (.inr (.inr (some 203))), some (.inl z1), some (.inl g), some (.inl m), some (.inl h), some (.inl (mo_commonOf_50 10 v g m h 0 0)), o6_9]) (st' := [.inl m, .inl (mo_commonOf_50 10 v g m h 0 0)]) rfl ?_
      refine n_ic_gt (pc0 := 92) (len := 3) (t := 98) rfl (by first | assumption | omega | (unfold R32 at *; omega) | (unfold R64 at *; omega) | (simp only [R32, R64] at *; omega)) (by first | assumption | omega | (unfold R32 at *; omega) | (unfold R64 at *; omega) | (simp only [R32, R64] at *; omega)) (fun h_92 => ?_) (fun h_92 => ?_)
      · show WV _ _ _ 98 _ _ _ _ _
        rw [if_pos h_92] at hK
        refine r_ex 6 (pc' := 37) (lo' := [some (.inr (.inr (some 203))), some (.inl z1), some (.inl h), some (.inl (mo_commonOf_50 10 v g m h 0 0)), some (.inl (h + 1)), some (.inl (mo_commonOf_50 10 v g m h 0 0)), o6_9]) (st' := []) rfl ?_
        refine ih v h (mo_commonOf_50 10 v g m h 0 0) (h + 1) _ _ _ hX (by first | assumption | omega | (unfold R32 at *; omega) | (unfold R64 at *; omega) | (simp only [R32, R64] at *; omega)) (by first | assumption | omega | (unfold R32 at *; omega) | (unfold R64 at *; omega) | (simp only [R32, R64] at *; omega)) (by first | assumption | omega | (unfold R32 at *; omega) | (unfold R64 at *; omega) | (simp only [R32, R64] at *; omega)) (by first | assumption | omega | (unfold R32 at *; omega) | (unfold R64 at *; omega) | (simp only [R32, R64] at *; omega)) hK
      · show WV _ _ _ 95 _ _ _ _ _
        rw [if_neg h_92] at hK
        refine r_ex 3 (pc' := 37) (lo' := [some (.inr (.inr (some 203))), some (.inl z1), some (.inl g), some (.inl m), some (.inl (h + 1)), some (.inl (mo_commonOf_50 10 v g m h 0 0)), o6_9]) (st' := []) rfl ?_
        refine ih v g m (h + 1) _ _ _ hX (by first | assumption | omega | (unfold R32 at *; omega) | (unfold R64 at *; omega) | (simp only [R32, R64] at *; omega)) (by first | assumption | omega | (unfold R32 at *; omega) | (unfold R64 at *; omega) | (simp only [R32, R64] at *; omega)) (by first | assumption | omega | (unfold R32 at *; omega) | (unfold R64 at *; omega) | (simp only [R32, R64] at *; omega)) (by first | assumption | omega | (unfold R32 at *; omega) | (unfold R64 at *; omega) | (simp only [R32, R64] at *; omega)) hK

theorem l_mo_commonOf_30 {X : PX} {d b : Nat} {Q : Option PV → Nat → VS → Prop}  : ∀ (v : VS)  (o2 : Option PV) (o3 : Option PV) (o4 : Option PV) (o5 : Option PV) (o6 : Option PV) (z1 : Int), XI v → (XI (mo_commonOf_30 v).2 → (0 ≤ (mo_commonOf_30 v).1 ∧ (mo_commonOf_30 v).1 ≤ 99) → Q (some (.inl (mo_commonOf_30 v).1)) b (mo_commonOf_30 v).2) → WV X (d + 1 + 1) 293 30 [some (.inr (.inr (some 203))), some (.inl z1), o2, o3, o4, o5, o6] [] b v Q := by
  intro v o2 o3 o4 o5 o6 z1 hX hQ
  rw [mo_commonOf_30] at hQ
  refine r_ex 6 (pc' := 37) (lo' := [some (.inr (.inr (some 203))), some (.inl z1), some (.inl 0), some (.inl 0), some (.inl 1), o5, o6]) (st' := []) rfl ?_
  refine l_mo_commonOf_37 101 v 0 0 1 _ _ _ hX (by first | assumption | omega | (unfold R32 at *; omega) | (unfold R64 at *; omega) | (simp only [R32, R64] at *; omega)) (by first | assumption | omega | (unfold R32 at *; omega) | (unfold R64 at *; omega) | (simp only [R32, R64] at *; omega)) (by first | assumption | omega | (unfold R32 at *; omega) | (unfold R64 at *; omega) | (simp only [R32, R64] at *; omega)) (by first | assumption | omega | (unfold R32 at *; omega) | (unfold R64 at *; omega) | (simp only [R32, R64] at *; omega)) (fun o3_10 o4_10 o5_10 o6_10  hv_10_0 => ?_)
  show WV _ _ _ 110 _ _ _ _ _
  refine r_ex 1 (pc' := 111) (lo' := [some (.inr (.inr (some 203))), some (.inl z1), some (.inl (mo_commonOf_37 101 v 0 0 1)), o3_10, o4_10, o5_10, o6_10]) (st' := [.inl (mo_commonOf_37 101 v 0 0 1)]) rfl ?_
  refine r_ret (rr := some (.inl (mo_commonOf_37 101 v 0 0 1))) (I := .ireturn) (pc0 := 111) (len := 1) rfl rfl ?_
  exact hQ hX (by first | assumption | omega | (unfold R32 at *; omega) | (unfold R64 at *; omega) | (simp only [R32, R64] at *; omega))

theorem o_mo_commonOf_30 {rk : Nat} {v : VS}   : (mo_commonOf_30 v ).2 rk = v rk := by
  unfold mo_commonOf_30
  all_goals (show v rk = _)
  all_goals rfl

theorem w_mo_commonOf {X : PX} {d b : Nat} {v : VS} {t : Int} (hX : XI v) (hp_a : R32 t) {Q : Option PV → Nat → VS → Prop} (hQ : XI (mo_commonOf v t).2 → (0 ≤ (mo_commonOf v t).1 ∧ (mo_commonOf v t).1 ≤ 99) → Q (some (.inl (mo_commonOf v t).1)) b (mo_commonOf v t).2) : WV X (d + 1 + 1) 293 0 [some (.inr (.inr (some 203))), some (.inl t), none, none, none, none, none] [] b v Q := by
  rw [mo_commonOf] at hQ
  refine r_ex 2 (pc' := 2) (lo' := [some (.inr (.inr (some 203))), some (.inl t), some (.inl 0), none, none, none, none]) (st' := []) rfl ?_
  refine l_mo_commonOf_2 10 v t 0 _ _ _ _ hX (by first | assumption | omega | (unfold R32 at *; omega) | (unfold R64 at *; omega) | (simp only [R32, R64] at *; omega)) (by first | assumption | omega | (unfold R32 at *; omega) | (unfold R64 at *; omega) | (simp only [R32, R64] at *; omega)) (by first | assumption | omega | (unfold R32 at *; omega) | (unfold R64 at *; omega) | (simp only [R32, R64] at *; omega)) (fun o2_6 hX_6  => ?_)
  show WV _ _ _ 30 _ _ _ _ _
  exact l_mo_commonOf_30  (mo_commonOf_2 10 v t 0)  _ _ _ _ _ _ hX_6  hQ

theorem e_mo_commonOf {X : PX} {d b : Nat} {v : VS} {t : Int} (hX : XI v) (hp_a : R32 t) : EvV X (d + 1 + 1) 293 [.inr (.inr (some 203)), .inl t] b v (some (.inl (mo_commonOf v t).1)) b ((mo_commonOf v t).2) := EvV.of (w_mo_commonOf hX hp_a (fun _ _ => ⟨rfl, rfl, rfl⟩))

theorem i_mo_commonOf {v : VS} {t : Int} (hX : XI v) (hp_a : R32 t) : XI ((mo_commonOf v t).2) := by
  have q : WV (0, fun _ => 0, none) (0 + 1 + 1) 293 0 [some (.inr (.inr (some 203))), some (.inl t), none, none, none, none, none] [] 1 v (fun _ _ _ => XI ((mo_commonOf v t).2)) := w_mo_commonOf (X := (0, fun _ => 0, none)) (d := 0) (b := 1) hX hp_a (fun q _ => q)
  obtain ⟨_, _, _, _, _, _, _, q⟩ := q
  exact q

theorem n_mo_commonOf {v : VS} {t : Int} (hX : XI v) (hp_a : R32 t) : 0 ≤ (mo_commonOf v t).1 ∧ (mo_commonOf v t).1 ≤ 99 := by
  have q : WV (0, fun _ => 0, none) (0 + 1 + 1) 293 0 [some (.inr (.inr (some 203))), some (.inl t), none, none, none, none, none] [] 1 v (fun _ _ _ => 0 ≤ (mo_commonOf v t).1 ∧ (mo_commonOf v t).1 ≤ 99) := w_mo_commonOf (X := (0, fun _ => 0, none)) (d := 0) (b := 1) hX hp_a (fun _ q => q)
  obtain ⟨_, _, _, _, _, _, _, q⟩ := q
  exact q

theorem o_mo_commonOf {rk : Nat} {v : VS} {t : Int} (hk : (rk < 232 ∨ 232 < rk)) : (mo_commonOf v t).2 rk = v rk := by
  unfold mo_commonOf
  all_goals (rw [o_mo_commonOf_30, o_mo_commonOf_2 (by omega)])

noncomputable def mo_common (v : VS) (s : Int) : Int × VS :=
  (if 0 ≤ s ∧ s < (v 210 1) then ((mo_commonOf (mo_told (v2 v 203 0 0)) s).1, (mo_commonOf (mo_told (v2 v 203 0 0)) s).2) else ((-2), (v2 v 203 0 0)))
theorem w_mo_common {X : PX} {d b : Nat} {v : VS} {s : Int} (hX : XI v) (hp_a : R32 s) (hp_b : CF v) {Q : Option PV → Nat → VS → Prop} (hQ : XI (mo_common v s).2 → Q (some (.inl (mo_common v s).1)) b (mo_common v s).2) : WV X (d + 1 + 1 + 1 + 1 + 1 + 1) 292 0 [some (.inr (.inr (some 203))), some (.inl s)] [] b v Q := by
  rw [mo_common] at hQ
  refine r_ex 2 (pc' := 2) (lo' := [some (.inr (.inr (some 203))), some (.inl s)]) (st' := [.inl 0, .inr (.inr (some 203))]) rfl ?_
  refine r_puti2 (j := 0) (pc' := 5) (pc0 := 2) (len := 3) rfl (s_203 _) rfl rfl rfl (Or.inl rfl) rfl rfl ?_
  have hX_1 : XI (v2 v 203 0 0) := XI.put hX trivial
  refine r_ex 2 (pc' := 7) (lo' := [some (.inr (.inr (some 203))), some (.inl s)]) (st' := [.inl s, .inr (.inr (some 203))]) rfl ?_
  refine n_i2l (pc' := 8) (pc0 := 7) (len := 1) rfl (by first | assumption | omega | (unfold R32 at *; omega) | (unfold R64 at *; omega) | (simp only [R32, R64] at *; omega)) rfl ?_
  have hp_2 : R64 s := (by first | assumption | omega | (unfold R32 at *; omega) | (unfold R64 at *; omega) | (simp only [R32, R64] at *; omega))
  have hb_3 : 0 ≤ (v 210 1) ∧ (v 210 1) ≤ 300 := hX_1 210 1
  refine r_callb (P := 0 ≤ s ∧ s < (v 210 1)) (m := 240) (args := [.inr (.inr (some 203)), .inr (.inl s)]) (n' := 292) (pc' := 11) (lo' := [some (.inr (.inr (some 203))), some (.inl s)]) (st' := []) (I := .invokevirtual 240) (pc0 := 8) (len := 3) rfl rfl rfl (e_mo_isSecond hX_1 hp_2) (fun h_8 => ?_) (fun h_8 => ?_)
  · show WV _ _ _ 11 _ _ _ _ _
    rw [if_pos h_8] at hQ
    refine r_ex 2 (pc' := 18) (lo' := [some (.inr (.inr (some 203))), some (.inl s)]) (st' := [.inr (.inr (some 203))]) rfl ?_
    have hp_4 : CF (v2 v 203 0 0) := show CF (v2 v 203 0 0) from (show CF (v2 v 203 0 0) from CF.of hp_b (fun k h1 h2 => by rw [v2_row (by omega)]))
    refine r_call (m := 246) (args := [.inr (.inr (some 203))]) (n' := 292) (pc' := 21) (lo' := [some (.inr (.inr (some 203))), some (.inl s)]) (st' := []) (I := .invokevirtual 246) (pc0 := 18) (len := 3) rfl rfl rfl (e_mo_told hX_1 hp_4) ?_
    show WV _ _ _ 21 _ [] _ (mo_told (v2 v 203 0 0)) _
    have hX_5 : XI (mo_told (v2 v 203 0 0)) := i_mo_told (v := (v2 v 203 0 0)) hX_1 hp_4
    refine r_ex 2 (pc' := 23) (lo' := [some (.inr (.inr (some 203))), some (.inl s)]) (st' := [.inl s, .inr (.inr (some 203))]) rfl ?_
    have hp_6 : R32 s := (by first | assumption | omega | (unfold R32 at *; omega) | (unfold R64 at *; omega) | (simp only [R32, R64] at *; omega))
    refine r_call (m := 293) (args := [.inr (.inr (some 203)), .inl s]) (n' := 292) (pc' := 26) (lo' := [some (.inr (.inr (some 203))), some (.inl s)]) (st' := []) (I := .invokevirtual 293) (pc0 := 23) (len := 3) rfl rfl rfl (e_mo_commonOf hX_5 hp_6) ?_
    show WV _ _ _ 26 _ [.inl ((mo_commonOf (mo_told (v2 v 203 0 0)) s).1)] _ (mo_commonOf (mo_told (v2 v 203 0 0)) s).2 _
    have hX_7 : XI (mo_commonOf (mo_told (v2 v 203 0 0)) s).2 := i_mo_commonOf (v := (mo_told (v2 v 203 0 0))) (t := s) hX_5 hp_6
    have hb_8 := n_mo_commonOf (v := (mo_told (v2 v 203 0 0))) (t := s) hX_5 hp_6
    refine r_ret (rr := some (.inl ((mo_commonOf (mo_told (v2 v 203 0 0)) s).1))) (I := .ireturn) (pc0 := 26) (len := 1) rfl rfl ?_
    exact hQ hX_7 
  · show WV _ _ _ 11 _ _ _ _ _
    rw [if_neg h_8] at hQ
    refine r_ex 2 (pc' := 16) (lo' := [some (.inr (.inr (some 203))), some (.inl s)]) (st' := [.inl (-2)]) rfl ?_
    refine r_ret (rr := some (.inl (-2))) (I := .ireturn) (pc0 := 16) (len := 1) rfl rfl ?_
    exact hQ hX_1 

theorem e_mo_common {X : PX} {d b : Nat} {v : VS} {s : Int} (hX : XI v) (hp_a : R32 s) (hp_b : CF v) : EvV X (d + 1 + 1 + 1 + 1 + 1 + 1) 292 [.inr (.inr (some 203)), .inl s] b v (some (.inl (mo_common v s).1)) b ((mo_common v s).2) := EvV.of (w_mo_common hX hp_a hp_b (fun _ => ⟨rfl, rfl, rfl⟩))

theorem i_mo_common {v : VS} {s : Int} (hX : XI v) (hp_a : R32 s) (hp_b : CF v) : XI ((mo_common v s).2) := by
  have q : WV (0, fun _ => 0, none) (0 + 1 + 1 + 1 + 1 + 1 + 1) 292 0 [some (.inr (.inr (some 203))), some (.inl s)] [] 1 v (fun _ _ _ => XI ((mo_common v s).2)) := w_mo_common (X := (0, fun _ => 0, none)) (d := 0) (b := 1) hX hp_a hp_b (fun q => q)
  obtain ⟨_, _, _, _, _, _, _, q⟩ := q
  exact q

theorem o_mo_common {rk : Nat} {v : VS} {s : Int} (hk : (rk < 203 ∨ 203 < rk) ∧ (rk < 219 ∨ 232 < rk)) : (mo_common v s).2 rk = v rk := by
  unfold mo_common
  by_cases hc_ : 0 ≤ s ∧ s < (v 210 1)
  · rw [if_pos hc_] <;> clear hc_
    all_goals (show ((mo_commonOf (mo_told (v2 v 203 0 0)) s).2) rk = _)
    all_goals (rw [o_mo_commonOf (by omega), o_mo_told (by omega), v2_row (by omega)])
  · rw [if_neg hc_] <;> clear hc_
    all_goals (show (v2 v 203 0 0) rk = _)
    all_goals (rw [v2_row (by omega)])

noncomputable def mo_strayed_32 : Nat → VS → Int → Int → Int → Int
  | 0, v, g, n, c => 0
  | f + 1, v, g, n, c => (if c < (v 210 0) then (if (v 232 ((c).toNat)) = 0 then (mo_strayed_32 f v g (n + 1) (c + 1)) else (if (v 232 ((c).toNat)) = g then (mo_strayed_32 f v g (n + 0) (c + 1)) else (mo_strayed_32 f v g (n + 1) (c + 1)))) else n)
noncomputable def mo_strayed (v : VS) (s : Int) : Int × VS :=
  (if 0 ≤ s ∧ s < (v 210 1) then ((mo_strayed_32 10 ((mo_commonOf (mo_told (v2 v 203 0 0)) s).2) ((mo_commonOf (mo_told (v2 v 203 0 0)) s).1) 0 0), (mo_commonOf (mo_told (v2 v 203 0 0)) s).2) else ((-2), (v2 v 203 0 0)))
theorem l_mo_strayed_32 {X : PX} {d b : Nat} {Q : Option PV → Nat → VS → Prop}  : ∀ (f : Nat) (v : VS) (g : Int) (n : Int) (c : Int) (z1 : Int), XI v → (0 ≤ g ∧ g ≤ 99) → (0 ≤ n ∧ n ≤ c) → (0 ≤ c ∧ c ≤ 9) → (9 < c + f) → (∀ qx4 : Option PV, (0 ≤ (mo_strayed_32 f v g n c) ∧ (mo_strayed_32 f v g n c) ≤ 9) → WV X (d + 1 + 1 + 1 + 1 + 1 + 1) 294 78 [some (.inr (.inr (some 203))), some (.inl z1), some (.inl g), some (.inl (mo_strayed_32 f v g n c)), qx4] [] b v Q) → WV X (d + 1 + 1 + 1 + 1 + 1 + 1) 294 32 [some (.inr (.inr (some 203))), some (.inl z1), some (.inl g), some (.inl n), some (.inl c)] [] b v Q := by
  intro f
  induction f with
  | zero =>
    intro v g n c z1 hX hi_0 hi_1 hi_2 hf hK
    exfalso
    omega
  | succ f ih =>
    intro v g n c z1 hX hi_0 hi_1 hi_2 hf hK
    rw [mo_strayed_32] at hK
    refine r_ex 4 (pc' := 39) (lo' := [some (.inr (.inr (some 203))), some (.inl z1), some (.inl g), some (.inl n), some (.inl c)]) (st' := [.inl 0, .inr (.inr (some 210)), .inl c]) rfl ?_
    refine r_iald2 (j := 0) (x := (v 210 0)) (pc' := 40) (pc0 := 39) (len := 1) rfl (s_210 _) (by first | assumption | omega | (unfold R32 at *; omega) | (unfold R64 at *; omega) | (simp only [R32, R64] at *; omega)) (by decide) rfl rfl ?_
    have hb_9 : 0 ≤ (v 210 0) ∧ (v 210 0) ≤ 9 := hX 210 0
    refine n_ic_ge (pc0 := 40) (len := 3) (t := 78) rfl (by first | assumption | omega | (unfold R32 at *; omega) | (unfold R64 at *; omega) | (simp only [R32, R64] at *; omega)) (by first | assumption | omega | (unfold R32 at *; omega) | (unfold R64 at *; omega) | (simp only [R32, R64] at *; omega)) (fun h_40 => ?_) (fun h_40 => ?_)
    · show WV _ _ _ 78 _ _ _ _ _
      rw [if_neg h_40] at hK
      exact hK _  (by first | assumption | omega | (unfold R32 at *; omega) | (unfold R64 at *; omega) | (simp only [R32, R64] at *; omega))
    · show WV _ _ _ 43 _ _ _ _ _
      rw [if_pos h_40] at hK
      refine r_ex 4 (pc' := 50) (lo' := [some (.inr (.inr (some 203))), some (.inl z1), some (.inl g), some (.inl n), some (.inl c)]) (st' := [.inl c, .inr (.inr (some 232)), .inl n]) rfl ?_
      refine r_iald2 (j := 0) (x := (v 232 ((c).toNat))) (pc' := 51) (pc0 := 50) (len := 1) rfl (s_232 _) (by first | assumption | omega | (unfold R32 at *; omega) | (unfold R64 at *; omega) | (simp only [R32, R64] at *; omega)) (by decide) rfl rfl ?_
      have hb_10 : -1 ≤ (v 232 ((c).toNat)) ∧ (v 232 ((c).toNat)) ≤ 3699 := hX 232 ((c).toNat)
      refine n_if_eq (pc0 := 51) (len := 3) (t := 65) rfl (by first | assumption | omega | (unfold R32 at *; omega) | (unfold R64 at *; omega) | (simp only [R32, R64] at *; omega)) (fun h_51 => ?_) (fun h_51 => ?_)
      · show WV _ _ _ 65 _ _ _ _ _
        rw [if_pos h_51] at hK
        refine r_ex 6 (pc' := 32) (lo' := [some (.inr (.inr (some 203))), some (.inl z1), some (.inl g), some (.inl (n + 1)), some (.inl (c + 1))]) (st' := []) rfl ?_
        refine ih v g (n + 1) (c + 1) _ hX (by first | assumption | omega | (unfold R32 at *; omega) | (unfold R64 at *; omega) | (simp only [R32, R64] at *; omega)) (by first | assumption | omega | (unfold R32 at *; omega) | (unfold R64 at *; omega) | (simp only [R32, R64] at *; omega)) (by first | assumption | omega | (unfold R32 at *; omega) | (unfold R64 at *; omega) | (simp only [R32, R64] at *; omega)) (by first | assumption | omega | (unfold R32 at *; omega) | (unfold R64 at *; omega) | (simp only [R32, R64] at *; omega)) hK
      · show WV _ _ _ 54 _ _ _ _ _
        rw [if_neg h_51] at hK
        refine r_ex 3 (pc' := 60) (lo' := [some (.inr (.inr (some 203))), some (.inl z1), some (.inl g), some (.inl n), some (.inl c)]) (st' := [.inl c, .inr (.inr (some 232)), .inl n]) rfl ?_
        refine r_iald2 (j := 0) (x := (v 232 ((c).toNat))) (pc' := 61) (pc0 := 60) (len := 1) rfl (s_232 _) (by first | assumption | omega | (unfold R32 at *; omega) | (unfold R64 at *; omega) | (simp only [R32, R64] at *; omega)) (by decide) rfl rfl ?_
        refine r_ex 1 (pc' := 62) (lo' := [some (.inr (.inr (some 203))), some (.inl z1), some (.inl g), some (.inl n), some (.inl c)]) (st' := [.inl g, .inl (v 232 ((c).toNat)), .inl n]) rfl ?_
        refine n_ic_eq (pc0 := 62) (len := 3) (t := 69) rfl (by first | assumption | omega | (unfold R32 at *; omega) | (unfold R64 at *; omega) | (simp only [R32, R64] at *; omega)) (by first | assumption | omega | (unfold R32 at *; omega) | (unfold R64 at *; omega) | (simp only [R32, R64] at *; omega)) (fun h_62 => ?_) (fun h_62 => ?_)
        · show WV _ _ _ 69 _ _ _ _ _
          rw [if_pos h_62] at hK
          refine r_ex 5 (pc' := 32) (lo' := [some (.inr (.inr (some 203))), some (.inl z1), some (.inl g), some (.inl (n + 0)), some (.inl (c + 1))]) (st' := []) rfl ?_
          refine ih v g (n + 0) (c + 1) _ hX (by first | assumption | omega | (unfold R32 at *; omega) | (unfold R64 at *; omega) | (simp only [R32, R64] at *; omega)) (by first | assumption | omega | (unfold R32 at *; omega) | (unfold R64 at *; omega) | (simp only [R32, R64] at *; omega)) (by first | assumption | omega | (unfold R32 at *; omega) | (unfold R64 at *; omega) | (simp only [R32, R64] at *; omega)) (by first | assumption | omega | (unfold R32 at *; omega) | (unfold R64 at *; omega) | (simp only [R32, R64] at *; omega)) hK
        · show WV _ _ _ 65 _ _ _ _ _
          rw [if_neg h_62] at hK
          refine r_ex 6 (pc' := 32) (lo' := [some (.inr (.inr (some 203))), some (.inl z1), some (.inl g), some (.inl (n + 1)), some (.inl (c + 1))]) (st' := []) rfl ?_
          refine ih v g (n + 1) (c + 1) _ hX (by first | assumption | omega | (unfold R32 at *; omega) | (unfold R64 at *; omega) | (simp only [R32, R64] at *; omega)) (by first | assumption | omega | (unfold R32 at *; omega) | (unfold R64 at *; omega) | (simp only [R32, R64] at *; omega)) (by first | assumption | omega | (unfold R32 at *; omega) | (unfold R64 at *; omega) | (simp only [R32, R64] at *; omega)) (by first | assumption | omega | (unfold R32 at *; omega) | (unfold R64 at *; omega) | (simp only [R32, R64] at *; omega)) hK

theorem w_mo_strayed {X : PX} {d b : Nat} {v : VS} {s : Int} (hX : XI v) (hp_a : R32 s) (hp_b : CF v) {Q : Option PV → Nat → VS → Prop} (hQ : XI (mo_strayed v s).2 → Q (some (.inl (mo_strayed v s).1)) b (mo_strayed v s).2) : WV X (d + 1 + 1 + 1 + 1 + 1 + 1) 294 0 [some (.inr (.inr (some 203))), some (.inl s), none, none, none] [] b v Q := by
  rw [mo_strayed] at hQ
  refine r_ex 2 (pc' := 2) (lo' := [some (.inr (.inr (some 203))), some (.inl s), none, none, none]) (st' := [.inl 0, .inr (.inr (some 203))]) rfl ?_
  refine r_puti2 (j := 0) (pc' := 5) (pc0 := 2) (len := 3) rfl (s_203 _) rfl rfl rfl (Or.inl rfl) rfl rfl ?_
  have hX_1 : XI (v2 v 203 0 0) := XI.put hX trivial
  refine r_ex 2 (pc' := 7) (lo' := [some (.inr (.inr (some 203))), some (.inl s), none, none, none]) (st' := [.inl s, .inr (.inr (some 203))]) rfl ?_
  refine n_i2l (pc' := 8) (pc0 := 7) (len := 1) rfl (by first | assumption | omega | (unfold R32 at *; omega) | (unfold R64 at *; omega) | (simp only [R32, R64] at *; omega)) rfl ?_
  have hp_2 : R64 s := (by first | assumption | omega | (unfold R32 at *; omega) | (unfold R64 at *; omega) | (simp only [R32, R64] at *; omega))
  have hb_3 : 0 ≤ (v 210 1) ∧ (v 210 1) ≤ 300 := hX_1 210 1
  refine r_callb (P := 0 ≤ s ∧ s < (v 210 1)) (m := 240) (args := [.inr (.inr (some 203)), .inr (.inl s)]) (n' := 294) (pc' := 11) (lo' := [some (.inr (.inr (some 203))), some (.inl s), none, none, none]) (st' := []) (I := .invokevirtual 240) (pc0 := 8) (len := 3) rfl rfl rfl (e_mo_isSecond hX_1 hp_2) (fun h_8 => ?_) (fun h_8 => ?_)
  · show WV _ _ _ 11 _ _ _ _ _
    rw [if_pos h_8] at hQ
    refine r_ex 2 (pc' := 18) (lo' := [some (.inr (.inr (some 203))), some (.inl s), none, none, none]) (st' := [.inr (.inr (some 203))]) rfl ?_
    have hp_4 : CF (v2 v 203 0 0) := show CF (v2 v 203 0 0) from (show CF (v2 v 203 0 0) from CF.of hp_b (fun k h1 h2 => by rw [v2_row (by omega)]))
    refine r_call (m := 246) (args := [.inr (.inr (some 203))]) (n' := 294) (pc' := 21) (lo' := [some (.inr (.inr (some 203))), some (.inl s), none, none, none]) (st' := []) (I := .invokevirtual 246) (pc0 := 18) (len := 3) rfl rfl rfl (e_mo_told hX_1 hp_4) ?_
    show WV _ _ _ 21 _ [] _ (mo_told (v2 v 203 0 0)) _
    have hX_5 : XI (mo_told (v2 v 203 0 0)) := i_mo_told (v := (v2 v 203 0 0)) hX_1 hp_4
    refine r_ex 2 (pc' := 23) (lo' := [some (.inr (.inr (some 203))), some (.inl s), none, none, none]) (st' := [.inl s, .inr (.inr (some 203))]) rfl ?_
    have hp_6 : R32 s := (by first | assumption | omega | (unfold R32 at *; omega) | (unfold R64 at *; omega) | (simp only [R32, R64] at *; omega))
    refine r_call (m := 293) (args := [.inr (.inr (some 203)), .inl s]) (n' := 294) (pc' := 26) (lo' := [some (.inr (.inr (some 203))), some (.inl s), none, none, none]) (st' := []) (I := .invokevirtual 293) (pc0 := 23) (len := 3) rfl rfl rfl (e_mo_commonOf hX_5 hp_6) ?_
    show WV _ _ _ 26 _ [.inl ((mo_commonOf (mo_told (v2 v 203 0 0)) s).1)] _ (mo_commonOf (mo_told (v2 v 203 0 0)) s).2 _
    have hX_7 : XI (mo_commonOf (mo_told (v2 v 203 0 0)) s).2 := i_mo_commonOf (v := (mo_told (v2 v 203 0 0))) (t := s) hX_5 hp_6
    have hb_8 := n_mo_commonOf (v := (mo_told (v2 v 203 0 0))) (t := s) hX_5 hp_6
    refine r_ex 5 (pc' := 32) (lo' := [some (.inr (.inr (some 203))), some (.inl s), some (.inl ((mo_commonOf (mo_told (v2 v 203 0 0)) s).1)), some (.inl 0), some (.inl 0)]) (st' := []) rfl ?_
    refine l_mo_strayed_32 10 ((mo_commonOf (mo_told (v2 v 203 0 0)) s).2) ((mo_commonOf (mo_told (v2 v 203 0 0)) s).1) 0 0 _ hX_7 (by first | assumption | omega | (unfold R32 at *; omega) | (unfold R64 at *; omega) | (simp only [R32, R64] at *; omega)) (by first | assumption | omega | (unfold R32 at *; omega) | (unfold R64 at *; omega) | (simp only [R32, R64] at *; omega)) (by first | assumption | omega | (unfold R32 at *; omega) | (unfold R64 at *; omega) | (simp only [R32, R64] at *; omega)) (by first | assumption | omega | (unfold R32 at *; omega) | (unfold R64 at *; omega) | (simp only [R32, R64] at *; omega)) (fun o4_11  hv_11_0 => ?_)
    show WV _ _ _ 78 _ _ _ _ _
    refine r_ex 1 (pc' := 79) (lo' := [some (.inr (.inr (some 203))), some (.inl s), some (.inl ((mo_commonOf (mo_told (v2 v 203 0 0)) s).1)), some (.inl (mo_strayed_32 10 ((mo_commonOf (mo_told (v2 v 203 0 0)) s).2) ((mo_commonOf (mo_told (v2 v 203 0 0)) s).1) 0 0)), o4_11]) (st' := [.inl (mo_strayed_32 10 ((mo_commonOf (mo_told (v2 v 203 0 0)) s).2) ((mo_commonOf (mo_told (v2 v 203 0 0)) s).1) 0 0)]) rfl ?_
    refine r_ret (rr := some (.inl (mo_strayed_32 10 ((mo_commonOf (mo_told (v2 v 203 0 0)) s).2) ((mo_commonOf (mo_told (v2 v 203 0 0)) s).1) 0 0))) (I := .ireturn) (pc0 := 79) (len := 1) rfl rfl ?_
    exact hQ hX_7 
  · show WV _ _ _ 11 _ _ _ _ _
    rw [if_neg h_8] at hQ
    refine r_ex 2 (pc' := 16) (lo' := [some (.inr (.inr (some 203))), some (.inl s), none, none, none]) (st' := [.inl (-2)]) rfl ?_
    refine r_ret (rr := some (.inl (-2))) (I := .ireturn) (pc0 := 16) (len := 1) rfl rfl ?_
    exact hQ hX_1 

theorem e_mo_strayed {X : PX} {d b : Nat} {v : VS} {s : Int} (hX : XI v) (hp_a : R32 s) (hp_b : CF v) : EvV X (d + 1 + 1 + 1 + 1 + 1 + 1) 294 [.inr (.inr (some 203)), .inl s] b v (some (.inl (mo_strayed v s).1)) b ((mo_strayed v s).2) := EvV.of (w_mo_strayed hX hp_a hp_b (fun _ => ⟨rfl, rfl, rfl⟩))

theorem i_mo_strayed {v : VS} {s : Int} (hX : XI v) (hp_a : R32 s) (hp_b : CF v) : XI ((mo_strayed v s).2) := by
  have q : WV (0, fun _ => 0, none) (0 + 1 + 1 + 1 + 1 + 1 + 1) 294 0 [some (.inr (.inr (some 203))), some (.inl s), none, none, none] [] 1 v (fun _ _ _ => XI ((mo_strayed v s).2)) := w_mo_strayed (X := (0, fun _ => 0, none)) (d := 0) (b := 1) hX hp_a hp_b (fun q => q)
  obtain ⟨_, _, _, _, _, _, _, q⟩ := q
  exact q

theorem o_mo_strayed {rk : Nat} {v : VS} {s : Int} (hk : (rk < 203 ∨ 203 < rk) ∧ (rk < 219 ∨ 232 < rk)) : (mo_strayed v s).2 rk = v rk := by
  unfold mo_strayed
  by_cases hc_ : 0 ≤ s ∧ s < (v 210 1)
  · rw [if_pos hc_] <;> clear hc_
    all_goals (show ((mo_commonOf (mo_told (v2 v 203 0 0)) s).2) rk = _)
    all_goals (rw [o_mo_commonOf (by omega), o_mo_told (by omega), v2_row (by omega)])
  · rw [if_neg hc_] <;> clear hc_
    all_goals (show (v2 v 203 0 0) rk = _)
    all_goals (rw [v2_row (by omega)])

noncomputable def mo_splits_21 : Nat → VS → Int → VS
  | 0, v, c => v
  | f + 1, v, c => (if c < 9 then (mo_splits_21 f (v2 v 232 ((c).toNat) 0) (c + 1)) else v)
noncomputable def mo_splits_56 : Nat → VS → Int → Int → Int → Int × VS
  | 0, v, n, s, t => (0, v)
  | f + 1, v, n, s, t => (if s < (v 203 37) then (if (mo_at v s 0) = t then (mo_splits_56 f (v2 v 232 (((mo_at v s 1)).toNat) (mo_at v s 2)) n (s + 1) t) else (s, v)) else (s, v))
noncomputable def mo_splits_106 : Nat → VS → Int → Int → Int → Int → Int → Int → Int
  | 0, v, n, s, t, o, w, c => 0
  | f + 1, v, n, s, t, o, w, c => (if c < (v 210 0) then (if w = 0 then (if 0 < (v 232 ((c).toNat)) then (if 0 < o then (if (v 232 ((c).toNat)) = o then (if 0 < (v 232 ((c).toNat)) then (mo_splits_106 f v n s t (v 232 ((c).toNat)) 0 (c + 1)) else (mo_splits_106 f v n s t o 0 (c + 1))) else (if 0 < (v 232 ((c).toNat)) then (mo_splits_106 f v n s t (v 232 ((c).toNat)) 1 (c + 1)) else (mo_splits_106 f v n s t o 1 (c + 1)))) else (if 0 < (v 232 ((c).toNat)) then (mo_splits_106 f v n s t (v 232 ((c).toNat)) 0 (c + 1)) else (mo_splits_106 f v n s t o 0 (c + 1)))) else (if 0 < (v 232 ((c).toNat)) then (mo_splits_106 f v n s t (v 232 ((c).toNat)) 0 (c + 1)) else (mo_splits_106 f v n s t o 0 (c + 1)))) else (if 0 < (v 232 ((c).toNat)) then (mo_splits_106 f v n s t (v 232 ((c).toNat)) 1 (c + 1)) else (mo_splits_106 f v n s t o 1 (c + 1)))) else w)
noncomputable def mo_splits_46 : Nat → VS → Int → Int → Int → Int × VS
  | 0, v, n, s, t => (0, v)
  | f + 1, v, n, s, t => (if t < (v 210 1) then (if (mo_splits_106 10 ((mo_splits_56 301 v n s t).2) n ((mo_splits_56 301 v n s t).1) t 0 0 0) = 0 then (mo_splits_46 f ((mo_splits_56 301 v n s t).2) (n + 0) ((mo_splits_56 301 v n s t).1) (t + 1)) else (mo_splits_46 f ((mo_splits_56 301 v n s t).2) (n + 1) ((mo_splits_56 301 v n s t).1) (t + 1))) else (n, v))
noncomputable def mo_splits_40 (v : VS)  : Int × VS :=
  ((mo_splits_46 301 v 0 0 0).1, (mo_splits_46 301 v 0 0 0).2)
noncomputable def mo_splits (v : VS)  : Int × VS :=
  (if 0 < (v 209 0) then (mo_splits_40  (mo_splits_21 10 (mo_told (v2 v 203 0 0)) 0)) else ((-2), (v2 v 203 0 0)))
set_option maxRecDepth 100000 in
theorem l_mo_splits_21 {X : PX} {d b : Nat} {Q : Option PV → Nat → VS → Prop}  : ∀ (f : Nat) (v : VS) (c : Int) (o2 : Option PV) (o3 : Option PV) (o4 : Option PV) (o5 : Option PV) (o6 : Option PV), XI v → (0 ≤ c ∧ c ≤ 9) → (SM v) → (9 < c + f) → (∀ qx1 : Option PV, XI (mo_splits_21 f v c) → (SM (mo_splits_21 f v c)) → WV X (d + 1 + 1 + 1 + 1 + 1 + 1) 295 40 [some (.inr (.inr (some 203))), qx1, o2, o3, o4, o5, o6] [] b (mo_splits_21 f v c) Q) → WV X (d + 1 + 1 + 1 + 1 + 1 + 1) 295 21 [some (.inr (.inr (some 203))), some (.inl c), o2, o3, o4, o5, o6] [] b v Q := by
  intro f
  induction f with
  | zero =>
    intro v c o2 o3 o4 o5 o6 hX hi_0 hi_1 hf hK
    exfalso
    omega
  | succ f ih =>
    intro v c o2 o3 o4 o5 o6 hX hi_0 hi_1 hf hK
    rw [mo_splits_21] at hK
    refine r_ex 2 (pc' := 24) (lo' := [some (.inr (.inr (some 203))), some (.inl c), o2, o3, o4, o5, o6]) (st' := [.inl 9, .inl c]) rfl ?_
    refine n_ic_ge (pc0 := 24) (len := 3) (t := 40) rfl (by first | assumption | omega | (unfold R32 at *; omega) | (unfold R64 at *; omega) | (simp only [R32, R64] at *; omega)) (by first | assumption | omega | (unfold R32 at *; omega) | (unfold R64 at *; omega) | (simp only [R32, R64] at *; omega)) (fun h_24 => ?_) (fun h_24 => ?_)
    · show WV _ _ _ 40 _ _ _ _ _
      rw [if_neg h_24] at hK
      exact hK _ hX (by first | assumption | omega | (unfold R32 at *; omega) | (unfold R64 at *; omega) | (simp only [R32, R64] at *; omega))
    · show WV _ _ _ 27 _ _ _ _ _
      rw [if_pos h_24] at hK
      refine r_ex 4 (pc' := 33) (lo' := [some (.inr (.inr (some 203))), some (.inl c), o2, o3, o4, o5, o6]) (st' := [.inl 0, .inl c, .inr (.inr (some 232))]) rfl ?_
      refine r_iast2 (pc' := 34) (pc0 := 33) (len := 1) rfl (s_232 _) (by first | assumption | omega | (unfold R32 at *; omega) | (unfold R64 at *; omega) | (simp only [R32, R64] at *; omega)) (by decide) rfl ?_
      have hX_5 : XI (v2 v 232 ((c).toNat) 0) := XI.put hX (show -1 ≤ 0 ∧ 0 ≤ 3699 from (by first | assumption | omega | (unfold R32 at *; omega) | (unfold R64 at *; omega) | (simp only [R32, R64] at *; omega)))
      refine r_ex 2 (pc' := 21) (lo' := [some (.inr (.inr (some 203))), some (.inl (c + 1)), o2, o3, o4, o5, o6]) (st' := []) rfl ?_
      refine ih (v2 v 232 ((c).toNat) 0) (c + 1) _ _ _ _ _ hX_5 (by first | assumption | omega | (unfold R32 at *; omega) | (unfold R64 at *; omega) | (simp only [R32, R64] at *; omega)) (by first | assumption | exact SM.of hi_1 (fun k h => by rw [v2_row (by omega)])) (by first | assumption | omega | (unfold R32 at *; omega) | (unfold R64 at *; omega) | (simp only [R32, R64] at *; omega)) hK

theorem of_mo_splits_21 {rk : Nat} (hk : (rk < 232 ∨ 232 < rk)) : ∀ (f : Nat) {v : VS} {c : Int}, (mo_splits_21 f v c) rk = v rk := by
  intro f
  induction f with
  | zero => intro v c; rfl
  | succ f ih =>
    intro v c
    rw [mo_splits_21]
    by_cases hc_ : c < 9
    · rw [if_pos hc_] <;> clear hc_
      all_goals (rw [ih, v2_row (by omega)])
    · rw [if_neg hc_] <;> clear hc_
      all_goals (show v rk = _)
      all_goals rfl
theorem o_mo_splits_21 {rk : Nat} {f : Nat} {v : VS} {c : Int} (hk : (rk < 232 ∨ 232 < rk)) : (mo_splits_21 f v c) rk = v rk := of_mo_splits_21 hk f

set_option maxRecDepth 100000 in
theorem l_mo_splits_56 {X : PX} {d b : Nat} {Q : Option PV → Nat → VS → Prop}  : ∀ (f : Nat) (v : VS) (n : Int) (s : Int) (t : Int) (o4 : Option PV) (o5 : Option PV) (o6 : Option PV), XI v → (0 ≤ n ∧ n ≤ t) → (0 ≤ s ∧ s ≤ 300) → (0 ≤ t ∧ t ≤ 299) → (SM v) → (300 < s + f) → (XI ((mo_splits_56 f v n s t).2) → (0 ≤ (mo_splits_56 f v n s t).1 ∧ (mo_splits_56 f v n s t).1 ≤ 300) → WV X (d + 1 + 1 + 1 + 1 + 1 + 1) 295 97 [some (.inr (.inr (some 203))), some (.inl n), some (.inl ((mo_splits_56 f v n s t).1)), some (.inl t), o4, o5, o6] [] b (mo_splits_56 f v n s t).2 Q) → WV X (d + 1 + 1 + 1 + 1 + 1 + 1) 295 56 [some (.inr (.inr (some 203))), some (.inl n), some (.inl s), some (.inl t), o4, o5, o6] [] b v Q := by
  intro f
  induction f with
  | zero =>
    intro v n s t o4 o5 o6 hX hi_0 hi_1 hi_2 hi_3 hf hK
    exfalso
    omega
  | succ f ih =>
    intro v n s t o4 o5 o6 hX hi_0 hi_1 hi_2 hi_3 hf hK
    rw [mo_splits_56] at hK
    refine r_ex 3 (pc' := 61) (lo' := [some (.inr (.inr (some 203))), some (.inl n), some (.inl s), some (.inl t), o4, o5, o6]) (st' := [.inl (v 203 37), .inl s]) rfl ?_
    have hb_8 : 0 ≤ (v 203 37) ∧ (v 203 37) ≤ 300 := hX 203 37
    refine n_ic_ge (pc0 := 61) (len := 3) (t := 97) rfl (by first | assumption | omega | (unfold R32 at *; omega) | (unfold R64 at *; omega) | (simp only [R32, R64] at *; omega)) (by first | assumption | omega | (unfold R32 at *; omega) | (unfold R64 at *; omega) | (simp only [R32, R64] at *; omega)) (fun h_61 => ?_) (fun h_61 => ?_)
    · show WV _ _ _ 97 _ _ _ _ _
      rw [if_neg h_61] at hK
      exact hK  hX (by first | assumption | omega | (unfold R32 at *; omega) | (unfold R64 at *; omega) | (simp only [R32, R64] at *; omega))
    · show WV _ _ _ 64 _ _ _ _ _
      rw [if_pos h_61] at hK
      refine r_ex 3 (pc' := 67) (lo' := [some (.inr (.inr (some 203))), some (.inl n), some (.inl s), some (.inl t), o4, o5, o6]) (st' := [.inl 0, .inl s, .inr (.inr (some 203))]) rfl ?_
      have hp_9 : 0 ≤ s ∧ s < 300 := (by first | assumption | omega | (unfold R32 at *; omega) | (unfold R64 at *; omega) | (simp only [R32, R64] at *; omega))
      have hp_10 : 0 ≤ (0 : Int) ∧ (0 : Int) < 5 := (by first | assumption | omega | (unfold R32 at *; omega) | (unfold R64 at *; omega) | (simp only [R32, R64] at *; omega))
      refine r_call (m := 254) (args := [.inr (.inr (some 203)), .inl s, .inl 0]) (n' := 295) (pc' := 70) (lo' := [some (.inr (.inr (some 203))), some (.inl n), some (.inl s), some (.inl t), o4, o5, o6]) (st' := []) (I := .invokevirtual 254) (pc0 := 67) (len := 3) rfl rfl rfl (e_mo_at hX hp_9 hp_10) ?_
      show WV _ _ _ 70 _ [.inl (mo_at v s 0)] _ _ _
      have hb_11 := n_mo_at (v := v) (i := s) (w := 0) hX hp_9 hp_10
      refine r_ex 1 (pc' := 71) (lo' := [some (.inr (.inr (some 203))), some (.inl n), some (.inl s), some (.inl t), o4, o5, o6]) (st' := [.inl t, .inl (mo_at v s 0)]) rfl ?_
      refine n_ic_ne (pc0 := 71) (len := 3) (t := 97) rfl (by first | assumption | omega | (unfold R32 at *; omega) | (unfold R64 at *; omega) | (simp only [R32, R64] at *; omega)) (by first | assumption | omega | (unfold R32 at *; omega) | (unfold R64 at *; omega) | (simp only [R32, R64] at *; omega)) (fun h_71 => ?_) (fun h_71 => ?_)
      · show WV _ _ _ 97 _ _ _ _ _
        rw [if_neg h_71] at hK
        exact hK  hX (by first | assumption | omega | (unfold R32 at *; omega) | (unfold R64 at *; omega) | (simp only [R32, R64] at *; omega))
      · show WV _ _ _ 74 _ _ _ _ _
        rw [if_pos h_71] at hK
        refine r_ex 5 (pc' := 81) (lo' := [some (.inr (.inr (some 203))), some (.inl n), some (.inl s), some (.inl t), o4, o5, o6]) (st' := [.inl 1, .inl s, .inr (.inr (some 203)), .inr (.inr (some 232))]) rfl ?_
        have hp_12 : 0 ≤ s ∧ s < 300 := (by first | assumption | omega | (unfold R32 at *; omega) | (unfold R64 at *; omega) | (simp only [R32, R64] at *; omega))
        have hp_13 : 0 ≤ (1 : Int) ∧ (1 : Int) < 5 := (by first | assumption | omega | (unfold R32 at *; omega) | (unfold R64 at *; omega) | (simp only [R32, R64] at *; omega))
        refine r_call (m := 254) (args := [.inr (.inr (some 203)), .inl s, .inl 1]) (n' := 295) (pc' := 84) (lo' := [some (.inr (.inr (some 203))), some (.inl n), some (.inl s), some (.inl t), o4, o5, o6]) (st' := [.inr (.inr (some 232))]) (I := .invokevirtual 254) (pc0 := 81) (len := 3) rfl rfl rfl (e_mo_at hX hp_12 hp_13) ?_
        show WV _ _ _ 84 _ [.inl (mo_at v s 1), .inr (.inr (some 232))] _ _ _
        have hb_14 := n_mo_at (v := v) (i := s) (w := 1) hX hp_12 hp_13
        have hch := hi_3.ch (i := s) (by omega)
        refine r_ex 3 (pc' := 87) (lo' := [some (.inr (.inr (some 203))), some (.inl n), some (.inl s), some (.inl t), o4, o5, o6]) (st' := [.inl 2, .inl s, .inr (.inr (some 203)), .inl (mo_at v s 1), .inr (.inr (some 232))]) rfl ?_
        have hp_15 : 0 ≤ s ∧ s < 300 := (by first | assumption | omega | (unfold R32 at *; omega) | (unfold R64 at *; omega) | (simp only [R32, R64] at *; omega))
        have hp_16 : 0 ≤ (2 : Int) ∧ (2 : Int) < 5 := (by first | assumption | omega | (unfold R32 at *; omega) | (unfold R64 at *; omega) | (simp only [R32, R64] at *; omega))
        refine r_call (m := 254) (args := [.inr (.inr (some 203)), .inl s, .inl 2]) (n' := 295) (pc' := 90) (lo' := [some (.inr (.inr (some 203))), some (.inl n), some (.inl s), some (.inl t), o4, o5, o6]) (st' := [.inl (mo_at v s 1), .inr (.inr (some 232))]) (I := .invokevirtual 254) (pc0 := 87) (len := 3) rfl rfl rfl (e_mo_at hX hp_15 hp_16) ?_
        show WV _ _ _ 90 _ [.inl (mo_at v s 2), .inl (mo_at v s 1), .inr (.inr (some 232))] _ _ _
        have hb_17 := n_mo_at (v := v) (i := s) (w := 2) hX hp_15 hp_16
        refine r_iast2 (pc' := 91) (pc0 := 90) (len := 1) rfl (s_232 _) (by first | assumption | omega | (unfold R32 at *; omega) | (unfold R64 at *; omega) | (simp only [R32, R64] at *; omega)) (by decide) rfl ?_
        have hX_18 : XI (v2 v 232 (((mo_at v s 1)).toNat) (mo_at v s 2)) := XI.put hX (show -1 ≤ (mo_at v s 2) ∧ (mo_at v s 2) ≤ 3699 from (by first | assumption | omega | (unfold R32 at *; omega) | (unfold R64 at *; omega) | (simp only [R32, R64] at *; omega)))
        refine r_ex 2 (pc' := 56) (lo' := [some (.inr (.inr (some 203))), some (.inl n), some (.inl (s + 1)), some (.inl t), o4, o5, o6]) (st' := []) rfl ?_
        refine ih (v2 v 232 (((mo_at v s 1)).toNat) (mo_at v s 2)) n (s + 1) t _ _ _ hX_18 (by first | assumption | omega | (unfold R32 at *; omega) | (unfold R64 at *; omega) | (simp only [R32, R64] at *; omega)) (by first | assumption | omega | (unfold R32 at *; omega) | (unfold R64 at *; omega) | (simp only [R32, R64] at *; omega)) (by first | assumption | omega | (unfold R32 at *; omega) | (unfold R64 at *; omega) | (simp only [R32, R64] at *; omega)) (by first | assumption | exact SM.of hi_3 (fun k h => by rw [v2_row (by omega)])) (by first | assumption | omega | (unfold R32 at *; omega) | (unfold R64 at *; omega) | (simp only [R32, R64] at *; omega)) hK

theorem of_mo_splits_56 {rk : Nat} (hk : (rk < 232 ∨ 232 < rk)) : ∀ (f : Nat) {v : VS} {n : Int} {s : Int} {t : Int}, (mo_splits_56 f v n s t).2 rk = v rk := by
  intro f
  induction f with
  | zero => intro v n s t; rfl
  | succ f ih =>
    intro v n s t
    rw [mo_splits_56]
    by_cases hc_ : s < (v 203 37)
    · rw [if_pos hc_] <;> clear hc_
      by_cases hc_ : (mo_at v s 0) = t
      · rw [if_pos hc_] <;> clear hc_
        all_goals (rw [ih, v2_row (by omega)])
      · rw [if_neg hc_] <;> clear hc_
        all_goals (show v rk = _)
        all_goals rfl
    · rw [if_neg hc_] <;> clear hc_
      all_goals (show v rk = _)
      all_goals rfl
theorem o_mo_splits_56 {rk : Nat} {f : Nat} {v : VS} {n : Int} {s : Int} {t : Int} (hk : (rk < 232 ∨ 232 < rk)) : (mo_splits_56 f v n s t).2 rk = v rk := of_mo_splits_56 hk f

set_option maxRecDepth 100000 in
theorem l_mo_splits_106 {X : PX} {d b : Nat} {Q : Option PV → Nat → VS → Prop}  : ∀ (f : Nat) (v : VS) (n : Int) (s : Int) (t : Int) (o : Int) (w : Int) (c : Int), XI v → (0 ≤ n ∧ n ≤ t) → (0 ≤ s ∧ s ≤ 300) → (0 ≤ t ∧ t ≤ 299) → (-1 ≤ o ∧ o ≤ 3699) → (0 ≤ w ∧ w ≤ 1) → (0 ≤ c ∧ c ≤ 9) → (9 < c + f) → (∀ qx4 : Option PV, ∀ qx6 : Option PV, (0 ≤ (mo_splits_106 f v n s t o w c) ∧ (mo_splits_106 f v n s t o w c) ≤ 1) → WV X (d + 1 + 1 + 1 + 1 + 1 + 1) 295 186 [some (.inr (.inr (some 203))), some (.inl n), some (.inl s), some (.inl t), qx4, some (.inl (mo_splits_106 f v n s t o w c)), qx6] [] b v Q) → WV X (d + 1 + 1 + 1 + 1 + 1 + 1) 295 106 [some (.inr (.inr (some 203))), some (.inl n), some (.inl s), some (.inl t), some (.inl o), some (.inl w), some (.inl c)] [] b v Q := by
  intro f
  induction f with
  | zero =>
    intro v n s t o w c hX hi_0 hi_1 hi_2 hi_3 hi_4 hi_5 hf hK
    exfalso
    omega
  | succ f ih =>
    intro v n s t o w c hX hi_0 hi_1 hi_2 hi_3 hi_4 hi_5 hf hK
    rw [mo_splits_106] at hK
    refine r_ex 4 (pc' := 113) (lo' := [some (.inr (.inr (some 203))), some (.inl n), some (.inl s), some (.inl t), some (.inl o), some (.inl w), some (.inl c)]) (st' := [.inl 0, .inr (.inr (some 210)), .inl c]) rfl ?_
    refine r_iald2 (j := 0) (x := (v 210 0)) (pc' := 114) (pc0 := 113) (len := 1) rfl (s_210 _) (by first | assumption | omega | (unfold R32 at *; omega) | (unfold R64 at *; omega) | (simp only [R32, R64] at *; omega)) (by decide) rfl rfl ?_
    have hb_20 : 0 ≤ (v 210 0) ∧ (v 210 0) ≤ 9 := hX 210 0
    refine n_ic_ge (pc0 := 114) (len := 3) (t := 186) rfl (by first | assumption | omega | (unfold R32 at *; omega) | (unfold R64 at *; omega) | (simp only [R32, R64] at *; omega)) (by first | assumption | omega | (unfold R32 at *; omega) | (unfold R64 at *; omega) | (simp only [R32, R64] at *; omega)) (fun h_114 => ?_) (fun h_114 => ?_)
    · show WV _ _ _ 186 _ _ _ _ _
      rw [if_neg h_114] at hK
      exact hK _ _  (by first | assumption | omega | (unfold R32 at *; omega) | (unfold R64 at *; omega) | (simp only [R32, R64] at *; omega))
    · show WV _ _ _ 117 _ _ _ _ _
      rw [if_pos h_114] at hK
      refine r_ex 1 (pc' := 119) (lo' := [some (.inr (.inr (some 203))), some (.inl n), some (.inl s), some (.inl t), some (.inl o), some (.inl w), some (.inl c)]) (st' := [.inl w]) rfl ?_
      refine n_if_ne (pc0 := 119) (len := 3) (t := 149) rfl (by first | assumption | omega | (unfold R32 at *; omega) | (unfold R64 at *; omega) | (simp only [R32, R64] at *; omega)) (fun h_119 => ?_) (fun h_119 => ?_)
      · show WV _ _ _ 149 _ _ _ _ _
        rw [if_neg h_119] at hK
        refine r_ex 6 (pc' := 162) (lo' := [some (.inr (.inr (some 203))), some (.inl n), some (.inl s), some (.inl t), some (.inl o), some (.inl 1), some (.inl c)]) (st' := [.inl c, .inr (.inr (some 232))]) rfl ?_
        refine r_iald2 (j := 0) (x := (v 232 ((c).toNat))) (pc' := 163) (pc0 := 162) (len := 1) rfl (s_232 _) (by first | assumption | omega | (unfold R32 at *; omega) | (unfold R64 at *; omega) | (simp only [R32, R64] at *; omega)) (by decide) rfl rfl ?_
        have hb_21 : -1 ≤ (v 232 ((c).toNat)) ∧ (v 232 ((c).toNat)) ≤ 3699 := hX 232 ((c).toNat)
        refine n_if_le (pc0 := 163) (len := 3) (t := 176) rfl (by first | assumption | omega | (unfold R32 at *; omega) | (unfold R64 at *; omega) | (simp only [R32, R64] at *; omega)) (fun h_163 => ?_) (fun h_163 => ?_)
        · show WV _ _ _ 176 _ _ _ _ _
          rw [if_neg h_163] at hK
          refine r_ex 4 (pc' := 106) (lo' := [some (.inr (.inr (some 203))), some (.inl n), some (.inl s), some (.inl t), some (.inl o), some (.inl 1), some (.inl (c + 1))]) (st' := []) rfl ?_
          refine ih v n s t o 1 (c + 1)  hX (by first | assumption | omega | (unfold R32 at *; omega) | (unfold R64 at *; omega) | (simp only [R32, R64] at *; omega)) (by first | assumption | omega | (unfold R32 at *; omega) | (unfold R64 at *; omega) | (simp only [R32, R64] at *; omega)) (by first | assumption | omega | (unfold R32 at *; omega) | (unfold R64 at *; omega) | (simp only [R32, R64] at *; omega)) (by first | assumption | omega | (unfold R32 at *; omega) | (unfold R64 at *; omega) | (simp only [R32, R64] at *; omega)) (by first | assumption | omega | (unfold R32 at *; omega) | (unfold R64 at *; omega) | (simp only [R32, R64] at *; omega)) (by first | assumption | omega | (unfold R32 at *; omega) | (unfold R64 at *; omega) | (simp only [R32, R64] at *; omega)) (by first | assumption | omega | (unfold R32 at *; omega) | (unfold R64 at *; omega) | (simp only [R32, R64] at *; omega)) hK
        · show WV _ _ _ 166 _ _ _ _ _
          rw [if_pos h_163] at hK
          refine r_ex 3 (pc' := 172) (lo' := [some (.inr (.inr (some 203))), some (.inl n), some (.inl s), some (.inl t), some (.inl o), some (.inl 1), some (.inl c)]) (st' := [.inl c, .inr (.inr (some 232))]) rfl ?_
          refine r_iald2 (j := 0) (x := (v 232 ((c).toNat))) (pc' := 173) (pc0 := 172) (len := 1) rfl (s_232 _) (by first | assumption | omega | (unfold R32 at *; omega) | (unfold R64 at *; omega) | (simp only [R32, R64] at *; omega)) (by decide) rfl rfl ?_
          refine r_ex 4 (pc' := 106) (lo' := [some (.inr (.inr (some 203))), some (.inl n), some (.inl s), some (.inl t), some (.inl (v 232 ((c).toNat))), some (.inl 1), some (.inl (c + 1))]) (st' := []) rfl ?_
          refine ih v n s t (v 232 ((c).toNat)) 1 (c + 1)  hX (by first | assumption | omega | (unfold R32 at *; omega) | (unfold R64 at *; omega) | (simp only [R32, R64] at *; omega)) (by first | assumption | omega | (unfold R32 at *; omega) | (unfold R64 at *; omega) | (simp only [R32, R64] at *; omega)) (by first | assumption | omega | (unfold R32 at *; omega) | (unfold R64 at *; omega) | (simp only [R32, R64] at *; omega)) (by first | assumption | omega | (unfold R32 at *; omega) | (unfold R64 at *; omega) | (simp only [R32, R64] at *; omega)) (by first | assumption | omega | (unfold R32 at *; omega) | (unfold R64 at *; omega) | (simp only [R32, R64] at *; omega)) (by first | assumption | omega | (unfold R32 at *; omega) | (unfold R64 at *; omega) | (simp only [R32, R64] at *; omega)) (by first | assumption | omega | (unfold R32 at *; omega) | (unfold R64 at *; omega) | (simp only [R32, R64] at *; omega)) hK
      · show WV _ _ _ 122 _ _ _ _ _
        rw [if_pos h_119] at hK
        refine r_ex 3 (pc' := 128) (lo' := [some (.inr (.inr (some 203))), some (.inl n), some (.inl s), some (.inl t), some (.inl o), some (.inl w), some (.inl c)]) (st' := [.inl c, .inr (.inr (some 232))]) rfl ?_
        refine r_iald2 (j := 0) (x := (v 232 ((c).toNat))) (pc' := 129) (pc0 := 128) (len := 1) rfl (s_232 _) (by first | assumption | omega | (unfold R32 at *; omega) | (unfold R64 at *; omega) | (simp only [R32, R64] at *; omega)) (by decide) rfl rfl ?_
        have hb_22 : -1 ≤ (v 232 ((c).toNat)) ∧ (v 232 ((c).toNat)) ≤ 3699 := hX 232 ((c).toNat)
        refine n_if_le (pc0 := 129) (len := 3) (t := 153) rfl (by first | assumption | omega | (unfold R32 at *; omega) | (unfold R64 at *; omega) | (simp only [R32, R64] at *; omega)) (fun h_129 => ?_) (fun h_129 => ?_)
        · show WV _ _ _ 153 _ _ _ _ _
          rw [if_neg h_129] at hK
          refine r_ex 5 (pc' := 162) (lo' := [some (.inr (.inr (some 203))), some (.inl n), some (.inl s), some (.inl t), some (.inl o), some (.inl 0), some (.inl c)]) (st' := [.inl c, .inr (.inr (some 232))]) rfl ?_
          refine r_iald2 (j := 0) (x := (v 232 ((c).toNat))) (pc' := 163) (pc0 := 162) (len := 1) rfl (s_232 _) (by first | assumption | omega | (unfold R32 at *; omega) | (unfold R64 at *; omega) | (simp only [R32, R64] at *; omega)) (by decide) rfl rfl ?_
          refine n_if_le (pc0 := 163) (len := 3) (t := 176) rfl (by first | assumption | omega | (unfold R32 at *; omega) | (unfold R64 at *; omega) | (simp only [R32, R64] at *; omega)) (fun h_163 => ?_) (fun h_163 => ?_)
          · show WV _ _ _ 176 _ _ _ _ _
            rw [if_neg h_163] at hK
            refine r_ex 4 (pc' := 106) (lo' := [some (.inr (.inr (some 203))), some (.inl n), some (.inl s), some (.inl t), some (.inl o), some (.inl 0), some (.inl (c + 1))]) (st' := []) rfl ?_
            refine ih v n s t o 0 (c + 1)  hX (by first | assumption | omega | (unfold R32 at *; omega) | (unfold R64 at *; omega) | (simp only [R32, R64] at *; omega)) (by first | assumption | omega | (unfold R32 at *; omega) | (unfold R64 at *; omega) | (simp only [R32, R64] at *; omega)) (by first | assumption | omega | (unfold R32 at *; omega) | (unfold R64 at *; omega) | (simp only [R32, R64] at *; omega)) (by first | assumption | omega | (unfold R32 at *; omega) | (unfold R64 at *; omega) | (simp only [R32, R64] at *; omega)) (by first | assumption | omega | (unfold R32 at *; omega) | (unfold R64 at *; omega) | (simp only [R32, R64] at *; omega)) (by first | assumption | omega | (unfold R32 at *; omega) | (unfold R64 at *; omega) | (simp only [R32, R64] at *; omega)) (by first | assumption | omega | (unfold R32 at *; omega) | (unfold R64 at *; omega) | (simp only [R32, R64] at *; omega)) hK
          · show WV _ _ _ 166 _ _ _ _ _
            rw [if_pos h_163] at hK
            refine r_ex 3 (pc' := 172) (lo' := [some (.inr (.inr (some 203))), some (.inl n), some (.inl s), some (.inl t), some (.inl o), some (.inl 0), some (.inl c)]) (st' := [.inl c, .inr (.inr (some 232))]) rfl ?_
            refine r_iald2 (j := 0) (x := (v 232 ((c).toNat))) (pc' := 173) (pc0 := 172) (len := 1) rfl (s_232 _) (by first | assumption | omega | (unfold R32 at *; omega) | (unfold R64 at *; omega) | (simp only [R32, R64] at *; omega)) (by decide) rfl rfl ?_
            refine r_ex 4 (pc' := 106) (lo' := [some (.inr (.inr (some 203))), some (.inl n), some (.inl s), some (.inl t), some (.inl (v 232 ((c).toNat))), some (.inl 0), some (.inl (c + 1))]) (st' := []) rfl ?_
            refine ih v n s t (v 232 ((c).toNat)) 0 (c + 1)  hX (by first | assumption | omega | (unfold R32 at *; omega) | (unfold R64 at *; omega) | (simp only [R32, R64] at *; omega)) (by first | assumption | omega | (unfold R32 at *; omega) | (unfold R64 at *; omega) | (simp only [R32, R64] at *; omega)) (by first | assumption | omega | (unfold R32 at *; omega) | (unfold R64 at *; omega) | (simp only [R32, R64] at *; omega)) (by first | assumption | omega | (unfold R32 at *; omega) | (unfold R64 at *; omega) | (simp only [R32, R64] at *; omega)) (by first | assumption | omega | (unfold R32 at *; omega) | (unfold R64 at *; omega) | (simp only [R32, R64] at *; omega)) (by first | assumption | omega | (unfold R32 at *; omega) | (unfold R64 at *; omega) | (simp only [R32, R64] at *; omega)) (by first | assumption | omega | (unfold R32 at *; omega) | (unfold R64 at *; omega) | (simp only [R32, R64] at *; omega)) hK
        · show WV _ _ _ 132 _ _ _ _ _
          rw [if_pos h_129] at hK
          refine r_ex 1 (pc' := 134) (lo' := [some (.inr (.inr (some 203))), some (.inl n), some (.inl s), some (.inl t), some (.inl o), some (.inl w), some (.inl c)]) (st' := [.inl o]) rfl ?_
          refine n_if_le (pc0 := 134) (len := 3) (t := 153) rfl (by first | assumption | omega | (unfold R32 at *; omega) | (unfold R64 at *; omega) | (simp only [R32, R64] at *; omega)) (fun h_134 => ?_) (fun h_134 => ?_)
          · show WV _ _ _ 153 _ _ _ _ _
            rw [if_neg h_134] at hK
            refine r_ex 5 (pc' := 162) (lo' := [some (.inr (.inr (some 203))), some (.inl n), some (.inl s), some (.inl t), some (.inl o), some (.inl 0), some (.inl c)]) (st' := [.inl c, .inr (.inr (some 232))]) rfl ?_
            refine r_iald2 (j := 0) (x := (v 232 ((c).toNat))) (pc' := 163) (pc0 := 162) (len := 1) rfl (s_232 _) (by first | assumption | omega | (unfold R32 at *; omega) | (unfold R64 at *; omega) | (simp only [R32, R64] at *; omega)) (by decide) rfl rfl ?_
            refine n_if_le (pc0 := 163) (len := 3) (t := 176) rfl (by first | assumption | omega | (unfold R32 at *; omega) | (unfold R64 at *; omega) | (simp only [R32, R64] at *; omega)) (fun h_163 => ?_) (fun h_163 => ?_)
            · show WV _ _ _ 176 _ _ _ _ _
              rw [if_neg h_163] at hK
              refine r_ex 4 (pc' := 106) (lo' := [some (.inr (.inr (some 203))), some (.inl n), some (.inl s), some (.inl t), some (.inl o), some (.inl 0), some (.inl (c + 1))]) (st' := []) rfl ?_
              refine ih v n s t o 0 (c + 1)  hX (by first | assumption | omega | (unfold R32 at *; omega) | (unfold R64 at *; omega) | (simp only [R32, R64] at *; omega)) (by first | assumption | omega | (unfold R32 at *; omega) | (unfold R64 at *; omega) | (simp only [R32, R64] at *; omega)) (by first | assumption | omega | (unfold R32 at *; omega) | (unfold R64 at *; omega) | (simp only [R32, R64] at *; omega)) (by first | assumption | omega | (unfold R32 at *; omega) | (unfold R64 at *; omega) | (simp only [R32, R64] at *; omega)) (by first | assumption | omega | (unfold R32 at *; omega) | (unfold R64 at *; omega) | (simp only [R32, R64] at *; omega)) (by first | assumption | omega | (unfold R32 at *; omega) | (unfold R64 at *; omega) | (simp only [R32, R64] at *; omega)) (by first | assumption | omega | (unfold R32 at *; omega) | (unfold R64 at *; omega) | (simp only [R32, R64] at *; omega)) hK
            · show WV _ _ _ 166 _ _ _ _ _
              rw [if_pos h_163] at hK
              refine r_ex 3 (pc' := 172) (lo' := [some (.inr (.inr (some 203))), some (.inl n), some (.inl s), some (.inl t), some (.inl o), some (.inl 0), some (.inl c)]) (st' := [.inl c, .inr (.inr (some 232))]) rfl ?_
              refine r_iald2 (j := 0) (x := (v 232 ((c).toNat))) (pc' := 173) (pc0 := 172) (len := 1) rfl (s_232 _) (by first | assumption | omega | (unfold R32 at *; omega) | (unfold R64 at *; omega) | (simp only [R32, R64] at *; omega)) (by decide) rfl rfl ?_
              refine r_ex 4 (pc' := 106) (lo' := [some (.inr (.inr (some 203))), some (.inl n), some (.inl s), some (.inl t), some (.inl (v 232 ((c).toNat))), some (.inl 0), some (.inl (c + 1))]) (st' := []) rfl ?_
              refine ih v n s t (v 232 ((c).toNat)) 0 (c + 1)  hX (by first | assumption | omega | (unfold R32 at *; omega) | (unfold R64 at *; omega) | (simp only [R32, R64] at *; omega)) (by first | assumption | omega | (unfold R32 at *; omega) | (unfold R64 at *; omega) | (simp only [R32, R64] at *; omega)) (by first | assumption | omega | (unfold R32 at *; omega) | (unfold R64 at *; omega) | (simp only [R32, R64] at *; omega)) (by first | assumption | omega | (unfold R32 at *; omega) | (unfold R64 at *; omega) | (simp only [R32, R64] at *; omega)) (by first | assumption | omega | (unfold R32 at *; omega) | (unfold R64 at *; omega) | (simp only [R32, R64] at *; omega)) (by first | assumption | omega | (unfold R32 at *; omega) | (unfold R64 at *; omega) | (simp only [R32, R64] at *; omega)) (by first | assumption | omega | (unfold R32 at *; omega) | (unfold R64 at *; omega) | (simp only [R32, R64] at *; omega)) hK
          · show WV _ _ _ 137 _ _ _ _ _
            rw [if_pos h_134] at hK
            refine r_ex 3 (pc' := 143) (lo' := [some (.inr (.inr (some 203))), some (.inl n), some (.inl s), some (.inl t), some (.inl o), some (.inl w), some (.inl c)]) (st' := [.inl c, .inr (.inr (some 232))]) rfl ?_
            refine r_iald2 (j := 0) (x := (v 232 ((c).toNat))) (pc' := 144) (pc0 := 143) (len := 1) rfl (s_232 _) (by first | assumption | omega | (unfold R32 at *; omega) | (unfold R64 at *; omega) | (simp only [R32, R64] at *; omega)) (by decide) rfl rfl ?_
            refine r_ex 1 (pc' := 146) (lo' := [some (.inr (.inr (some 203))), some (.inl n), some (.inl s), some (.inl t), some (.inl o), some (.inl w), some (.inl c)]) (st' := [.inl o, .inl (v 232 ((c).toNat))]) rfl ?_
            refine n_ic_eq (pc0 := 146) (len := 3) (t := 153) rfl (by first | assumption | omega | (unfold R32 at *; omega) | (unfold R64 at *; omega) | (simp only [R32, R64] at *; omega)) (by first | assumption | omega | (unfold R32 at *; omega) | (unfold R64 at *; omega) | (simp only [R32, R64] at *; omega)) (fun h_146 => ?_) (fun h_146 => ?_)
            · show WV _ _ _ 153 _ _ _ _ _
              rw [if_pos h_146] at hK
              refine r_ex 5 (pc' := 162) (lo' := [some (.inr (.inr (some 203))), some (.inl n), some (.inl s), some (.inl t), some (.inl o), some (.inl 0), some (.inl c)]) (st' := [.inl c, .inr (.inr (some 232))]) rfl ?_
              refine r_iald2 (j := 0) (x := (v 232 ((c).toNat))) (pc' := 163) (pc0 := 162) (len := 1) rfl (s_232 _) (by first | assumption | omega | (unfold R32 at *; omega) | (unfold R64 at *; omega) | (simp only [R32, R64] at *; omega)) (by decide) rfl rfl ?_
              refine n_if_le (pc0 := 163) (len := 3) (t := 176) rfl (by first | assumption | omega | (unfold R32 at *; omega) | (unfold R64 at *; omega) | (simp only [R32, R64] at *; omega)) (fun h_163 => ?_) (fun h_163 => ?_)
              · show WV _ _ _ 176 _ _ _ _ _
                rw [if_neg h_163] at hK
                refine r_ex 4 (pc' := 106) (lo' := [some (.inr (.inr (some 203))), some (.inl n), some (.inl s), some (.inl t), some (.inl o), some (.inl 0), some (.inl (c + 1))]) (st' := []) rfl ?_
                refine ih v n s t o 0 (c + 1)  hX (by first | assumption | omega | (unfold R32 at *; omega) | (unfold R64 at *; omega) | (simp only [R32, R64] at *; omega)) (by first | assumption | omega | (unfold R32 at *; omega) | (unfold R64 at *; omega) | (simp only [R32, R64] at *; omega)) (by first | assumption | omega | (unfold R32 at *; omega) | (unfold R64 at *; omega) | (simp only [R32, R64] at *; omega)) (by first | assumption | omega | (unfold R32 at *; omega) | (unfold R64 at *; omega) | (simp only [R32, R64] at *; omega)) (by first | assumption | omega | (unfold R32 at *; omega) | (unfold R64 at *; omega) | (simp only [R32, R64] at *; omega)) (by first | assumption | omega | (unfold R32 at *; omega) | (unfold R64 at *; omega) | (simp only [R32, R64] at *; omega)) (by first | assumption | omega | (unfold R32 at *; omega) | (unfold R64 at *; omega) | (simp only [R32, R64] at *; omega)) hK
              · show WV _ _ _ 166 _ _ _ _ _
                rw [if_pos h_163] at hK
                refine r_ex 3 (pc' := 172) (lo' := [some (.inr (.inr (some 203))), some (.inl n), some (.inl s), some (.inl t), some (.inl o), some (.inl 0), some (.inl c)]) (st' := [.inl c, .inr (.inr (some 232))]) rfl ?_
                refine r_iald2 (j := 0) (x := (v 232 ((c).toNat))) (pc' := 173) (pc0 := 172) (len := 1) rfl (s_232 _) (by first | assumption | omega | (unfold R32 at *; omega) | (unfold R64 at *; omega) | (simp only [R32, R64] at *; omega)) (by decide) rfl rfl ?_
                refine r_ex 4 (pc' := 106) (lo' := [some (.inr (.inr (some 203))), some (.inl n), some (.inl s), some (.inl t), some (.inl (v 232 ((c).toNat))), some (.inl 0), some (.inl (c + 1))]) (st' := []) rfl ?_
                refine ih v n s t (v 232 ((c).toNat)) 0 (c + 1)  hX (by first | assumption | omega | (unfold R32 at *; omega) | (unfold R64 at *; omega) | (simp only [R32, R64] at *; omega)) (by first | assumption | omega | (unfold R32 at *; omega) | (unfold R64 at *; omega) | (simp only [R32, R64] at *; omega)) (by first | assumption | omega | (unfold R32 at *; omega) | (unfold R64 at *; omega) | (simp only [R32, R64] at *; omega)) (by first | assumption | omega | (unfold R32 at *; omega) | (unfold R64 at *; omega) | (simp only [R32, R64] at *; omega)) (by first | assumption | omega | (unfold R32 at *; omega) | (unfold R64 at *; omega) | (simp only [R32, R64] at *; omega)) (by first | assumption | omega | (unfold R32 at *; omega) | (unfold R64 at *; omega) | (simp only [R32, R64] at *; omega)) (by first | assumption | omega | (unfold R32 at *; omega) | (unfold R64 at *; omega) | (simp only [R32, R64] at *; omega)) hK
            · show WV _ _ _ 149 _ _ _ _ _
              rw [if_neg h_146] at hK
              refine r_ex 6 (pc' := 162) (lo' := [some (.inr (.inr (some 203))), some (.inl n), some (.inl s), some (.inl t), some (.inl o), some (.inl 1), some (.inl c)]) (st' := [.inl c, .inr (.inr (some 232))]) rfl ?_
              refine r_iald2 (j := 0) (x := (v 232 ((c).toNat))) (pc' := 163) (pc0 := 162) (len := 1) rfl (s_232 _) (by first | assumption | omega | (unfold R32 at *; omega) | (unfold R64 at *; omega) | (simp only [R32, R64] at *; omega)) (by decide) rfl rfl ?_
              refine n_if_le (pc0 := 163) (len := 3) (t := 176) rfl (by first | assumption | omega | (unfold R32 at *; omega) | (unfold R64 at *; omega) | (simp only [R32, R64] at *; omega)) (fun h_163 => ?_) (fun h_163 => ?_)
              · show WV _ _ _ 176 _ _ _ _ _
                rw [if_neg h_163] at hK
                refine r_ex 4 (pc' := 106) (lo' := [some (.inr (.inr (some 203))), some (.inl n), some (.inl s), some (.inl t), some (.inl o), some (.inl 1), some (.inl (c + 1))]) (st' := []) rfl ?_
                refine ih v n s t o 1 (c + 1)  hX (by first | assumption | omega | (unfold R32 at *; omega) | (unfold R64 at *; omega) | (simp only [R32, R64] at *; omega)) (by first | assumption | omega | (unfold R32 at *; omega) | (unfold R64 at *; omega) | (simp only [R32, R64] at *; omega)) (by first | assumption | omega | (unfold R32 at *; omega) | (unfold R64 at *; omega) | (simp only [R32, R64] at *; omega)) (by first | assumption | omega | (unfold R32 at *; omega) | (unfold R64 at *; omega) | (simp only [R32, R64] at *; omega)) (by first | assumption | omega | (unfold R32 at *; omega) | (unfold R64 at *; omega) | (simp only [R32, R64] at *; omega)) (by first | assumption | omega | (unfold R32 at *; omega) | (unfold R64 at *; omega) | (simp only [R32, R64] at *; omega)) (by first | assumption | omega | (unfold R32 at *; omega) | (unfold R64 at *; omega) | (simp only [R32, R64] at *; omega)) hK
              · show WV _ _ _ 166 _ _ _ _ _
                rw [if_pos h_163] at hK
                refine r_ex 3 (pc' := 172) (lo' := [some (.inr (.inr (some 203))), some (.inl n), some (.inl s), some (.inl t), some (.inl o), some (.inl 1), some (.inl c)]) (st' := [.inl c, .inr (.inr (some 232))]) rfl ?_
                refine r_iald2 (j := 0) (x := (v 232 ((c).toNat))) (pc' := 173) (pc0 := 172) (len := 1) rfl (s_232 _) (by first | assumption | omega | (unfold R32 at *; omega) | (unfold R64 at *; omega) | (simp only [R32, R64] at *; omega)) (by decide) rfl rfl ?_
                refine r_ex 4 (pc' := 106) (lo' := [some (.inr (.inr (some 203))), some (.inl n), some (.inl s), some (.inl t), some (.inl (v 232 ((c).toNat))), some (.inl 1), some (.inl (c + 1))]) (st' := []) rfl ?_
                refine ih v n s t (v 232 ((c).toNat)) 1 (c + 1)  hX (by first | assumption | omega | (unfold R32 at *; omega) | (unfold R64 at *; omega) | (simp only [R32, R64] at *; omega)) (by first | assumption | omega | (unfold R32 at *; omega) | (unfold R64 at *; omega) | (simp only [R32, R64] at *; omega)) (by first | assumption | omega | (unfold R32 at *; omega) | (unfold R64 at *; omega) | (simp only [R32, R64] at *; omega)) (by first | assumption | omega | (unfold R32 at *; omega) | (unfold R64 at *; omega) | (simp only [R32, R64] at *; omega)) (by first | assumption | omega | (unfold R32 at *; omega) | (unfold R64 at *; omega) | (simp only [R32, R64] at *; omega)) (by first | assumption | omega | (unfold R32 at *; omega) | (unfold R64 at *; omega) | (simp only [R32, R64] at *; omega)) (by first | assumption | omega | (unfold R32 at *; omega) | (unfold R64 at *; omega) | (simp only [R32, R64] at *; omega)) hK

set_option maxRecDepth 100000 in
theorem l_mo_splits_46 {X : PX} {d b : Nat} {Q : Option PV → Nat → VS → Prop}  : ∀ (f : Nat) (v : VS) (n : Int) (s : Int) (t : Int) (o4 : Option PV) (o5 : Option PV) (o6 : Option PV), XI v → (0 ≤ n ∧ n ≤ t) → (0 ≤ s ∧ s ≤ 300) → (0 ≤ t ∧ t ≤ 300) → (SM v) → (300 < t + f) → (∀ qx2 : Option PV, ∀ qx3 : Option PV, ∀ qx4 : Option PV, ∀ qx5 : Option PV, ∀ qx6 : Option PV, XI ((mo_splits_46 f v n s t).2) → (0 ≤ (mo_splits_46 f v n s t).1 ∧ (mo_splits_46 f v n s t).1 ≤ 300) → WV X (d + 1 + 1 + 1 + 1 + 1 + 1) 295 205 [some (.inr (.inr (some 203))), some (.inl ((mo_splits_46 f v n s t).1)), qx2, qx3, qx4, qx5, qx6] [] b (mo_splits_46 f v n s t).2 Q) → WV X (d + 1 + 1 + 1 + 1 + 1 + 1) 295 46 [some (.inr (.inr (some 203))), some (.inl n), some (.inl s), some (.inl t), o4, o5, o6] [] b v Q := by
  intro f
  induction f with
  | zero =>
    intro v n s t o4 o5 o6 hX hi_0 hi_1 hi_2 hi_3 hf hK
    exfalso
    omega
  | succ f ih =>
    intro v n s t o4 o5 o6 hX hi_0 hi_1 hi_2 hi_3 hf hK
    rw [mo_splits_46] at hK
    refine r_ex 4 (pc' := 52) (lo' := [some (.inr (.inr (some 203))), some (.inl n), some (.inl s), some (.inl t), o4, o5, o6]) (st' := [.inl 1, .inr (.inr (some 210)), .inl t]) rfl ?_
    refine r_iald2 (j := 0) (x := (v 210 1)) (pc' := 53) (pc0 := 52) (len := 1) rfl (s_210 _) (by first | assumption | omega | (unfold R32 at *; omega) | (unfold R64 at *; omega) | (simp only [R32, R64] at *; omega)) (by decide) rfl rfl ?_
    have hb_7 : 0 ≤ (v 210 1) ∧ (v 210 1) ≤ 300 := hX 210 1
    refine n_ic_ge (pc0 := 53) (len := 3) (t := 205) rfl (by first | assumption | omega | (unfold R32 at *; omega) | (unfold R64 at *; omega) | (simp only [R32, R64] at *; omega)) (by first | assumption | omega | (unfold R32 at *; omega) | (unfold R64 at *; omega) | (simp only [R32, R64] at *; omega)) (fun h_53 => ?_) (fun h_53 => ?_)
    · show WV _ _ _ 205 _ _ _ _ _
      rw [if_neg h_53] at hK
      exact hK _ _ _ _ _ hX (by first | assumption | omega | (unfold R32 at *; omega) | (unfold R64 at *; omega) | (simp only [R32, R64] at *; omega))
    · show WV _ _ _ 56 _ _ _ _ _
      rw [if_pos h_53] at hK
      refine l_mo_splits_56 301 v n s t _ _ _ hX (by first | assumption | omega | (unfold R32 at *; omega) | (unfold R64 at *; omega) | (simp only [R32, R64] at *; omega)) (by first | assumption | omega | (unfold R32 at *; omega) | (unfold R64 at *; omega) | (simp only [R32, R64] at *; omega)) (by first | assumption | omega | (unfold R32 at *; omega) | (unfold R64 at *; omega) | (simp only [R32, R64] at *; omega)) (by first | assumption | exact SM.of hi_3 (fun k h => by rw [v2_row (by omega)])) (by first | assumption | omega | (unfold R32 at *; omega) | (unfold R64 at *; omega) | (simp only [R32, R64] at *; omega)) (fun  hX_19 hv_19_0 => ?_)
      show WV _ _ _ 97 _ _ _ _ _
      refine r_ex 6 (pc' := 106) (lo' := [some (.inr (.inr (some 203))), some (.inl n), some (.inl ((mo_splits_56 301 v n s t).1)), some (.inl t), some (.inl 0), some (.inl 0), some (.inl 0)]) (st' := []) rfl ?_
      refine l_mo_splits_106 10 ((mo_splits_56 301 v n s t).2) n ((mo_splits_56 301 v n s t).1) t 0 0 0  hX_19 (by first | assumption | omega | (unfold R32 at *; omega) | (unfold R64 at *; omega) | (simp only [R32, R64] at *; omega)) (by first | assumption | omega | (unfold R32 at *; omega) | (unfold R64 at *; omega) | (simp only [R32, R64] at *; omega)) (by first | assumption | omega | (unfold R32 at *; omega) | (unfold R64 at *; omega) | (simp only [R32, R64] at *; omega)) (by first | assumption | omega | (unfold R32 at *; omega) | (unfold R64 at *; omega) | (simp only [R32, R64] at *; omega)) (by first | assumption | omega | (unfold R32 at *; omega) | (unfold R64 at *; omega) | (simp only [R32, R64] at *; omega)) (by first | assumption | omega | (unfold R32 at *; omega) | (unfold R64 at *; omega) | (simp only [R32, R64] at *; omega)) (by first | assumption | omega | (unfold R32 at *; omega) | (unfold R64 at *; omega) | (simp only [R32, R64] at *; omega)) (fun o4_23 o6_23  hv_23_0 => ?_)
      show WV _ _ _ 186 _ _ _ _ _
      refine r_ex 2 (pc' := 189) (lo' := [some (.inr (.inr (some 203))), some (.inl n), some (.inl ((mo_splits_56 301 v n s t).1)), some (.inl t), o4_23, some (.inl (mo_splits_106 10 ((mo_splits_56 301 v n s t).2) n ((mo_splits_56 301 v n s t).1) t 0 0 0)), o6_23]) (st' := [.inl (mo_splits_106 10 ((mo_splits_56 301 v n s t).2) n ((mo_splits_56 301 v n s t).1) t 0 0 0), .inl n]) rfl ?_
      refine n_if_eq (pc0 := 189) (len := 3) (t := 196) rfl (by first | assumption | omega | (unfold R32 at *; omega) | (unfold R64 at *; omega) | (simp only [R32, R64] at *; omega)) (fun h_189 => ?_) (fun h_189 => ?_)
      · show WV _ _ _ 196 _ _ _ _ _
        rw [if_pos h_189] at hK
        refine r_ex 5 (pc' := 46) (lo' := [some (.inr (.inr (some 203))), some (.inl (n + 0)), some (.inl ((mo_splits_56 301 v n s t).1)), some (.inl (t + 1)), o4_23, some (.inl (mo_splits_106 10 ((mo_splits_56 301 v n s t).2) n ((mo_splits_56 301 v n s t).1) t 0 0 0)), o6_23]) (st' := []) rfl ?_
        refine ih ((mo_splits_56 301 v n s t).2) (n + 0) ((mo_splits_56 301 v n s t).1) (t + 1) _ _ _ hX_19 (by first | assumption | omega | (unfold R32 at *; omega) | (unfold R64 at *; omega) | (simp only [R32, R64] at *; omega)) (by first | assumption | omega | (unfold R32 at *; omega) | (unfold R64 at *; omega) | (simp only [R32, R64] at *; omega)) (by first | assumption | omega | (unfold R32 at *; omega) | (unfold R64 at *; omega) | (simp only [R32, R64] at *; omega)) (by first | assumption | exact SM.of hi_3 (fun k h => by rw [o_mo_splits_56 (by omega)])) (by first | assumption | omega | (unfold R32 at *; omega) | (unfold R64 at *; omega) | (simp only [R32, R64] at *; omega)) hK
      · show WV _ _ _ 192 _ _ _ _ _
        rw [if_neg h_189] at hK
        refine r_ex 6 (pc' := 46) (lo' := [some (.inr (.inr (some 203))), some (.inl (n + 1)), some (.inl ((mo_splits_56 301 v n s t).1)), some (.inl (t + 1)), o4_23, some (.inl (mo_splits_106 10 ((mo_splits_56 301 v n s t).2) n ((mo_splits_56 301 v n s t).1) t 0 0 0)), o6_23]) (st' := []) rfl ?_
        refine ih ((mo_splits_56 301 v n s t).2) (n + 1) ((mo_splits_56 301 v n s t).1) (t + 1) _ _ _ hX_19 (by first | assumption | omega | (unfold R32 at *; omega) | (unfold R64 at *; omega) | (simp only [R32, R64] at *; omega)) (by first | assumption | omega | (unfold R32 at *; omega) | (unfold R64 at *; omega) | (simp only [R32, R64] at *; omega)) (by first | assumption | omega | (unfold R32 at *; omega) | (unfold R64 at *; omega) | (simp only [R32, R64] at *; omega)) (by first | assumption | exact SM.of hi_3 (fun k h => by rw [o_mo_splits_56 (by omega)])) (by first | assumption | omega | (unfold R32 at *; omega) | (unfold R64 at *; omega) | (simp only [R32, R64] at *; omega)) hK

theorem of_mo_splits_46 {rk : Nat} (hk : (rk < 232 ∨ 232 < rk)) : ∀ (f : Nat) {v : VS} {n : Int} {s : Int} {t : Int}, (mo_splits_46 f v n s t).2 rk = v rk := by
  intro f
  induction f with
  | zero => intro v n s t; rfl
  | succ f ih =>
    intro v n s t
    rw [mo_splits_46]
    by_cases hc_ : t < (v 210 1)
    · rw [if_pos hc_] <;> clear hc_
      by_cases hc_ : (mo_splits_106 10 ((mo_splits_56 301 v n s t).2) n ((mo_splits_56 301 v n s t).1) t 0 0 0) = 0
      · rw [if_pos hc_] <;> clear hc_
        all_goals (rw [ih, o_mo_splits_56 (by omega)])
      · rw [if_neg hc_] <;> clear hc_
        all_goals (rw [ih, o_mo_splits_56 (by omega)])
    · rw [if_neg hc_] <;> clear hc_
      all_goals (show v rk = _)
      all_goals rfl
theorem o_mo_splits_46 {rk : Nat} {f : Nat} {v : VS} {n : Int} {s : Int} {t : Int} (hk : (rk < 232 ∨ 232 < rk)) : (mo_splits_46 f v n s t).2 rk = v rk := of_mo_splits_46 hk f

set_option maxRecDepth 100000 in
theorem l_mo_splits_40 {X : PX} {d b : Nat} {Q : Option PV → Nat → VS → Prop}  : ∀ (v : VS)  (o1 : Option PV) (o2 : Option PV) (o3 : Option PV) (o4 : Option PV) (o5 : Option PV) (o6 : Option PV), XI v → (SM v) → (XI (mo_splits_40 v).2 → Q (some (.inl (mo_splits_40 v).1)) b (mo_splits_40 v).2) → WV X (d + 1 + 1 + 1 + 1 + 1 + 1) 295 40 [some (.inr (.inr (some 203))), o1, o2, o3, o4, o5, o6] [] b v Q := by
  intro v o1 o2 o3 o4 o5 o6 hX hi_0 hQ
  rw [mo_splits_40] at hQ
  refine r_ex 6 (pc' := 46) (lo' := [some (.inr (.inr (some 203))), some (.inl 0), some (.inl 0), some (.inl 0), o4, o5, o6]) (st' := []) rfl ?_
  refine l_mo_splits_46 301 v 0 0 0 _ _ _ hX (by first | assumption | omega | (unfold R32 at *; omega) | (unfold R64 at *; omega) | (simp only [R32, R64] at *; omega)) (by first | assumption | omega | (unfold R32 at *; omega) | (unfold R64 at *; omega) | (simp only [R32, R64] at *; omega)) (by first | assumption | omega | (unfold R32 at *; omega) | (unfold R64 at *; omega) | (simp only [R32, R64] at *; omega)) (by first | assumption | exact SM.of hi_3 (fun k h => by rw [o_mo_splits_56 (by omega)])) (by first | assumption | omega | (unfold R32 at *; omega) | (unfold R64 at *; omega) | (simp only [R32, R64] at *; omega)) (fun o2_24 o3_24 o4_24 o5_24 o6_24 hX_24 hv_24_0 => ?_)
  show WV _ _ _ 205 _ _ _ _ _
  refine r_ex 1 (pc' := 206) (lo' := [some (.inr (.inr (some 203))), some (.inl ((mo_splits_46 301 v 0 0 0).1)), o2_24, o3_24, o4_24, o5_24, o6_24]) (st' := [.inl ((mo_splits_46 301 v 0 0 0).1)]) rfl ?_
  refine r_ret (rr := some (.inl ((mo_splits_46 301 v 0 0 0).1))) (I := .ireturn) (pc0 := 206) (len := 1) rfl rfl ?_
  exact hQ hX_24 

theorem o_mo_splits_40 {rk : Nat} {v : VS}  (hk : (rk < 232 ∨ 232 < rk)) : (mo_splits_40 v ).2 rk = v rk := by
  unfold mo_splits_40
  all_goals (show ((mo_splits_46 301 v 0 0 0).2) rk = _)
  all_goals (rw [o_mo_splits_46 (by omega)])

set_option maxRecDepth 100000 in
theorem w_mo_splits {X : PX} {d b : Nat} {v : VS}  (hX : XI v) (hp_a : CF v) (hp_b : SM (mo_told (v2 v 203 0 0))) {Q : Option PV → Nat → VS → Prop} (hQ : XI (mo_splits v).2 → Q (some (.inl (mo_splits v).1)) b (mo_splits v).2) : WV X (d + 1 + 1 + 1 + 1 + 1 + 1) 295 0 [some (.inr (.inr (some 203))), none, none, none, none, none, none] [] b v Q := by
  rw [mo_splits] at hQ
  refine r_ex 2 (pc' := 2) (lo' := [some (.inr (.inr (some 203))), none, none, none, none, none, none]) (st' := [.inl 0, .inr (.inr (some 203))]) rfl ?_
  refine r_puti2 (j := 0) (pc' := 5) (pc0 := 2) (len := 3) rfl (s_203 _) rfl rfl rfl (Or.inl rfl) rfl rfl ?_
  have hX_1 : XI (v2 v 203 0 0) := XI.put hX trivial
  refine r_ex 1 (pc' := 6) (lo' := [some (.inr (.inr (some 203))), none, none, none, none, none, none]) (st' := [.inr (.inr (some 203))]) rfl ?_
  have hb_2 : 0 ≤ (v 209 0) ∧ (v 209 0) ≤ 2001 := hX_1 209 0
  refine r_callb (P := 0 < (v 209 0)) (m := 245) (args := [.inr (.inr (some 203))]) (n' := 295) (pc' := 9) (lo' := [some (.inr (.inr (some 203))), none, none, none, none, none, none]) (st' := []) (I := .invokevirtual 245) (pc0 := 6) (len := 3) rfl rfl rfl (e_mo_isBay hX_1) (fun h_6 => ?_) (fun h_6 => ?_)
  · show WV _ _ _ 9 _ _ _ _ _
    rw [if_pos h_6] at hQ
    refine r_ex 2 (pc' := 16) (lo' := [some (.inr (.inr (some 203))), none, none, none, none, none, none]) (st' := [.inr (.inr (some 203))]) rfl ?_
    have hp_3 : CF (v2 v 203 0 0) := show CF (v2 v 203 0 0) from (show CF (v2 v 203 0 0) from CF.of hp_a (fun k h1 h2 => by rw [v2_row (by omega)]))
    refine r_call (m := 246) (args := [.inr (.inr (some 203))]) (n' := 295) (pc' := 19) (lo' := [some (.inr (.inr (some 203))), none, none, none, none, none, none]) (st' := []) (I := .invokevirtual 246) (pc0 := 16) (len := 3) rfl rfl rfl (e_mo_told hX_1 hp_3) ?_
    show WV _ _ _ 19 _ [] _ (mo_told (v2 v 203 0 0)) _
    have hX_4 : XI (mo_told (v2 v 203 0 0)) := i_mo_told (v := (v2 v 203 0 0)) hX_1 hp_3
    refine r_ex 2 (pc' := 21) (lo' := [some (.inr (.inr (some 203))), some (.inl 0), none, none, none, none, none]) (st' := []) rfl ?_
    refine l_mo_splits_21 10 (mo_told (v2 v 203 0 0)) 0 _ _ _ _ _ hX_4 (by first | assumption | omega | (unfold R32 at *; omega) | (unfold R64 at *; omega) | (simp only [R32, R64] at *; omega)) (by first | assumption | exact SM.of hi_1 (fun k h => by rw [v2_row (by omega)])) (by first | assumption | omega | (unfold R32 at *; omega) | (unfold R64 at *; omega) | (simp only [R32, R64] at *; omega)) (fun o1_6 hX_6 hv_6_0 => ?_)
    show WV _ _ _ 40 _ _ _ _ _
    exact l_mo_splits_40  (mo_splits_21 10 (mo_told (v2 v 203 0 0)) 0)  _ _ _ _ _ _ hX_6 (by first | assumption | omega | (unfold R32 at *; omega) | (unfold R64 at *; omega) | (simp only [R32, R64] at *; omega)) hQ
  · show WV _ _ _ 9 _ _ _ _ _
    rw [if_neg h_6] at hQ
    refine r_ex 2 (pc' := 14) (lo' := [some (.inr (.inr (some 203))), none, none, none, none, none, none]) (st' := [.inl (-2)]) rfl ?_
    refine r_ret (rr := some (.inl (-2))) (I := .ireturn) (pc0 := 14) (len := 1) rfl rfl ?_
    exact hQ hX_1 

theorem e_mo_splits {X : PX} {d b : Nat} {v : VS}  (hX : XI v) (hp_a : CF v) (hp_b : SM (mo_told (v2 v 203 0 0))) : EvV X (d + 1 + 1 + 1 + 1 + 1 + 1) 295 [.inr (.inr (some 203))] b v (some (.inl (mo_splits v).1)) b ((mo_splits v).2) := EvV.of (w_mo_splits hX hp_a hp_b (fun _ => ⟨rfl, rfl, rfl⟩))

theorem i_mo_splits {v : VS}  (hX : XI v) (hp_a : CF v) (hp_b : SM (mo_told (v2 v 203 0 0))) : XI ((mo_splits v).2) := by
  have q : WV (0, fun _ => 0, none) (0 + 1 + 1 + 1 + 1 + 1 + 1) 295 0 [some (.inr (.inr (some 203))), none, none, none, none, none, none] [] 1 v (fun _ _ _ => XI ((mo_splits v).2)) := w_mo_splits (X := (0, fun _ => 0, none)) (d := 0) (b := 1) hX hp_a hp_b (fun q => q)
  obtain ⟨_, _, _, _, _, _, _, q⟩ := q
  exact q

theorem o_mo_splits {rk : Nat} {v : VS}  (hk : (rk < 203 ∨ 203 < rk) ∧ (rk < 219 ∨ 232 < rk)) : (mo_splits v ).2 rk = v rk := by
  unfold mo_splits
  by_cases hc_ : 0 < (v 209 0)
  · rw [if_pos hc_] <;> clear hc_
    all_goals (rw [o_mo_splits_40 (by omega), o_mo_splits_21 (by omega), o_mo_told (by omega), v2_row (by omega)])
  · rw [if_neg hc_] <;> clear hc_
    all_goals (show (v2 v 203 0 0) rk = _)
    all_goals (rw [v2_row (by omega)])

noncomputable def mo_isStruckIn_2 : Nat → VS → Int → Int → Int
  | 0, v, t, s => 0
  | f + 1, v, t, s => (if s < (v 203 37) then (if (mo_at v s 0) = t then 1 else (mo_isStruckIn_2 f v t (s + 1))) else 0)
noncomputable def mo_isStruckIn (v : VS) (t : Int) : Int :=
  (mo_isStruckIn_2 301 v t 0)
theorem l_mo_isStruckIn_2 {X : PX} {d b : Nat} {Q : Option PV → Nat → VS → Prop}  : ∀ (f : Nat) (v : VS) (t : Int) (s : Int), XI v → (0 ≤ s ∧ s ≤ 300) → (R32 t) → (300 < s + f) → ((0 ≤ (mo_isStruckIn_2 f v t s) ∧ (mo_isStruckIn_2 f v t s) ≤ 1) → Q (some (.inl (mo_isStruckIn_2 f v t s))) b v) → WV X (d + 1) 297 2 [some (.inr (.inr (some 203))), some (.inl t), some (.inl s)] [] b v Q := by
  intro f
  induction f with
  | zero =>
    intro v t s hX hi_0 hi_1 hf hQ
    exfalso
    omega
  | succ f ih =>
    intro v t s hX hi_0 hi_1 hf hQ
    rw [mo_isStruckIn_2] at hQ
    refine r_ex 3 (pc' := 7) (lo' := [some (.inr (.inr (some 203))), some (.inl t), some (.inl s)]) (st' := [.inl (v 203 37), .inl s]) rfl ?_
    have hb_1 : 0 ≤ (v 203 37) ∧ (v 203 37) ≤ 300 := hX 203 37
    refine n_ic_ge (pc0 := 7) (len := 3) (t := 28) rfl (by first | assumption | omega | (unfold R32 at *; omega) | (unfold R64 at *; omega) | (simp only [R32, R64] at *; omega)) (by first | assumption | omega | (unfold R32 at *; omega) | (unfold R64 at *; omega) | (simp only [R32, R64] at *; omega)) (fun h_7 => ?_) (fun h_7 => ?_)
    · show WV _ _ _ 28 _ _ _ _ _
      rw [if_neg h_7] at hQ
      refine r_ex 1 (pc' := 29) (lo' := [some (.inr (.inr (some 203))), some (.inl t), some (.inl s)]) (st' := [.inl 0]) rfl ?_
      refine r_ret (rr := some (.inl 0)) (I := .ireturn) (pc0 := 29) (len := 1) rfl rfl ?_
      exact hQ (by first | assumption | omega | (unfold R32 at *; omega) | (unfold R64 at *; omega) | (simp only [R32, R64] at *; omega))
    · show WV _ _ _ 10 _ _ _ _ _
      rw [if_pos h_7] at hQ
      refine r_ex 3 (pc' := 13) (lo' := [some (.inr (.inr (some 203))), some (.inl t), some (.inl s)]) (st' := [.inl 0, .inl s, .inr (.inr (some 203))]) rfl ?_
      have hp_2 : 0 ≤ s ∧ s < 300 := (by first | assumption | omega | (unfold R32 at *; omega) | (unfold R64 at *; omega) | (simp only [R32, R64] at *; omega))
      have hp_3 : 0 ≤ (0 : Int) ∧ (0 : Int) < 5 := (by first | assumption | omega | (unfold R32 at *; omega) | (unfold R64 at *; omega) | (simp only [R32, R64] at *; omega))
      refine r_call (m := 254) (args := [.inr (.inr (some 203)), .inl s, .inl 0]) (n' := 297) (pc' := 16) (lo' := [some (.inr (.inr (some 203))), some (.inl t), some (.inl s)]) (st' := []) (I := .invokevirtual 254) (pc0 := 13) (len := 3) rfl rfl rfl (e_mo_at hX hp_2 hp_3) ?_
      show WV _ _ _ 16 _ [.inl (mo_at v s 0)] _ _ _
      have hb_4 := n_mo_at (v := v) (i := s) (w := 0) hX hp_2 hp_3
      refine r_ex 1 (pc' := 17) (lo' := [some (.inr (.inr (some 203))), some (.inl t), some (.inl s)]) (st' := [.inl t, .inl (mo_at v s 0)]) rfl ?_
      refine n_ic_ne (pc0 := 17) (len := 3) (t := 22) rfl (by first | assumption | omega | (unfold R32 at *; omega) | (unfold R64 at *; omega) | (simp only [R32, R64] at *; omega)) (by first | assumption | omega | (unfold R32 at *; omega) | (unfold R64 at *; omega) | (simp only [R32, R64] at *; omega)) (fun h_17 => ?_) (fun h_17 => ?_)
      · show WV _ _ _ 22 _ _ _ _ _
        rw [if_neg h_17] at hQ
        refine r_ex 2 (pc' := 2) (lo' := [some (.inr (.inr (some 203))), some (.inl t), some (.inl (s + 1))]) (st' := []) rfl ?_
        refine ih v t (s + 1)  hX (by first | assumption | omega | (unfold R32 at *; omega) | (unfold R64 at *; omega) | (simp only [R32, R64] at *; omega)) (by first | assumption | omega | (unfold R32 at *; omega) | (unfold R64 at *; omega) | (simp only [R32, R64] at *; omega)) (by first | assumption | omega | (unfold R32 at *; omega) | (unfold R64 at *; omega) | (simp only [R32, R64] at *; omega)) hQ
      · show WV _ _ _ 20 _ _ _ _ _
        rw [if_pos h_17] at hQ
        refine r_ex 1 (pc' := 21) (lo' := [some (.inr (.inr (some 203))), some (.inl t), some (.inl s)]) (st' := [.inl 1]) rfl ?_
        refine r_ret (rr := some (.inl 1)) (I := .ireturn) (pc0 := 21) (len := 1) rfl rfl ?_
        exact hQ (by first | assumption | omega | (unfold R32 at *; omega) | (unfold R64 at *; omega) | (simp only [R32, R64] at *; omega))

theorem w_mo_isStruckIn {X : PX} {d b : Nat} {v : VS} {t : Int} (hX : XI v) (hp_a : R32 t) {Q : Option PV → Nat → VS → Prop} (hQ : (0 ≤ (mo_isStruckIn v t) ∧ (mo_isStruckIn v t) ≤ 1) → Q (some (.inl (mo_isStruckIn v t))) b v) : WV X (d + 1) 297 0 [some (.inr (.inr (some 203))), some (.inl t), none] [] b v Q := by
  rw [mo_isStruckIn] at hQ
  refine r_ex 2 (pc' := 2) (lo' := [some (.inr (.inr (some 203))), some (.inl t), some (.inl 0)]) (st' := []) rfl ?_
  exact l_mo_isStruckIn_2 301 v t 0  hX (by first | assumption | omega | (unfold R32 at *; omega) | (unfold R64 at *; omega) | (simp only [R32, R64] at *; omega)) (by first | assumption | omega | (unfold R32 at *; omega) | (unfold R64 at *; omega) | (simp only [R32, R64] at *; omega)) (by first | assumption | omega | (unfold R32 at *; omega) | (unfold R64 at *; omega) | (simp only [R32, R64] at *; omega)) hQ

theorem e_mo_isStruckIn {X : PX} {d b : Nat} {v : VS} {t : Int} (hX : XI v) (hp_a : R32 t) : EvV X (d + 1) 297 [.inr (.inr (some 203)), .inl t] b v (some (.inl (mo_isStruckIn v t))) b v := EvV.of (w_mo_isStruckIn hX hp_a (fun _ => ⟨rfl, rfl, rfl⟩))

theorem n_mo_isStruckIn {v : VS} {t : Int} (hX : XI v) (hp_a : R32 t) : 0 ≤ (mo_isStruckIn v t) ∧ (mo_isStruckIn v t) ≤ 1 := by
  have q : WV (0, fun _ => 0, none) (0 + 1) 297 0 [some (.inr (.inr (some 203))), some (.inl t), none] [] 1 v (fun _ _ _ => 0 ≤ (mo_isStruckIn v t) ∧ (mo_isStruckIn v t) ≤ 1) := w_mo_isStruckIn (X := (0, fun _ => 0, none)) (d := 0) (b := 1) hX hp_a (fun q => q)
  obtain ⟨_, _, _, _, _, _, _, q⟩ := q
  exact q

noncomputable def mo_silence_39 : Nat → VS → Int → Int → Int → Int → Int → Int × Int
  | 0, v, w, g, a, r, t => (0, 0)
  | f + 1, v, w, g, a, r, t => (if t < (v 210 1) then (if (mo_isStruckIn v t) = 0 then (if g < (r + 1) then (mo_silence_39 f v w (r + 1) ((t - (r + 1)) + 1) (r + 1) (t + 1)) else (mo_silence_39 f v w g a (r + 1) (t + 1))) else (if g < 0 then (mo_silence_39 f v w 0 ((t - 0) + 1) 0 (t + 1)) else (mo_silence_39 f v w g a 0 (t + 1)))) else (g, a))
noncomputable def mo_silence (v : VS) (w : Int) : Int × VS :=
  (if 0 < (v 209 0) then (if (0 : Int) ≤ w ∧ w ≤ (1 : Int) then (if w = 0 then ((mo_silence_39 301 (mo_told (v2 v 203 0 0)) w 0 (-1) 0 0).1, (mo_told (v2 v 203 0 0))) else ((mo_silence_39 301 (mo_told (v2 v 203 0 0)) w 0 (-1) 0 0).2, (mo_told (v2 v 203 0 0)))) else ((-2), (v2 v 203 0 0))) else ((-2), (v2 v 203 0 0)))
theorem l_mo_silence_39 {X : PX} {d b : Nat} {Q : Option PV → Nat → VS → Prop}  : ∀ (f : Nat) (v : VS) (w : Int) (g : Int) (a : Int) (r : Int) (t : Int), XI v → (R32 w) → (0 ≤ g ∧ g ≤ 300) → (-1 ≤ a ∧ a ≤ 300) → (0 ≤ r ∧ r ≤ t) → (0 ≤ t ∧ t ≤ 300) → (300 < t + f) → (∀ qx4 : Option PV, ∀ qx5 : Option PV, (0 ≤ (mo_silence_39 f v w g a r t).1 ∧ (mo_silence_39 f v w g a r t).1 ≤ 300) → (-1 ≤ (mo_silence_39 f v w g a r t).2 ∧ (mo_silence_39 f v w g a r t).2 ≤ 300) → WV X (d + 1 + 1 + 1 + 1 + 1 + 1) 296 95 [some (.inr (.inr (some 203))), some (.inl w), some (.inl ((mo_silence_39 f v w g a r t).1)), some (.inl ((mo_silence_39 f v w g a r t).2)), qx4, qx5] [] b v Q) → WV X (d + 1 + 1 + 1 + 1 + 1 + 1) 296 39 [some (.inr (.inr (some 203))), some (.inl w), some (.inl g), some (.inl a), some (.inl r), some (.inl t)] [] b v Q := by
  intro f
  induction f with
  | zero =>
    intro v w g a r t hX hi_0 hi_1 hi_2 hi_3 hi_4 hf hK
    exfalso
    omega
  | succ f ih =>
    intro v w g a r t hX hi_0 hi_1 hi_2 hi_3 hi_4 hf hK
    rw [mo_silence_39] at hK
    refine r_ex 4 (pc' := 46) (lo' := [some (.inr (.inr (some 203))), some (.inl w), some (.inl g), some (.inl a), some (.inl r), some (.inl t)]) (st' := [.inl 1, .inr (.inr (some 210)), .inl t]) rfl ?_
    refine r_iald2 (j := 0) (x := (v 210 1)) (pc' := 47) (pc0 := 46) (len := 1) rfl (s_210 _) (by first | assumption | omega | (unfold R32 at *; omega) | (unfold R64 at *; omega) | (simp only [R32, R64] at *; omega)) (by decide) rfl rfl ?_
    have hb_8 : 0 ≤ (v 210 1) ∧ (v 210 1) ≤ 300 := hX 210 1
    refine n_ic_ge (pc0 := 47) (len := 3) (t := 95) rfl (by first | assumption | omega | (unfold R32 at *; omega) | (unfold R64 at *; omega) | (simp only [R32, R64] at *; omega)) (by first | assumption | omega | (unfold R32 at *; omega) | (unfold R64 at *; omega) | (simp only [R32, R64] at *; omega)) (fun h_47 => ?_) (fun h_47 => ?_)
    · show WV _ _ _ 95 _ _ _ _ _
      rw [if_neg h_47] at hK
      exact hK _ _  (by first | assumption | omega | (unfold R32 at *; omega) | (unfold R64 at *; omega) | (simp only [R32, R64] at *; omega)) (by first | assumption | omega | (unfold R32 at *; omega) | (unfold R64 at *; omega) | (simp only [R32, R64] at *; omega))
    · show WV _ _ _ 50 _ _ _ _ _
      rw [if_pos h_47] at hK
      refine r_ex 2 (pc' := 53) (lo' := [some (.inr (.inr (some 203))), some (.inl w), some (.inl g), some (.inl a), some (.inl r), some (.inl t)]) (st' := [.inl t, .inr (.inr (some 203))]) rfl ?_
      have hp_9 : R32 t := (by first | assumption | omega | (unfold R32 at *; omega) | (unfold R64 at *; omega) | (simp only [R32, R64] at *; omega))
      refine r_call (m := 297) (args := [.inr (.inr (some 203)), .inl t]) (n' := 296) (pc' := 56) (lo' := [some (.inr (.inr (some 203))), some (.inl w), some (.inl g), some (.inl a), some (.inl r), some (.inl t)]) (st' := []) (I := .invokevirtual 297) (pc0 := 53) (len := 3) rfl rfl rfl (e_mo_isStruckIn hX hp_9) ?_
      show WV _ _ _ 56 _ [.inl (mo_isStruckIn v t)] _ _ _
      have hb_10 := n_mo_isStruckIn (v := v) (t := t) hX hp_9
      refine n_if_eq (pc0 := 56) (len := 3) (t := 63) rfl (by first | assumption | omega | (unfold R32 at *; omega) | (unfold R64 at *; omega) | (simp only [R32, R64] at *; omega)) (fun h_56 => ?_) (fun h_56 => ?_)
      · show WV _ _ _ 63 _ _ _ _ _
        rw [if_pos h_56] at hK
        refine r_ex 6 (pc' := 72) (lo' := [some (.inr (.inr (some 203))), some (.inl w), some (.inl g), some (.inl a), some (.inl (r + 1)), some (.inl t)]) (st' := [.inl g, .inl (r + 1)]) rfl ?_
        refine n_ic_gt (pc0 := 72) (len := 3) (t := 78) rfl (by first | assumption | omega | (unfold R32 at *; omega) | (unfold R64 at *; omega) | (simp only [R32, R64] at *; omega)) (by first | assumption | omega | (unfold R32 at *; omega) | (unfold R64 at *; omega) | (simp only [R32, R64] at *; omega)) (fun h_72 => ?_) (fun h_72 => ?_)
        · show WV _ _ _ 78 _ _ _ _ _
          rw [if_pos h_72] at hK
          refine r_ex 10 (pc' := 39) (lo' := [some (.inr (.inr (some 203))), some (.inl w), some (.inl (r + 1)), some (.inl ((t - (r + 1)) + 1)), some (.inl (r + 1)), some (.inl (t + 1))]) (st' := []) rfl ?_
          refine ih v w (r + 1) ((t - (r + 1)) + 1) (r + 1) (t + 1)  hX (by first | assumption | omega | (unfold R32 at *; omega) | (unfold R64 at *; omega) | (simp only [R32, R64] at *; omega)) (by first | assumption | omega | (unfold R32 at *; omega) | (unfold R64 at *; omega) | (simp only [R32, R64] at *; omega)) (by first | assumption | omega | (unfold R32 at *; omega) | (unfold R64 at *; omega) | (simp only [R32, R64] at *; omega)) (by first | assumption | omega | (unfold R32 at *; omega) | (unfold R64 at *; omega) | (simp only [R32, R64] at *; omega)) (by first | assumption | omega | (unfold R32 at *; omega) | (unfold R64 at *; omega) | (simp only [R32, R64] at *; omega)) (by first | assumption | omega | (unfold R32 at *; omega) | (unfold R64 at *; omega) | (simp only [R32, R64] at *; omega)) hK
        · show WV _ _ _ 75 _ _ _ _ _
          rw [if_neg h_72] at hK
          refine r_ex 3 (pc' := 39) (lo' := [some (.inr (.inr (some 203))), some (.inl w), some (.inl g), some (.inl a), some (.inl (r + 1)), some (.inl (t + 1))]) (st' := []) rfl ?_
          refine ih v w g a (r + 1) (t + 1)  hX (by first | assumption | omega | (unfold R32 at *; omega) | (unfold R64 at *; omega) | (simp only [R32, R64] at *; omega)) (by first | assumption | omega | (unfold R32 at *; omega) | (unfold R64 at *; omega) | (simp only [R32, R64] at *; omega)) (by first | assumption | omega | (unfold R32 at *; omega) | (unfold R64 at *; omega) | (simp only [R32, R64] at *; omega)) (by first | assumption | omega | (unfold R32 at *; omega) | (unfold R64 at *; omega) | (simp only [R32, R64] at *; omega)) (by first | assumption | omega | (unfold R32 at *; omega) | (unfold R64 at *; omega) | (simp only [R32, R64] at *; omega)) (by first | assumption | omega | (unfold R32 at *; omega) | (unfold R64 at *; omega) | (simp only [R32, R64] at *; omega)) hK
      · show WV _ _ _ 59 _ _ _ _ _
        rw [if_neg h_56] at hK
        refine r_ex 5 (pc' := 72) (lo' := [some (.inr (.inr (some 203))), some (.inl w), some (.inl g), some (.inl a), some (.inl 0), some (.inl t)]) (st' := [.inl g, .inl 0]) rfl ?_
        refine n_ic_gt (pc0 := 72) (len := 3) (t := 78) rfl (by first | assumption | omega | (unfold R32 at *; omega) | (unfold R64 at *; omega) | (simp only [R32, R64] at *; omega)) (by first | assumption | omega | (unfold R32 at *; omega) | (unfold R64 at *; omega) | (simp only [R32, R64] at *; omega)) (fun h_72 => ?_) (fun h_72 => ?_)
        · show WV _ _ _ 78 _ _ _ _ _
          rw [if_pos h_72] at hK
          refine r_ex 10 (pc' := 39) (lo' := [some (.inr (.inr (some 203))), some (.inl w), some (.inl 0), some (.inl ((t - 0) + 1)), some (.inl 0), some (.inl (t + 1))]) (st' := []) rfl ?_
          refine ih v w 0 ((t - 0) + 1) 0 (t + 1)  hX (by first | assumption | omega | (unfold R32 at *; omega) | (unfold R64 at *; omega) | (simp only [R32, R64] at *; omega)) (by first | assumption | omega | (unfold R32 at *; omega) | (unfold R64 at *; omega) | (simp only [R32, R64] at *; omega)) (by first | assumption | omega | (unfold R32 at *; omega) | (unfold R64 at *; omega) | (simp only [R32, R64] at *; omega)) (by first | assumption | omega | (unfold R32 at *; omega) | (unfold R64 at *; omega) | (simp only [R32, R64] at *; omega)) (by first | assumption | omega | (unfold R32 at *; omega) | (unfold R64 at *; omega) | (simp only [R32, R64] at *; omega)) (by first | assumption | omega | (unfold R32 at *; omega) | (unfold R64 at *; omega) | (simp only [R32, R64] at *; omega)) hK
        · show WV _ _ _ 75 _ _ _ _ _
          rw [if_neg h_72] at hK
          refine r_ex 3 (pc' := 39) (lo' := [some (.inr (.inr (some 203))), some (.inl w), some (.inl g), some (.inl a), some (.inl 0), some (.inl (t + 1))]) (st' := []) rfl ?_
          refine ih v w g a 0 (t + 1)  hX (by first | assumption | omega | (unfold R32 at *; omega) | (unfold R64 at *; omega) | (simp only [R32, R64] at *; omega)) (by first | assumption | omega | (unfold R32 at *; omega) | (unfold R64 at *; omega) | (simp only [R32, R64] at *; omega)) (by first | assumption | omega | (unfold R32 at *; omega) | (unfold R64 at *; omega) | (simp only [R32, R64] at *; omega)) (by first | assumption | omega | (unfold R32 at *; omega) | (unfold R64 at *; omega) | (simp only [R32, R64] at *; omega)) (by first | assumption | omega | (unfold R32 at *; omega) | (unfold R64 at *; omega) | (simp only [R32, R64] at *; omega)) (by first | assumption | omega | (unfold R32 at *; omega) | (unfold R64 at *; omega) | (simp only [R32, R64] at *; omega)) hK

theorem w_mo_silence {X : PX} {d b : Nat} {v : VS} {w : Int} (hX : XI v) (hp_a : R32 w) (hp_b : CF v) {Q : Option PV → Nat → VS → Prop} (hQ : XI (mo_silence v w).2 → Q (some (.inl (mo_silence v w).1)) b (mo_silence v w).2) : WV X (d + 1 + 1 + 1 + 1 + 1 + 1) 296 0 [some (.inr (.inr (some 203))), some (.inl w), none, none, none, none] [] b v Q := by
  rw [mo_silence] at hQ
  refine r_ex 2 (pc' := 2) (lo' := [some (.inr (.inr (some 203))), some (.inl w), none, none, none, none]) (st' := [.inl 0, .inr (.inr (some 203))]) rfl ?_
  refine r_puti2 (j := 0) (pc' := 5) (pc0 := 2) (len := 3) rfl (s_203 _) rfl rfl rfl (Or.inl rfl) rfl rfl ?_
  have hX_1 : XI (v2 v 203 0 0) := XI.put hX trivial
  refine r_ex 1 (pc' := 6) (lo' := [some (.inr (.inr (some 203))), some (.inl w), none, none, none, none]) (st' := [.inr (.inr (some 203))]) rfl ?_
  have hb_2 : 0 ≤ (v 209 0) ∧ (v 209 0) ≤ 2001 := hX_1 209 0
  refine r_callb (P := 0 < (v 209 0)) (m := 245) (args := [.inr (.inr (some 203))]) (n' := 296) (pc' := 9) (lo' := [some (.inr (.inr (some 203))), some (.inl w), none, none, none, none]) (st' := []) (I := .invokevirtual 245) (pc0 := 6) (len := 3) rfl rfl rfl (e_mo_isBay hX_1) (fun h_6 => ?_) (fun h_6 => ?_)
  · show WV _ _ _ 9 _ _ _ _ _
    rw [if_pos h_6] at hQ
    refine r_ex 2 (pc' := 13) (lo' := [some (.inr (.inr (some 203))), some (.inl w), none, none, none, none]) (st' := [.inl w]) rfl ?_
    refine n_i2l (pc' := 14) (pc0 := 13) (len := 1) rfl (by first | assumption | omega | (unfold R32 at *; omega) | (unfold R64 at *; omega) | (simp only [R32, R64] at *; omega)) rfl ?_
    refine r_ex 2 (pc' := 16) (lo' := [some (.inr (.inr (some 203))), some (.inl w), none, none, none, none]) (st' := [.inr (.inl 1), .inr (.inl 0), .inr (.inl w)]) rfl ?_
    have hp_3 : R64 w := (by first | assumption | omega | (unfold R32 at *; omega) | (unfold R64 at *; omega) | (simp only [R32, R64] at *; omega))
    have hp_4 : R64 (0 : Int) := (by first | assumption | omega | (unfold R32 at *; omega) | (unfold R64 at *; omega) | (simp only [R32, R64] at *; omega))
    have hp_5 : R64 (1 : Int) := (by first | assumption | omega | (unfold R32 at *; omega) | (unfold R64 at *; omega) | (simp only [R32, R64] at *; omega))
    refine r_callb (P := (0 : Int) ≤ w ∧ w ≤ (1 : Int)) (m := 202) (args := [.inr (.inl w), .inr (.inl 0), .inr (.inl 1)]) (n' := 296) (pc' := 19) (lo' := [some (.inr (.inr (some 203))), some (.inl w), none, none, none, none]) (st' := []) (I := .invokestatic 202) (pc0 := 16) (len := 3) rfl rfl rfl (e_mo_in hX_1 hp_3 hp_4 hp_5) (fun h_16 => ?_) (fun h_16 => ?_)
    · show WV _ _ _ 19 _ _ _ _ _
      rw [if_pos h_16] at hQ
      refine r_ex 2 (pc' := 26) (lo' := [some (.inr (.inr (some 203))), some (.inl w), none, none, none, none]) (st' := [.inr (.inr (some 203))]) rfl ?_
      have hp_6 : CF (v2 v 203 0 0) := show CF (v2 v 203 0 0) from (show CF (v2 v 203 0 0) from CF.of hp_b (fun k h1 h2 => by rw [v2_row (by omega)]))
      refine r_call (m := 246) (args := [.inr (.inr (some 203))]) (n' := 296) (pc' := 29) (lo' := [some (.inr (.inr (some 203))), some (.inl w), none, none, none, none]) (st' := []) (I := .invokevirtual 246) (pc0 := 26) (len := 3) rfl rfl rfl (e_mo_told hX_1 hp_6) ?_
      show WV _ _ _ 29 _ [] _ (mo_told (v2 v 203 0 0)) _
      have hX_7 : XI (mo_told (v2 v 203 0 0)) := i_mo_told (v := (v2 v 203 0 0)) hX_1 hp_6
      refine r_ex 8 (pc' := 39) (lo' := [some (.inr (.inr (some 203))), some (.inl w), some (.inl 0), some (.inl (-1)), some (.inl 0), some (.inl 0)]) (st' := []) rfl ?_
      refine l_mo_silence_39 301 (mo_told (v2 v 203 0 0)) w 0 (-1) 0 0  hX_7 (by first | assumption | omega | (unfold R32 at *; omega) | (unfold R64 at *; omega) | (simp only [R32, R64] at *; omega)) (by first | assumption | omega | (unfold R32 at *; omega) | (unfold R64 at *; omega) | (simp only [R32, R64] at *; omega)) (by first | assumption | omega | (unfold R32 at *; omega) | (unfold R64 at *; omega) | (simp only [R32, R64] at *; omega)) (by first | assumption | omega | (unfold R32 at *; omega) | (unfold R64 at *; omega) | (simp only [R32, R64] at *; omega)) (by first | assumption | omega | (unfold R32 at *; omega) | (unfold R64 at *; omega) | (simp only [R32, R64] at *; omega)) (by first | assumption | omega | (unfold R32 at *; omega) | (unfold R64 at *; omega) | (simp only [R32, R64] at *; omega)) (fun o4_11 o5_11  hv_11_0 hv_11_1 => ?_)
      show WV _ _ _ 95 _ _ _ _ _
      refine r_ex 1 (pc' := 96) (lo' := [some (.inr (.inr (some 203))), some (.inl w), some (.inl ((mo_silence_39 301 (mo_told (v2 v 203 0 0)) w 0 (-1) 0 0).1)), some (.inl ((mo_silence_39 301 (mo_told (v2 v 203 0 0)) w 0 (-1) 0 0).2)), o4_11, o5_11]) (st' := [.inl w]) rfl ?_
      refine n_if_ne (pc0 := 96) (len := 3) (t := 103) rfl (by first | assumption | omega | (unfold R32 at *; omega) | (unfold R64 at *; omega) | (simp only [R32, R64] at *; omega)) (fun h_96 => ?_) (fun h_96 => ?_)
      · show WV _ _ _ 103 _ _ _ _ _
        rw [if_neg h_96] at hQ
        refine r_ex 1 (pc' := 104) (lo' := [some (.inr (.inr (some 203))), some (.inl w), some (.inl ((mo_silence_39 301 (mo_told (v2 v 203 0 0)) w 0 (-1) 0 0).1)), some (.inl ((mo_silence_39 301 (mo_told (v2 v 203 0 0)) w 0 (-1) 0 0).2)), o4_11, o5_11]) (st' := [.inl ((mo_silence_39 301 (mo_told (v2 v 203 0 0)) w 0 (-1) 0 0).2)]) rfl ?_
        refine r_ret (rr := some (.inl ((mo_silence_39 301 (mo_told (v2 v 203 0 0)) w 0 (-1) 0 0).2))) (I := .ireturn) (pc0 := 104) (len := 1) rfl rfl ?_
        exact hQ hX_7 
      · show WV _ _ _ 99 _ _ _ _ _
        rw [if_pos h_96] at hQ
        refine r_ex 2 (pc' := 104) (lo' := [some (.inr (.inr (some 203))), some (.inl w), some (.inl ((mo_silence_39 301 (mo_told (v2 v 203 0 0)) w 0 (-1) 0 0).1)), some (.inl ((mo_silence_39 301 (mo_told (v2 v 203 0 0)) w 0 (-1) 0 0).2)), o4_11, o5_11]) (st' := [.inl ((mo_silence_39 301 (mo_told (v2 v 203 0 0)) w 0 (-1) 0 0).1)]) rfl ?_
        refine r_ret (rr := some (.inl ((mo_silence_39 301 (mo_told (v2 v 203 0 0)) w 0 (-1) 0 0).1))) (I := .ireturn) (pc0 := 104) (len := 1) rfl rfl ?_
        exact hQ hX_7 
    · show WV _ _ _ 19 _ _ _ _ _
      rw [if_neg h_16] at hQ
      refine r_ex 2 (pc' := 24) (lo' := [some (.inr (.inr (some 203))), some (.inl w), none, none, none, none]) (st' := [.inl (-2)]) rfl ?_
      refine r_ret (rr := some (.inl (-2))) (I := .ireturn) (pc0 := 24) (len := 1) rfl rfl ?_
      exact hQ hX_1 
  · show WV _ _ _ 9 _ _ _ _ _
    rw [if_neg h_6] at hQ
    refine r_ex 2 (pc' := 24) (lo' := [some (.inr (.inr (some 203))), some (.inl w), none, none, none, none]) (st' := [.inl (-2)]) rfl ?_
    refine r_ret (rr := some (.inl (-2))) (I := .ireturn) (pc0 := 24) (len := 1) rfl rfl ?_
    exact hQ hX_1 

theorem e_mo_silence {X : PX} {d b : Nat} {v : VS} {w : Int} (hX : XI v) (hp_a : R32 w) (hp_b : CF v) : EvV X (d + 1 + 1 + 1 + 1 + 1 + 1) 296 [.inr (.inr (some 203)), .inl w] b v (some (.inl (mo_silence v w).1)) b ((mo_silence v w).2) := EvV.of (w_mo_silence hX hp_a hp_b (fun _ => ⟨rfl, rfl, rfl⟩))

theorem i_mo_silence {v : VS} {w : Int} (hX : XI v) (hp_a : R32 w) (hp_b : CF v) : XI ((mo_silence v w).2) := by
  have q : WV (0, fun _ => 0, none) (0 + 1 + 1 + 1 + 1 + 1 + 1) 296 0 [some (.inr (.inr (some 203))), some (.inl w), none, none, none, none] [] 1 v (fun _ _ _ => XI ((mo_silence v w).2)) := w_mo_silence (X := (0, fun _ => 0, none)) (d := 0) (b := 1) hX hp_a hp_b (fun q => q)
  obtain ⟨_, _, _, _, _, _, _, q⟩ := q
  exact q

theorem o_mo_silence {rk : Nat} {v : VS} {w : Int} (hk : (rk < 203 ∨ 203 < rk) ∧ (rk < 219 ∨ 231 < rk)) : (mo_silence v w).2 rk = v rk := by
  unfold mo_silence
  by_cases hc_ : 0 < (v 209 0)
  · rw [if_pos hc_] <;> clear hc_
    by_cases hc_ : (0 : Int) ≤ w ∧ w ≤ (1 : Int)
    · rw [if_pos hc_] <;> clear hc_
      by_cases hc_ : w = 0
      · rw [if_pos hc_] <;> clear hc_
        all_goals (show (mo_told (v2 v 203 0 0)) rk = _)
        all_goals (rw [o_mo_told (by omega), v2_row (by omega)])
      · rw [if_neg hc_] <;> clear hc_
        all_goals (show (mo_told (v2 v 203 0 0)) rk = _)
        all_goals (rw [o_mo_told (by omega), v2_row (by omega)])
    · rw [if_neg hc_] <;> clear hc_
      all_goals (show (v2 v 203 0 0) rk = _)
      all_goals (rw [v2_row (by omega)])
  · rw [if_neg hc_] <;> clear hc_
    all_goals (show (v2 v 203 0 0) rk = _)
    all_goals (rw [v2_row (by omega)])

noncomputable def mo_spread_34 : Nat → VS → Int → Int → Int → Int → Int × Int
  | 0, v, h, a, e, s => (0, 0)
  | f + 1, v, h, a, e, s => (if s < (v 203 37) then (if (mo_at v s 2) = h then (if a = (-1) then (mo_spread_34 f v h (mo_at v s 0) (mo_at v s 0) (s + 1)) else (mo_spread_34 f v h a (mo_at v s 0) (s + 1))) else (mo_spread_34 f v h a e (s + 1))) else (a, e))
noncomputable def mo_spread (v : VS) (h : Int) : Int × VS :=
  (if 0 < (v 209 0) then (if 1 ≤ h ∧ h ≤ 99 then (if (mo_spread_34 301 (mo_told (v2 v 203 0 0)) h (-1) (-1) 0).1 = (-1) then ((-1), (mo_told (v2 v 203 0 0))) else (((mo_spread_34 301 (mo_told (v2 v 203 0 0)) h (-1) (-1) 0).2 - (mo_spread_34 301 (mo_told (v2 v 203 0 0)) h (-1) (-1) 0).1), (mo_told (v2 v 203 0 0)))) else ((-2), (v2 v 203 0 0))) else ((-2), (v2 v 203 0 0)))
theorem l_mo_spread_34 {X : PX} {d b : Nat} {Q : Option PV → Nat → VS → Prop}  : ∀ (f : Nat) (v : VS) (h : Int) (a : Int) (e : Int) (s : Int), XI v → (R32 h) → (-1 ≤ a ∧ a ≤ 3699) → (-1 ≤ e ∧ e ≤ 3699) → (0 ≤ s ∧ s ≤ 300) → (300 < s + f) → (∀ qx4 : Option PV, (-1 ≤ (mo_spread_34 f v h a e s).1 ∧ (mo_spread_34 f v h a e s).1 ≤ 3699) → (-1 ≤ (mo_spread_34 f v h a e s).2 ∧ (mo_spread_34 f v h a e s).2 ≤ 3699) → WV X (d + 1 + 1 + 1 + 1 + 1 + 1) 298 88 [some (.inr (.inr (some 203))), some (.inl h), some (.inl ((mo_spread_34 f v h a e s).1)), some (.inl ((mo_spread_34 f v h a e s).2)), qx4] [] b v Q) → WV X (d + 1 + 1 + 1 + 1 + 1 + 1) 298 34 [some (.inr (.inr (some 203))), some (.inl h), some (.inl a), some (.inl e), some (.inl s)] [] b v Q := by
  intro f
  induction f with
  | zero =>
    intro v h a e s hX hi_0 hi_1 hi_2 hi_3 hf hK
    exfalso
    omega
  | succ f ih =>
    intro v h a e s hX hi_0 hi_1 hi_2 hi_3 hf hK
    rw [mo_spread_34] at hK
    refine r_ex 3 (pc' := 40) (lo' := [some (.inr (.inr (some 203))), some (.inl h), some (.inl a), some (.inl e), some (.inl s)]) (st' := [.inl (v 203 37), .inl s]) rfl ?_
    have hb_6 : 0 ≤ (v 203 37) ∧ (v 203 37) ≤ 300 := hX 203 37
    refine n_ic_ge (pc0 := 40) (len := 3) (t := 88) rfl (by first | assumption | omega | (unfold R32 at *; omega) | (unfold R64 at *; omega) | (simp only [R32, R64] at *; omega)) (by first | assumption | omega | (unfold R32 at *; omega) | (unfold R64 at *; omega) | (simp only [R32, R64] at *; omega)) (fun h_40 => ?_) (fun h_40 => ?_)
    · show WV _ _ _ 88 _ _ _ _ _
      rw [if_neg h_40] at hK
      exact hK _  (by first | assumption | omega | (unfold R32 at *; omega) | (unfold R64 at *; omega) | (simp only [R32, R64] at *; omega)) (by first | assumption | omega | (unfold R32 at *; omega) | (unfold R64 at *; omega) | (simp only [R32, R64] at *; omega))
    · show WV _ _ _ 43 _ _ _ _ _
      rw [if_pos h_40] at hK
      refine r_ex 3 (pc' := 47) (lo' := [some (.inr (.inr (some 203))), some (.inl h), some (.inl a), some (.inl e), some (.inl s)]) (st' := [.inl 2, .inl s, .inr (.inr (some 203))]) rfl ?_
      have hp_7 : 0 ≤ s ∧ s < 300 := (by first | assumption | omega | (unfold R32 at *; omega) | (unfold R64 at *; omega) | (simp only [R32, R64] at *; omega))
      have hp_8 : 0 ≤ (2 : Int) ∧ (2 : Int) < 5 := (by first | assumption | omega | (unfold R32 at *; omega) | (unfold R64 at *; omega) | (simp only [R32, R64] at *; omega))
      refine r_call (m := 254) (args := [.inr (.inr (some 203)), .inl s, .inl 2]) (n' := 298) (pc' := 50) (lo' := [some (.inr (.inr (some 203))), some (.inl h), some (.inl a), some (.inl e), some (.inl s)]) (st' := []) (I := .invokevirtual 254) (pc0 := 47) (len := 3) rfl rfl rfl (e_mo_at hX hp_7 hp_8) ?_
      show WV _ _ _ 50 _ [.inl (mo_at v s 2)] _ _ _
      have hb_9 := n_mo_at (v := v) (i := s) (w := 2) hX hp_7 hp_8
      refine r_ex 1 (pc' := 51) (lo' := [some (.inr (.inr (some 203))), some (.inl h), some (.inl a), some (.inl e), some (.inl s)]) (st' := [.inl h, .inl (mo_at v s 2)]) rfl ?_
      refine n_ic_eq (pc0 := 51) (len := 3) (t := 57) rfl (by first | assumption | omega | (unfold R32 at *; omega) | (unfold R64 at *; omega) | (simp only [R32, R64] at *; omega)) (by first | assumption | omega | (unfold R32 at *; omega) | (unfold R64 at *; omega) | (simp only [R32, R64] at *; omega)) (fun h_51 => ?_) (fun h_51 => ?_)
      · show WV _ _ _ 57 _ _ _ _ _
        rw [if_pos h_51] at hK
        refine r_ex 2 (pc' := 59) (lo' := [some (.inr (.inr (some 203))), some (.inl h), some (.inl a), some (.inl e), some (.inl s)]) (st' := [.inl (-1), .inl a]) rfl ?_
        refine n_ic_ne (pc0 := 59) (len := 3) (t := 72) rfl (by first | assumption | omega | (unfold R32 at *; omega) | (unfold R64 at *; omega) | (simp only [R32, R64] at *; omega)) (by first | assumption | omega | (unfold R32 at *; omega) | (unfold R64 at *; omega) | (simp only [R32, R64] at *; omega)) (fun h_59 => ?_) (fun h_59 => ?_)
        · show WV _ _ _ 72 _ _ _ _ _
          rw [if_neg h_59] at hK
          refine r_ex 5 (pc' := 78) (lo' := [some (.inr (.inr (some 203))), some (.inl h), some (.inl a), some (.inl e), some (.inl s)]) (st' := [.inl 0, .inl s, .inr (.inr (some 203))]) rfl ?_
          have hp_10 : 0 ≤ s ∧ s < 300 := (by first | assumption | omega | (unfold R32 at *; omega) | (unfold R64 at *; omega) | (simp only [R32, R64] at *; omega))
          have hp_11 : 0 ≤ (0 : Int) ∧ (0 : Int) < 5 := (by first | assumption | omega | (unfold R32 at *; omega) | (unfold R64 at *; omega) | (simp only [R32, R64] at *; omega))
          refine r_call (m := 254) (args := [.inr (.inr (some 203)), .inl s, .inl 0]) (n' := 298) (pc' := 81) (lo' := [some (.inr (.inr (some 203))), some (.inl h), some (.inl a), some (.inl e), some (.inl s)]) (st' := []) (I := .invokevirtual 254) (pc0 := 78) (len := 3) rfl rfl rfl (e_mo_at hX hp_10 hp_11) ?_
          show WV _ _ _ 81 _ [.inl (mo_at v s 0)] _ _ _
          have hb_12 := n_mo_at (v := v) (i := s) (w := 0) hX hp_10 hp_11
          refine r_ex 3 (pc' := 34) (lo' := [some (.inr (.inr (some 203))), some (.inl h), some (.inl a), some (.inl (mo_at v s 0)), some (.inl (s + 1))]) (st' := []) rfl ?_
          refine ih v h a (mo_at v s 0) (s + 1)  hX (by first | assumption | omega | (unfold R32 at *; omega) | (unfold R64 at *; omega) | (simp only [R32, R64] at *; omega)) (by first | assumption | omega | (unfold R32 at *; omega) | (unfold R64 at *; omega) | (simp only [R32, R64] at *; omega)) (by first | assumption | omega | (unfold R32 at *; omega) | (unfold R64 at *; omega) | (simp only [R32, R64] at *; omega)) (by first | assumption | omega | (unfold R32 at *; omega) | (unfold R64 at *; omega) | (simp only [R32, R64] at *; omega)) (by first | assumption | omega | (unfold R32 at *; omega) | (unfold R64 at *; omega) | (simp only [R32, R64] at *; omega)) hK
        · show WV _ _ _ 62 _ _ _ _ _
          rw [if_pos h_59] at hK
          refine r_ex 3 (pc' := 66) (lo' := [some (.inr (.inr (some 203))), some (.inl h), some (.inl a), some (.inl e), some (.inl s)]) (st' := [.inl 0, .inl s, .inr (.inr (some 203))]) rfl ?_
          have hp_13 : 0 ≤ s ∧ s < 300 := (by first | assumption | omega | (unfold R32 at *; omega) | (unfold R64 at *; omega) | (simp only [R32, R64] at *; omega))
          have hp_14 : 0 ≤ (0 : Int) ∧ (0 : Int) < 5 := (by first | assumption | omega | (unfold R32 at *; omega) | (unfold R64 at *; omega) | (simp only [R32, R64] at *; omega))
          refine r_call (m := 254) (args := [.inr (.inr (some 203)), .inl s, .inl 0]) (n' := 298) (pc' := 69) (lo' := [some (.inr (.inr (some 203))), some (.inl h), some (.inl a), some (.inl e), some (.inl s)]) (st' := []) (I := .invokevirtual 254) (pc0 := 66) (len := 3) rfl rfl rfl (e_mo_at hX hp_13 hp_14) ?_
          show WV _ _ _ 69 _ [.inl (mo_at v s 0)] _ _ _
          have hb_15 := n_mo_at (v := v) (i := s) (w := 0) hX hp_13 hp_14
          refine r_ex 5 (pc' := 78) (lo' := [some (.inr (.inr (some 203))), some (.inl h), some (.inl (mo_at v s 0)), some (.inl e), some (.inl s)]) (st' := [.inl 0, .inl s, .inr (.inr (some 203))]) rfl ?_
          have hp_16 : 0 ≤ s ∧ s < 300 := (by first | assumption | omega | (unfold R32 at *; omega) | (unfold R64 at *; omega) | (simp only [R32, R64] at *; omega))
          have hp_17 : 0 ≤ (0 : Int) ∧ (0 : Int) < 5 := (by first | assumption | omega | (unfold R32 at *; omega) | (unfold R64 at *; omega) | (simp only [R32, R64] at *; omega))
          refine r_call (m := 254) (args := [.inr (.inr (some 203)), .inl s, .inl 0]) (n' := 298) (pc' := 81) (lo' := [some (.inr (.inr (some 203))), some (.inl h), some (.inl (mo_at v s 0)), some (.inl e), some (.inl s)]) (st' := []) (I := .invokevirtual 254) (pc0 := 78) (len := 3) rfl rfl rfl (e_mo_at hX hp_16 hp_17) ?_
          show WV _ _ _ 81 _ [.inl (mo_at v s 0)] _ _ _
          have hb_18 := n_mo_at (v := v) (i := s) (w := 0) hX hp_16 hp_17
          refine r_ex 3 (pc' := 34) (lo' := [some (.inr (.inr (some 203))), some (.inl h), some (.inl (mo_at v s 0)), some (.inl (mo_at v s 0)), some (.inl (s + 1))]) (st' := []) rfl ?_
          refine ih v h (mo_at v s 0) (mo_at v s 0) (s + 1)  hX (by first | assumption | omega | (unfold R32 at *; omega) | (unfold R64 at *; omega) | (simp only [R32, R64] at *; omega)) (by first | assumption | omega | (unfold R32 at *; omega) | (unfold R64 at *; omega) | (simp only [R32, R64] at *; omega)) (by first | assumption | omega | (unfold R32 at *; omega) | (unfold R64 at *; omega) | (simp only [R32, R64] at *; omega)) (by first | assumption | omega | (unfold R32 at *; omega) | (unfold R64 at *; omega) | (simp only [R32, R64] at *; omega)) (by first | assumption | omega | (unfold R32 at *; omega) | (unfold R64 at *; omega) | (simp only [R32, R64] at *; omega)) hK
      · show WV _ _ _ 54 _ _ _ _ _
        rw [if_neg h_51] at hK
        refine r_ex 3 (pc' := 34) (lo' := [some (.inr (.inr (some 203))), some (.inl h), some (.inl a), some (.inl e), some (.inl (s + 1))]) (st' := []) rfl ?_
        refine ih v h a e (s + 1)  hX (by first | assumption | omega | (unfold R32 at *; omega) | (unfold R64 at *; omega) | (simp only [R32, R64] at *; omega)) (by first | assumption | omega | (unfold R32 at *; omega) | (unfold R64 at *; omega) | (simp only [R32, R64] at *; omega)) (by first | assumption | omega | (unfold R32 at *; omega) | (unfold R64 at *; omega) | (simp only [R32, R64] at *; omega)) (by first | assumption | omega | (unfold R32 at *; omega) | (unfold R64 at *; omega) | (simp only [R32, R64] at *; omega)) (by first | assumption | omega | (unfold R32 at *; omega) | (unfold R64 at *; omega) | (simp only [R32, R64] at *; omega)) hK

theorem w_mo_spread {X : PX} {d b : Nat} {v : VS} {h : Int} (hX : XI v) (hp_a : R32 h) (hp_b : CF v) {Q : Option PV → Nat → VS → Prop} (hQ : XI (mo_spread v h).2 → Q (some (.inl (mo_spread v h).1)) b (mo_spread v h).2) : WV X (d + 1 + 1 + 1 + 1 + 1 + 1) 298 0 [some (.inr (.inr (some 203))), some (.inl h), none, none, none] [] b v Q := by
  rw [mo_spread] at hQ
  refine r_ex 2 (pc' := 2) (lo' := [some (.inr (.inr (some 203))), some (.inl h), none, none, none]) (st' := [.inl 0, .inr (.inr (some 203))]) rfl ?_
  refine r_puti2 (j := 0) (pc' := 5) (pc0 := 2) (len := 3) rfl (s_203 _) rfl rfl rfl (Or.inl rfl) rfl rfl ?_
  have hX_1 : XI (v2 v 203 0 0) := XI.put hX trivial
  refine r_ex 1 (pc' := 6) (lo' := [some (.inr (.inr (some 203))), some (.inl h), none, none, none]) (st' := [.inr (.inr (some 203))]) rfl ?_
  have hb_2 : 0 ≤ (v 209 0) ∧ (v 209 0) ≤ 2001 := hX_1 209 0
  refine r_callb (P := 0 < (v 209 0)) (m := 245) (args := [.inr (.inr (some 203))]) (n' := 298) (pc' := 9) (lo' := [some (.inr (.inr (some 203))), some (.inl h), none, none, none]) (st' := []) (I := .invokevirtual 245) (pc0 := 6) (len := 3) rfl rfl rfl (e_mo_isBay hX_1) (fun h_6 => ?_) (fun h_6 => ?_)
  · show WV _ _ _ 9 _ _ _ _ _
    rw [if_pos h_6] at hQ
    refine r_ex 2 (pc' := 13) (lo' := [some (.inr (.inr (some 203))), some (.inl h), none, none, none]) (st' := [.inl h]) rfl ?_
    refine n_i2l (pc' := 14) (pc0 := 13) (len := 1) rfl (by first | assumption | omega | (unfold R32 at *; omega) | (unfold R64 at *; omega) | (simp only [R32, R64] at *; omega)) rfl ?_
    have hp_3 : R64 h := (by first | assumption | omega | (unfold R32 at *; omega) | (unfold R64 at *; omega) | (simp only [R32, R64] at *; omega))
    refine r_callb (P := 1 ≤ h ∧ h ≤ 99) (m := 264) (args := [.inr (.inl h)]) (n' := 298) (pc' := 17) (lo' := [some (.inr (.inr (some 203))), some (.inl h), none, none, none]) (st' := []) (I := .invokestatic 264) (pc0 := 14) (len := 3) rfl rfl rfl (e_mo_isHour hX_1 hp_3) (fun h_14 => ?_) (fun h_14 => ?_)
    · show WV _ _ _ 17 _ _ _ _ _
      rw [if_pos h_14] at hQ
      refine r_ex 2 (pc' := 24) (lo' := [some (.inr (.inr (some 203))), some (.inl h), none, none, none]) (st' := [.inr (.inr (some 203))]) rfl ?_
      have hp_4 : CF (v2 v 203 0 0) := show CF (v2 v 203 0 0) from (show CF (v2 v 203 0 0) from CF.of hp_b (fun k h1 h2 => by rw [v2_row (by omega)]))
      refine r_call (m := 246) (args := [.inr (.inr (some 203))]) (n' := 298) (pc' := 27) (lo' := [some (.inr (.inr (some 203))), some (.inl h), none, none, none]) (st' := []) (I := .invokevirtual 246) (pc0 := 24) (len := 3) rfl rfl rfl (e_mo_told hX_1 hp_4) ?_
      show WV _ _ _ 27 _ [] _ (mo_told (v2 v 203 0 0)) _
      have hX_5 : XI (mo_told (v2 v 203 0 0)) := i_mo_told (v := (v2 v 203 0 0)) hX_1 hp_4
      refine r_ex 6 (pc' := 34) (lo' := [some (.inr (.inr (some 203))), some (.inl h), some (.inl (-1)), some (.inl (-1)), some (.inl 0)]) (st' := []) rfl ?_
      refine l_mo_spread_34 301 (mo_told (v2 v 203 0 0)) h (-1) (-1) 0  hX_5 (by first | assumption | omega | (unfold R32 at *; omega) | (unfold R64 at *; omega) | (simp only [R32, R64] at *; omega)) (by first | assumption | omega | (unfold R32 at *; omega) | (unfold R64 at *; omega) | (simp only [R32, R64] at *; omega)) (by first | assumption | omega | (unfold R32 at *; omega) | (unfold R64 at *; omega) | (simp only [R32, R64] at *; omega)) (by first | assumption | omega | (unfold R32 at *; omega) | (unfold R64 at *; omega) | (simp only [R32, R64] at *; omega)) (by first | assumption | omega | (unfold R32 at *; omega) | (unfold R64 at *; omega) | (simp only [R32, R64] at *; omega)) (fun o4_19  hv_19_0 hv_19_1 => ?_)
      show WV _ _ _ 88 _ _ _ _ _
      refine r_ex 2 (pc' := 90) (lo' := [some (.inr (.inr (some 203))), some (.inl h), some (.inl ((mo_spread_34 301 (mo_told (v2 v 203 0 0)) h (-1) (-1) 0).1)), some (.inl ((mo_spread_34 301 (mo_told (v2 v 203 0 0)) h (-1) (-1) 0).2)), o4_19]) (st' := [.inl (-1), .inl ((mo_spread_34 301 (mo_told (v2 v 203 0 0)) h (-1) (-1) 0).1)]) rfl ?_
      refine n_ic_ne (pc0 := 90) (len := 3) (t := 97) rfl (by first | assumption | omega | (unfold R32 at *; omega) | (unfold R64 at *; omega) | (simp only [R32, R64] at *; omega)) (by first | assumption | omega | (unfold R32 at *; omega) | (unfold R64 at *; omega) | (simp only [R32, R64] at *; omega)) (fun h_90 => ?_) (fun h_90 => ?_)
      · show WV _ _ _ 97 _ _ _ _ _
        rw [if_neg h_90] at hQ
        refine r_ex 3 (pc' := 100) (lo' := [some (.inr (.inr (some 203))), some (.inl h), some (.inl ((mo_spread_34 301 (mo_told (v2 v 203 0 0)) h (-1) (-1) 0).1)), some (.inl ((mo_spread_34 301 (mo_told (v2 v 203 0 0)) h (-1) (-1) 0).2)), o4_19]) (st' := [.inl ((mo_spread_34 301 (mo_told (v2 v 203 0 0)) h (-1) (-1) 0).2 - (mo_spread_34 301 (mo_told (v2 v 203 0 0)) h (-1) (-1) 0).1)]) rfl ?_
        refine r_ret (rr := some (.inl ((mo_spread_34 301 (mo_told (v2 v 203 0 0)) h (-1) (-1) 0).2 - (mo_spread_34 301 (mo_told (v2 v 203 0 0)) h (-1) (-1) 0).1))) (I := .ireturn) (pc0 := 100) (len := 1) rfl rfl ?_
        exact hQ hX_5 
      · show WV _ _ _ 93 _ _ _ _ _
        rw [if_pos h_90] at hQ
        refine r_ex 2 (pc' := 100) (lo' := [some (.inr (.inr (some 203))), some (.inl h), some (.inl ((mo_spread_34 301 (mo_told (v2 v 203 0 0)) h (-1) (-1) 0).1)), some (.inl ((mo_spread_34 301 (mo_told (v2 v 203 0 0)) h (-1) (-1) 0).2)), o4_19]) (st' := [.inl (-1)]) rfl ?_
        refine r_ret (rr := some (.inl (-1))) (I := .ireturn) (pc0 := 100) (len := 1) rfl rfl ?_
        exact hQ hX_5 
    · show WV _ _ _ 17 _ _ _ _ _
      rw [if_neg h_14] at hQ
      refine r_ex 2 (pc' := 22) (lo' := [some (.inr (.inr (some 203))), some (.inl h), none, none, none]) (st' := [.inl (-2)]) rfl ?_
      refine r_ret (rr := some (.inl (-2))) (I := .ireturn) (pc0 := 22) (len := 1) rfl rfl ?_
      exact hQ hX_1 
  · show WV _ _ _ 9 _ _ _ _ _
    rw [if_neg h_6] at hQ
    refine r_ex 2 (pc' := 22) (lo' := [some (.inr (.inr (some 203))), some (.inl h), none, none, none]) (st' := [.inl (-2)]) rfl ?_
    refine r_ret (rr := some (.inl (-2))) (I := .ireturn) (pc0 := 22) (len := 1) rfl rfl ?_
    exact hQ hX_1 

theorem e_mo_spread {X : PX} {d b : Nat} {v : VS} {h : Int} (hX : XI v) (hp_a : R32 h) (hp_b : CF v) : EvV X (d + 1 + 1 + 1 + 1 + 1 + 1) 298 [.inr (.inr (some 203)), .inl h] b v (some (.inl (mo_spread v h).1)) b ((mo_spread v h).2) := EvV.of (w_mo_spread hX hp_a hp_b (fun _ => ⟨rfl, rfl, rfl⟩))

theorem i_mo_spread {v : VS} {h : Int} (hX : XI v) (hp_a : R32 h) (hp_b : CF v) : XI ((mo_spread v h).2) := by
  have q : WV (0, fun _ => 0, none) (0 + 1 + 1 + 1 + 1 + 1 + 1) 298 0 [some (.inr (.inr (some 203))), some (.inl h), none, none, none] [] 1 v (fun _ _ _ => XI ((mo_spread v h).2)) := w_mo_spread (X := (0, fun _ => 0, none)) (d := 0) (b := 1) hX hp_a hp_b (fun q => q)
  obtain ⟨_, _, _, _, _, _, _, q⟩ := q
  exact q

theorem o_mo_spread {rk : Nat} {v : VS} {h : Int} (hk : (rk < 203 ∨ 203 < rk) ∧ (rk < 219 ∨ 231 < rk)) : (mo_spread v h).2 rk = v rk := by
  unfold mo_spread
  by_cases hc_ : 0 < (v 209 0)
  · rw [if_pos hc_] <;> clear hc_
    by_cases hc_ : 1 ≤ h ∧ h ≤ 99
    · rw [if_pos hc_] <;> clear hc_
      by_cases hc_ : (mo_spread_34 301 (mo_told (v2 v 203 0 0)) h (-1) (-1) 0).1 = (-1)
      · rw [if_pos hc_] <;> clear hc_
        all_goals (show (mo_told (v2 v 203 0 0)) rk = _)
        all_goals (rw [o_mo_told (by omega), v2_row (by omega)])
      · rw [if_neg hc_] <;> clear hc_
        all_goals (show (mo_told (v2 v 203 0 0)) rk = _)
        all_goals (rw [o_mo_told (by omega), v2_row (by omega)])
    · rw [if_neg hc_] <;> clear hc_
      all_goals (show (v2 v 203 0 0) rk = _)
      all_goals (rw [v2_row (by omega)])
  · rw [if_neg hc_] <;> clear hc_
    all_goals (show (v2 v 203 0 0) rk = _)
    all_goals (rw [v2_row (by omega)])

noncomputable def mo_without (v : VS) (w : Int) : Int × VS :=
  (if 0 < (v 209 0) then (if (0 : Int) ≤ w ∧ w ≤ (6 : Int) then ((((mo_run (v2 (mo_plainly ((mo_strikesBy (v2 v 203 0 0) 0 0).2)) 203 34 w)) 203 37) - (mo_strikesBy (v2 v 203 0 0) 0 0).1), (v2 (mo_run (v2 (mo_plainly ((mo_strikesBy (v2 v 203 0 0) 0 0).2)) 203 34 w)) 203 34 (-1))) else ((-2000000), (v2 v 203 0 0))) else ((-2000000), (v2 v 203 0 0)))
theorem w_mo_without {X : PX} {d b : Nat} {v : VS} {w : Int} (hX : XI v) (hp_a : R32 w) (hp_b : CF v) {Q : Option PV → Nat → VS → Prop} (hQ : XI (mo_without v w).2 → Q (some (.inl (mo_without v w).1)) b (mo_without v w).2) : WV X (d + 1 + 1 + 1 + 1 + 1 + 1) 299 0 [some (.inr (.inr (some 203))), some (.inl w), none] [] b v Q := by
  rw [mo_without] at hQ
  refine r_ex 2 (pc' := 2) (lo' := [some (.inr (.inr (some 203))), some (.inl w), none]) (st' := [.inl 0, .inr (.inr (some 203))]) rfl ?_
  refine r_puti2 (j := 0) (pc' := 5) (pc0 := 2) (len := 3) rfl (s_203 _) rfl rfl rfl (Or.inl rfl) rfl rfl ?_
  have hX_1 : XI (v2 v 203 0 0) := XI.put hX trivial
  refine r_ex 1 (pc' := 6) (lo' := [some (.inr (.inr (some 203))), some (.inl w), none]) (st' := [.inr (.inr (some 203))]) rfl ?_
  have hb_2 : 0 ≤ (v 209 0) ∧ (v 209 0) ≤ 2001 := hX_1 209 0
  refine r_callb (P := 0 < (v 209 0)) (m := 245) (args := [.inr (.inr (some 203))]) (n' := 299) (pc' := 9) (lo' := [some (.inr (.inr (some 203))), some (.inl w), none]) (st' := []) (I := .invokevirtual 245) (pc0 := 6) (len := 3) rfl rfl rfl (e_mo_isBay hX_1) (fun h_6 => ?_) (fun h_6 => ?_)
  · show WV _ _ _ 9 _ _ _ _ _
    rw [if_pos h_6] at hQ
    refine r_ex 2 (pc' := 13) (lo' := [some (.inr (.inr (some 203))), some (.inl w), none]) (st' := [.inl w]) rfl ?_
    refine n_i2l (pc' := 14) (pc0 := 13) (len := 1) rfl (by first | assumption | omega | (unfold R32 at *; omega) | (unfold R64 at *; omega) | (simp only [R32, R64] at *; omega)) rfl ?_
    refine r_ex 2 (pc' := 18) (lo' := [some (.inr (.inr (some 203))), some (.inl w), none]) (st' := [.inr (.inl 6), .inr (.inl 0), .inr (.inl w)]) rfl ?_
    have hp_3 : R64 w := (by first | assumption | omega | (unfold R32 at *; omega) | (unfold R64 at *; omega) | (simp only [R32, R64] at *; omega))
    have hp_4 : R64 (0 : Int) := (by first | assumption | omega | (unfold R32 at *; omega) | (unfold R64 at *; omega) | (simp only [R32, R64] at *; omega))
    have hp_5 : R64 (6 : Int) := (by first | assumption | omega | (unfold R32 at *; omega) | (unfold R64 at *; omega) | (simp only [R32, R64] at *; omega))
    refine r_callb (P := (0 : Int) ≤ w ∧ w ≤ (6 : Int)) (m := 202) (args := [.inr (.inl w), .inr (.inl 0), .inr (.inl 6)]) (n' := 299) (pc' := 21) (lo' := [some (.inr (.inr (some 203))), some (.inl w), none]) (st' := []) (I := .invokestatic 202) (pc0 := 18) (len := 3) rfl rfl rfl (e_mo_in hX_1 hp_3 hp_4 hp_5) (fun h_18 => ?_) (fun h_18 => ?_)
    · show WV _ _ _ 21 _ _ _ _ _
      rw [if_pos h_18] at hQ
      refine r_ex 4 (pc' := 31) (lo' := [some (.inr (.inr (some 203))), some (.inl w), none]) (st' := [.inl 0, .inl 0, .inr (.inr (some 203))]) rfl ?_
      have hp_6 : 0 ≤ (0 : Int) ∧ (0 : Int) ≤ 511 := (by first | assumption | omega | (unfold R32 at *; omega) | (unfold R64 at *; omega) | (simp only [R32, R64] at *; omega))
      have hp_7 : 0 ≤ (0 : Int) ∧ (0 : Int) ≤ 4095 := (by first | assumption | omega | (unfold R32 at *; omega) | (unfold R64 at *; omega) | (simp only [R32, R64] at *; omega))
      have hp_8 : CF (v2 v 203 0 0) := show CF (v2 v 203 0 0) from (show CF (v2 v 203 0 0) from CF.of hp_b (fun k h1 h2 => by rw [v2_row (by omega)]))
      refine r_call (m := 272) (args := [.inr (.inr (some 203)), .inl 0, .inl 0]) (n' := 299) (pc' := 34) (lo' := [some (.inr (.inr (some 203))), some (.inl w), none]) (st' := []) (I := .invokevirtual 272) (pc0 := 31) (len := 3) rfl rfl rfl (e_mo_strikesBy hX_1 hp_6 hp_7 hp_8) ?_
      show WV _ _ _ 34 _ [.inl ((mo_strikesBy (v2 v 203 0 0) 0 0).1)] _ (mo_strikesBy (v2 v 203 0 0) 0 0).2 _
      have hX_9 : XI (mo_strikesBy (v2 v 203 0 0) 0 0).2 := i_mo_strikesBy (v := (v2 v 203 0 0)) (m := 0) (k := 0) hX_1 hp_6 hp_7 hp_8
      have hb_10 := n_mo_strikesBy (v := (v2 v 203 0 0)) (m := 0) (k := 0) hX_1 hp_6 hp_7 hp_8
      refine r_ex 2 (pc' := 36) (lo' := [some (.inr (.inr (some 203))), some (.inl w), some (.inl ((mo_strikesBy (v2 v 203 0 0) 0 0).1))]) (st' := [.inr (.inr (some 203))]) rfl ?_
      refine r_call (m := 241) (args := [.inr (.inr (some 203))]) (n' := 299) (pc' := 39) (lo' := [some (.inr (.inr (some 203))), some (.inl w), some (.inl ((mo_strikesBy (v2 v 203 0 0) 0 0).1))]) (st' := []) (I := .invokevirtual 241) (pc0 := 36) (len := 3) rfl rfl rfl (e_mo_plainly hX_9) ?_
      show WV _ _ _ 39 _ [] _ (mo_plainly ((mo_strikesBy (v2 v 203 0 0) 0 0).2)) _
      have hX_11 : XI (mo_plainly ((mo_strikesBy (v2 v 203 0 0) 0 0).2)) := i_mo_plainly (v := (mo_strikesBy (v2 v 203 0 0) 0 0).2) hX_9
      refine r_ex 2 (pc' := 41) (lo' := [some (.inr (.inr (some 203))), some (.inl w), some (.inl ((mo_strikesBy (v2 v 203 0 0) 0 0).1))]) (st' := [.inl w, .inr (.inr (some 203))]) rfl ?_
      refine r_puti2 (j := 34) (pc' := 44) (pc0 := 41) (len := 3) rfl (s_203 _) rfl rfl rfl (Or.inl rfl) rfl rfl ?_
      have hX_12 : XI (v2 (mo_plainly ((mo_strikesBy (v2 v 203 0 0) 0 0).2)) 203 34 w) := XI.put hX_11 (show -1 ≤ w ∧ w ≤ 6 from (by first | assumption | omega | (unfold R32 at *; omega) | (unfold R64 at *; omega) | (simp only [R32, R64] at *; omega)))
      refine r_ex 1 (pc' := 45) (lo' := [some (.inr (.inr (some 203))), some (.inl w), some (.inl ((mo_strikesBy (v2 v 203 0 0) 0 0).1))]) (st' := [.inr (.inr (some 203))]) rfl ?_
      have hp_13 : CF (v2 (mo_plainly ((mo_strikesBy (v2 v 203 0 0) 0 0).2)) 203 34 w) := show CF (v2 (mo_plainly ((mo_strikesBy (v2 v 203 0 0) 0 0).2)) 203 34 w) from (show CF (v2 (mo_plainly ((mo_strikesBy (v2 v 203 0 0) 0 0).2)) 203 34 w) from CF.of hp_b (fun k h1 h2 => by rw [v2_row (by omega), o_mo_plainly (by omega), o_mo_strikesBy (by omega), v2_row (by omega)]))
      refine r_call (m := 247) (args := [.inr (.inr (some 203))]) (n' := 299) (pc' := 48) (lo' := [some (.inr (.inr (some 203))), some (.inl w), some (.inl ((mo_strikesBy (v2 v 203 0 0) 0 0).1))]) (st' := []) (I := .invokevirtual 247) (pc0 := 45) (len := 3) rfl rfl rfl (e_mo_run hX_12 hp_13) ?_
      show WV _ _ _ 48 _ [] _ (mo_run (v2 (mo_plainly ((mo_strikesBy (v2 v 203 0 0) 0 0).2)) 203 34 w)) _
      have hX_14 : XI (mo_run (v2 (mo_plainly ((mo_strikesBy (v2 v 203 0 0) 0 0).2)) 203 34 w)) := i_mo_run (v := (v2 (mo_plainly ((mo_strikesBy (v2 v 203 0 0) 0 0).2)) 203 34 w)) hX_12 hp_13
      refine r_ex 2 (pc' := 50) (lo' := [some (.inr (.inr (some 203))), some (.inl w), some (.inl ((mo_strikesBy (v2 v 203 0 0) 0 0).1))]) (st' := [.inl (-1), .inr (.inr (some 203))]) rfl ?_
      refine r_puti2 (j := 34) (pc' := 53) (pc0 := 50) (len := 3) rfl (s_203 _) rfl rfl rfl (Or.inl rfl) rfl rfl ?_
      have hX_15 : XI (v2 (mo_run (v2 (mo_plainly ((mo_strikesBy (v2 v 203 0 0) 0 0).2)) 203 34 w)) 203 34 (-1)) := XI.put hX_14 (show -1 ≤ (-1) ∧ (-1) ≤ 6 from (by first | assumption | omega | (unfold R32 at *; omega) | (unfold R64 at *; omega) | (simp only [R32, R64] at *; omega)))
      refine r_ex 4 (pc' := 59) (lo' := [some (.inr (.inr (some 203))), some (.inl w), some (.inl ((mo_strikesBy (v2 v 203 0 0) 0 0).1))]) (st' := [.inl (((mo_run (v2 (mo_plainly ((mo_strikesBy (v2 v 203 0 0) 0 0).2)) 203 34 w)) 203 37) - (mo_strikesBy (v2 v 203 0 0) 0 0).1)]) rfl ?_
      have hb_16 : 0 ≤ ((mo_run (v2 (mo_plainly ((mo_strikesBy (v2 v 203 0 0) 0 0).2)) 203 34 w)) 203 37) ∧ ((mo_run (v2 (mo_plainly ((mo_strikesBy (v2 v 203 0 0) 0 0).2)) 203 34 w)) 203 37) ≤ 300 := hX_15 203 37
      refine r_ret (rr := some (.inl (((mo_run (v2 (mo_plainly ((mo_strikesBy (v2 v 203 0 0) 0 0).2)) 203 34 w)) 203 37) - (mo_strikesBy (v2 v 203 0 0) 0 0).1))) (I := .ireturn) (pc0 := 59) (len := 1) rfl rfl ?_
      exact hQ hX_15 
    · show WV _ _ _ 21 _ _ _ _ _
      rw [if_neg h_18] at hQ
      refine r_ex 2 (pc' := 27) (lo' := [some (.inr (.inr (some 203))), some (.inl w), none]) (st' := [.inl (-2000000)]) rfl ?_
      refine r_ret (rr := some (.inl (-2000000))) (I := .ireturn) (pc0 := 27) (len := 1) rfl rfl ?_
      exact hQ hX_1 
  · show WV _ _ _ 9 _ _ _ _ _
    rw [if_neg h_6] at hQ
    refine r_ex 2 (pc' := 27) (lo' := [some (.inr (.inr (some 203))), some (.inl w), none]) (st' := [.inl (-2000000)]) rfl ?_
    refine r_ret (rr := some (.inl (-2000000))) (I := .ireturn) (pc0 := 27) (len := 1) rfl rfl ?_
    exact hQ hX_1 

theorem e_mo_without {X : PX} {d b : Nat} {v : VS} {w : Int} (hX : XI v) (hp_a : R32 w) (hp_b : CF v) : EvV X (d + 1 + 1 + 1 + 1 + 1 + 1) 299 [.inr (.inr (some 203)), .inl w] b v (some (.inl (mo_without v w).1)) b ((mo_without v w).2) := EvV.of (w_mo_without hX hp_a hp_b (fun _ => ⟨rfl, rfl, rfl⟩))

theorem i_mo_without {v : VS} {w : Int} (hX : XI v) (hp_a : R32 w) (hp_b : CF v) : XI ((mo_without v w).2) := by
  have q : WV (0, fun _ => 0, none) (0 + 1 + 1 + 1 + 1 + 1 + 1) 299 0 [some (.inr (.inr (some 203))), some (.inl w), none] [] 1 v (fun _ _ _ => XI ((mo_without v w).2)) := w_mo_without (X := (0, fun _ => 0, none)) (d := 0) (b := 1) hX hp_a hp_b (fun q => q)
  obtain ⟨_, _, _, _, _, _, _, q⟩ := q
  exact q

theorem o_mo_without {rk : Nat} {v : VS} {w : Int} (hk : (rk < 203 ∨ 203 < rk) ∧ (rk < 219 ∨ 231 < rk)) : (mo_without v w).2 rk = v rk := by
  unfold mo_without
  by_cases hc_ : 0 < (v 209 0)
  · rw [if_pos hc_] <;> clear hc_
    by_cases hc_ : (0 : Int) ≤ w ∧ w ≤ (6 : Int)
    · rw [if_pos hc_] <;> clear hc_
      all_goals (show (v2 (mo_run (v2 (mo_plainly ((mo_strikesBy (v2 v 203 0 0) 0 0).2)) 203 34 w)) 203 34 (-1)) rk = _)
      all_goals (rw [v2_row (by omega), o_mo_run (by omega), v2_row (by omega), o_mo_plainly (by omega), o_mo_strikesBy (by omega), v2_row (by omega)])
    · rw [if_neg hc_] <;> clear hc_
      all_goals (show (v2 v 203 0 0) rk = _)
      all_goals (rw [v2_row (by omega)])
  · rw [if_neg hc_] <;> clear hc_
    all_goals (show (v2 v 203 0 0) rk = _)
    all_goals (rw [v2_row (by omega)])

noncomputable def mo_unheardOf (v : VS) (i : Int) : Int × VS :=
  (((mo_strikesBy v 0 0).1 - ((mo_run (v2 (mo_plainly ((mo_strikesBy v 0 0).2)) 203 35 i)) 203 37)), (v2 (mo_run (v2 (mo_plainly ((mo_strikesBy v 0 0).2)) 203 35 i)) 203 35 (-1)))
theorem w_mo_unheardOf {X : PX} {d b : Nat} {v : VS} {i : Int} (hX : XI v) (hp_a : 0 ≤ i ∧ i ≤ 299) (hp_b : CF v) {Q : Option PV → Nat → VS → Prop} (hQ : XI (mo_unheardOf v i).2 → (-300 ≤ (mo_unheardOf v i).1 ∧ (mo_unheardOf v i).1 ≤ 300) → Q (some (.inl (mo_unheardOf v i).1)) b (mo_unheardOf v i).2) : WV X (d + 1 + 1 + 1 + 1 + 1 + 1) 301 0 [some (.inr (.inr (some 203))), some (.inl i), none] [] b v Q := by
  rw [mo_unheardOf] at hQ
  refine r_ex 3 (pc' := 3) (lo' := [some (.inr (.inr (some 203))), some (.inl i), none]) (st' := [.inl 0, .inl 0, .inr (.inr (some 203))]) rfl ?_
  have hp_1 : 0 ≤ (0 : Int) ∧ (0 : Int) ≤ 511 := (by first | assumption | omega | (unfold R32 at *; omega) | (unfold R64 at *; omega) | (simp only [R32, R64] at *; omega))
  have hp_2 : 0 ≤ (0 : Int) ∧ (0 : Int) ≤ 4095 := (by first | assumption | omega | (unfold R32 at *; omega) | (unfold R64 at *; omega) | (simp only [R32, R64] at *; omega))
  have hp_3 : CF v := hp_b
  refine r_call (m := 272) (args := [.inr (.inr (some 203)), .inl 0, .inl 0]) (n' := 301) (pc' := 6) (lo' := [some (.inr (.inr (some 203))), some (.inl i), none]) (st' := []) (I := .invokevirtual 272) (pc0 := 3) (len := 3) rfl rfl rfl (e_mo_strikesBy hX hp_1 hp_2 hp_3) ?_
  show WV _ _ _ 6 _ [.inl ((mo_strikesBy v 0 0).1)] _ (mo_strikesBy v 0 0).2 _
  have hX_4 : XI (mo_strikesBy v 0 0).2 := i_mo_strikesBy (v := v) (m := 0) (k := 0) hX hp_1 hp_2 hp_3
  have hb_5 := n_mo_strikesBy (v := v) (m := 0) (k := 0) hX hp_1 hp_2 hp_3
  refine r_ex 2 (pc' := 8) (lo' := [some (.inr (.inr (some 203))), some (.inl i), some (.inl ((mo_strikesBy v 0 0).1))]) (st' := [.inr (.inr (some 203))]) rfl ?_
  refine r_call (m := 241) (args := [.inr (.inr (some 203))]) (n' := 301) (pc' := 11) (lo' := [some (.inr (.inr (some 203))), some (.inl i), some (.inl ((mo_strikesBy v 0 0).1))]) (st' := []) (I := .invokevirtual 241) (pc0 := 8) (len := 3) rfl rfl rfl (e_mo_plainly hX_4) ?_
  show WV _ _ _ 11 _ [] _ (mo_plainly ((mo_strikesBy v 0 0).2)) _
  have hX_6 : XI (mo_plainly ((mo_strikesBy v 0 0).2)) := i_mo_plainly (v := (mo_strikesBy v 0 0).2) hX_4
  refine r_ex 2 (pc' := 13) (lo' := [some (.inr (.inr (some 203))), some (.inl i), some (.inl ((mo_strikesBy v 0 0).1))]) (st' := [.inl i, .inr (.inr (some 203))]) rfl ?_
  refine r_puti2 (j := 35) (pc' := 16) (pc0 := 13) (len := 3) rfl (s_203 _) rfl rfl rfl (Or.inl rfl) rfl rfl ?_
  have hX_7 : XI (v2 (mo_plainly ((mo_strikesBy v 0 0).2)) 203 35 i) := XI.put hX_6 (show -1 ≤ i ∧ i ≤ 299 from (by first | assumption | omega | (unfold R32 at *; omega) | (unfold R64 at *; omega) | (simp only [R32, R64] at *; omega)))
  refine r_ex 1 (pc' := 17) (lo' := [some (.inr (.inr (some 203))), some (.inl i), some (.inl ((mo_strikesBy v 0 0).1))]) (st' := [.inr (.inr (some 203))]) rfl ?_
  have hp_8 : CF (v2 (mo_plainly ((mo_strikesBy v 0 0).2)) 203 35 i) := show CF (v2 (mo_plainly ((mo_strikesBy v 0 0).2)) 203 35 i) from (show CF (v2 (mo_plainly ((mo_strikesBy v 0 0).2)) 203 35 i) from CF.of hp_b (fun k h1 h2 => by rw [v2_row (by omega), o_mo_plainly (by omega), o_mo_strikesBy (by omega)]))
  refine r_call (m := 247) (args := [.inr (.inr (some 203))]) (n' := 301) (pc' := 20) (lo' := [some (.inr (.inr (some 203))), some (.inl i), some (.inl ((mo_strikesBy v 0 0).1))]) (st' := []) (I := .invokevirtual 247) (pc0 := 17) (len := 3) rfl rfl rfl (e_mo_run hX_7 hp_8) ?_
  show WV _ _ _ 20 _ [] _ (mo_run (v2 (mo_plainly ((mo_strikesBy v 0 0).2)) 203 35 i)) _
  have hX_9 : XI (mo_run (v2 (mo_plainly ((mo_strikesBy v 0 0).2)) 203 35 i)) := i_mo_run (v := (v2 (mo_plainly ((mo_strikesBy v 0 0).2)) 203 35 i)) hX_7 hp_8
  refine r_ex 2 (pc' := 22) (lo' := [some (.inr (.inr (some 203))), some (.inl i), some (.inl ((mo_strikesBy v 0 0).1))]) (st' := [.inl (-1), .inr (.inr (some 203))]) rfl ?_
  refine r_puti2 (j := 35) (pc' := 25) (pc0 := 22) (len := 3) rfl (s_203 _) rfl rfl rfl (Or.inl rfl) rfl rfl ?_
  have hX_10 : XI (v2 (mo_run (v2 (mo_plainly ((mo_strikesBy v 0 0).2)) 203 35 i)) 203 35 (-1)) := XI.put hX_9 (show -1 ≤ (-1) ∧ (-1) ≤ 299 from (by first | assumption | omega | (unfold R32 at *; omega) | (unfold R64 at *; omega) | (simp only [R32, R64] at *; omega)))
  refine r_ex 4 (pc' := 31) (lo' := [some (.inr (.inr (some 203))), some (.inl i), some (.inl ((mo_strikesBy v 0 0).1))]) (st' := [.inl ((mo_strikesBy v 0 0).1 - ((mo_run (v2 (mo_plainly ((mo_strikesBy v 0 0).2)) 203 35 i)) 203 37))]) rfl ?_
  have hb_11 : 0 ≤ ((mo_run (v2 (mo_plainly ((mo_strikesBy v 0 0).2)) 203 35 i)) 203 37) ∧ ((mo_run (v2 (mo_plainly ((mo_strikesBy v 0 0).2)) 203 35 i)) 203 37) ≤ 300 := hX_10 203 37
  refine r_ret (rr := some (.inl ((mo_strikesBy v 0 0).1 - ((mo_run (v2 (mo_plainly ((mo_strikesBy v 0 0).2)) 203 35 i)) 203 37)))) (I := .ireturn) (pc0 := 31) (len := 1) rfl rfl ?_
  exact hQ hX_10 (by first | assumption | omega | (unfold R32 at *; omega) | (unfold R64 at *; omega) | (simp only [R32, R64] at *; omega))

theorem e_mo_unheardOf {X : PX} {d b : Nat} {v : VS} {i : Int} (hX : XI v) (hp_a : 0 ≤ i ∧ i ≤ 299) (hp_b : CF v) : EvV X (d + 1 + 1 + 1 + 1 + 1 + 1) 301 [.inr (.inr (some 203)), .inl i] b v (some (.inl (mo_unheardOf v i).1)) b ((mo_unheardOf v i).2) := EvV.of (w_mo_unheardOf hX hp_a hp_b (fun _ _ => ⟨rfl, rfl, rfl⟩))

theorem i_mo_unheardOf {v : VS} {i : Int} (hX : XI v) (hp_a : 0 ≤ i ∧ i ≤ 299) (hp_b : CF v) : XI ((mo_unheardOf v i).2) := by
  have q : WV (0, fun _ => 0, none) (0 + 1 + 1 + 1 + 1 + 1 + 1) 301 0 [some (.inr (.inr (some 203))), some (.inl i), none] [] 1 v (fun _ _ _ => XI ((mo_unheardOf v i).2)) := w_mo_unheardOf (X := (0, fun _ => 0, none)) (d := 0) (b := 1) hX hp_a hp_b (fun q _ => q)
  obtain ⟨_, _, _, _, _, _, _, q⟩ := q
  exact q

theorem n_mo_unheardOf {v : VS} {i : Int} (hX : XI v) (hp_a : 0 ≤ i ∧ i ≤ 299) (hp_b : CF v) : -300 ≤ (mo_unheardOf v i).1 ∧ (mo_unheardOf v i).1 ≤ 300 := by
  have q : WV (0, fun _ => 0, none) (0 + 1 + 1 + 1 + 1 + 1 + 1) 301 0 [some (.inr (.inr (some 203))), some (.inl i), none] [] 1 v (fun _ _ _ => -300 ≤ (mo_unheardOf v i).1 ∧ (mo_unheardOf v i).1 ≤ 300) := w_mo_unheardOf (X := (0, fun _ => 0, none)) (d := 0) (b := 1) hX hp_a hp_b (fun _ q => q)
  obtain ⟨_, _, _, _, _, _, _, q⟩ := q
  exact q

theorem o_mo_unheardOf {rk : Nat} {v : VS} {i : Int} (hk : (rk < 203 ∨ 203 < rk) ∧ (rk < 219 ∨ 231 < rk)) : (mo_unheardOf v i).2 rk = v rk := by
  unfold mo_unheardOf
  all_goals (show (v2 (mo_run (v2 (mo_plainly ((mo_strikesBy v 0 0).2)) 203 35 i)) 203 35 (-1)) rk = _)
  all_goals (rw [v2_row (by omega), o_mo_run (by omega), v2_row (by omega), o_mo_plainly (by omega), o_mo_strikesBy (by omega)])

noncomputable def mo_unheard (v : VS) (i : Int) : Int × VS :=
  (if 0 < (v 209 0) then (if (0 : Int) ≤ i ∧ i ≤ ((mo_strikesBy (v2 v 203 0 0) 0 0).1 - 1) then ((mo_unheardOf ((mo_strikesBy (v2 v 203 0 0) 0 0).2) i).1, (mo_unheardOf ((mo_strikesBy (v2 v 203 0 0) 0 0).2) i).2) else ((-2000000), (mo_strikesBy (v2 v 203 0 0) 0 0).2)) else ((-2000000), (v2 v 203 0 0)))
theorem w_mo_unheard {X : PX} {d b : Nat} {v : VS} {i : Int} (hX : XI v) (hp_a : R32 i) (hp_b : CF v) {Q : Option PV → Nat → VS → Prop} (hQ : XI (mo_unheard v i).2 → Q (some (.inl (mo_unheard v i).1)) b (mo_unheard v i).2) : WV X (d + 1 + 1 + 1 + 1 + 1 + 1 + 1) 300 0 [some (.inr (.inr (some 203))), some (.inl i)] [] b v Q := by
  rw [mo_unheard] at hQ
  refine r_ex 2 (pc' := 2) (lo' := [some (.inr (.inr (some 203))), some (.inl i)]) (st' := [.inl 0, .inr (.inr (some 203))]) rfl ?_
  refine r_puti2 (j := 0) (pc' := 5) (pc0 := 2) (len := 3) rfl (s_203 _) rfl rfl rfl (Or.inl rfl) rfl rfl ?_
  have hX_1 : XI (v2 v 203 0 0) := XI.put hX trivial
  refine r_ex 1 (pc' := 6) (lo' := [some (.inr (.inr (some 203))), some (.inl i)]) (st' := [.inr (.inr (some 203))]) rfl ?_
  have hb_2 : 0 ≤ (v 209 0) ∧ (v 209 0) ≤ 2001 := hX_1 209 0
  refine r_callb (P := 0 < (v 209 0)) (m := 245) (args := [.inr (.inr (some 203))]) (n' := 300) (pc' := 9) (lo' := [some (.inr (.inr (some 203))), some (.inl i)]) (st' := []) (I := .invokevirtual 245) (pc0 := 6) (len := 3) rfl rfl rfl (e_mo_isBay hX_1) (fun h_6 => ?_) (fun h_6 => ?_)
  · show WV _ _ _ 9 _ _ _ _ _
    rw [if_pos h_6] at hQ
    refine r_ex 2 (pc' := 13) (lo' := [some (.inr (.inr (some 203))), some (.inl i)]) (st' := [.inl i]) rfl ?_
    refine n_i2l (pc' := 14) (pc0 := 13) (len := 1) rfl (by first | assumption | omega | (unfold R32 at *; omega) | (unfold R64 at *; omega) | (simp only [R32, R64] at *; omega)) rfl ?_
    refine r_ex 4 (pc' := 18) (lo' := [some (.inr (.inr (some 203))), some (.inl i)]) (st' := [.inl 0, .inl 0, .inr (.inr (some 203)), .inr (.inl 0), .inr (.inl i)]) rfl ?_
    have hp_3 : 0 ≤ (0 : Int) ∧ (0 : Int) ≤ 511 := (by first | assumption | omega | (unfold R32 at *; omega) | (unfold R64 at *; omega) | (simp only [R32, R64] at *; omega))
    have hp_4 : 0 ≤ (0 : Int) ∧ (0 : Int) ≤ 4095 := (by first | assumption | omega | (unfold R32 at *; omega) | (unfold R64 at *; omega) | (simp only [R32, R64] at *; omega))
    have hp_5 : CF (v2 v 203 0 0) := show CF (v2 v 203 0 0) from (show CF (v2 v 203 0 0) from CF.of hp_b (fun k h1 h2 => by rw [v2_row (by omega)]))
    refine r_call (m := 272) (args := [.inr (.inr (some 203)), .inl 0, .inl 0]) (n' := 300) (pc' := 21) (lo' := [some (.inr (.inr (some 203))), some (.inl i)]) (st' := [.inr (.inl 0), .inr (.inl i)]) (I := .invokevirtual 272) (pc0 := 18) (len := 3) rfl rfl rfl (e_mo_strikesBy hX_1 hp_3 hp_4 hp_5) ?_
    show WV _ _ _ 21 _ [.inl ((mo_strikesBy (v2 v 203 0 0) 0 0).1), .inr (.inl 0), .inr (.inl i)] _ (mo_strikesBy (v2 v 203 0 0) 0 0).2 _
    have hX_6 : XI (mo_strikesBy (v2 v 203 0 0) 0 0).2 := i_mo_strikesBy (v := (v2 v 203 0 0)) (m := 0) (k := 0) hX_1 hp_3 hp_4 hp_5
    have hb_7 := n_mo_strikesBy (v := (v2 v 203 0 0)) (m := 0) (k := 0) hX_1 hp_3 hp_4 hp_5
    refine r_ex 2 (pc' := 23) (lo' := [some (.inr (.inr (some 203))), some (.inl i)]) (st' := [.inl ((mo_strikesBy (v2 v 203 0 0) 0 0).1 - 1), .inr (.inl 0), .inr (.inl i)]) rfl ?_
    refine n_i2l (pc' := 24) (pc0 := 23) (len := 1) rfl (by first | assumption | omega | (unfold R32 at *; omega) | (unfold R64 at *; omega) | (simp only [R32, R64] at *; omega)) rfl ?_
    have hp_8 : R64 i := (by first | assumption | omega | (unfold R32 at *; omega) | (unfold R64 at *; omega) | (simp only [R32, R64] at *; omega))
    have hp_9 : R64 (0 : Int) := (by first | assumption | omega | (unfold R32 at *; omega) | (unfold R64 at *; omega) | (simp only [R32, R64] at *; omega))
    have hp_10 : R64 ((mo_strikesBy (v2 v 203 0 0) 0 0).1 - 1) := (by first | assumption | omega | (unfold R32 at *; omega) | (unfold R64 at *; omega) | (simp only [R32, R64] at *; omega))
    refine r_callb (P := (0 : Int) ≤ i ∧ i ≤ ((mo_strikesBy (v2 v 203 0 0) 0 0).1 - 1)) (m := 202) (args := [.inr (.inl i), .inr (.inl 0), .inr (.inl ((mo_strikesBy (v2 v 203 0 0) 0 0).1 - 1))]) (n' := 300) (pc' := 27) (lo' := [some (.inr (.inr (some 203))), some (.inl i)]) (st' := []) (I := .invokestatic 202) (pc0 := 24) (len := 3) rfl rfl rfl (e_mo_in hX_6 hp_8 hp_9 hp_10) (fun h_24 => ?_) (fun h_24 => ?_)
    · show WV _ _ _ 27 _ _ _ _ _
      rw [if_pos h_24] at hQ
      refine r_ex 3 (pc' := 32) (lo' := [some (.inr (.inr (some 203))), some (.inl i)]) (st' := [.inl i, .inr (.inr (some 203))]) rfl ?_
      have hp_11 : 0 ≤ i ∧ i ≤ 299 := (by first | assumption | omega | (unfold R32 at *; omega) | (unfold R64 at *; omega) | (simp only [R32, R64] at *; omega))
      have hp_12 : CF (mo_strikesBy (v2 v 203 0 0) 0 0).2 := show CF ((mo_strikesBy (v2 v 203 0 0) 0 0).2) from (show CF ((mo_strikesBy (v2 v 203 0 0) 0 0).2) from CF.of hp_b (fun k h1 h2 => by rw [o_mo_strikesBy (by omega), v2_row (by omega)]))
      refine r_call (m := 301) (args := [.inr (.inr (some 203)), .inl i]) (n' := 300) (pc' := 35) (lo' := [some (.inr (.inr (some 203))), some (.inl i)]) (st' := []) (I := .invokevirtual 301) (pc0 := 32) (len := 3) rfl rfl rfl (e_mo_unheardOf hX_6 hp_11 hp_12) ?_
      show WV _ _ _ 35 _ [.inl ((mo_unheardOf ((mo_strikesBy (v2 v 203 0 0) 0 0).2) i).1)] _ (mo_unheardOf ((mo_strikesBy (v2 v 203 0 0) 0 0).2) i).2 _
      have hX_13 : XI (mo_unheardOf ((mo_strikesBy (v2 v 203 0 0) 0 0).2) i).2 := i_mo_unheardOf (v := (mo_strikesBy (v2 v 203 0 0) 0 0).2) (i := i) hX_6 hp_11 hp_12
      have hb_14 := n_mo_unheardOf (v := (mo_strikesBy (v2 v 203 0 0) 0 0).2) (i := i) hX_6 hp_11 hp_12
      refine r_ex 1 (pc' := 41) (lo' := [some (.inr (.inr (some 203))), some (.inl i)]) (st' := [.inl ((mo_unheardOf ((mo_strikesBy (v2 v 203 0 0) 0 0).2) i).1)]) rfl ?_
      refine r_ret (rr := some (.inl ((mo_unheardOf ((mo_strikesBy (v2 v 203 0 0) 0 0).2) i).1))) (I := .ireturn) (pc0 := 41) (len := 1) rfl rfl ?_
      exact hQ hX_13 
    · show WV _ _ _ 27 _ _ _ _ _
      rw [if_neg h_24] at hQ
      refine r_ex 2 (pc' := 41) (lo' := [some (.inr (.inr (some 203))), some (.inl i)]) (st' := [.inl (-2000000)]) rfl ?_
      refine r_ret (rr := some (.inl (-2000000))) (I := .ireturn) (pc0 := 41) (len := 1) rfl rfl ?_
      exact hQ hX_6 
  · show WV _ _ _ 9 _ _ _ _ _
    rw [if_neg h_6] at hQ
    refine r_ex 2 (pc' := 41) (lo' := [some (.inr (.inr (some 203))), some (.inl i)]) (st' := [.inl (-2000000)]) rfl ?_
    refine r_ret (rr := some (.inl (-2000000))) (I := .ireturn) (pc0 := 41) (len := 1) rfl rfl ?_
    exact hQ hX_1 

theorem e_mo_unheard {X : PX} {d b : Nat} {v : VS} {i : Int} (hX : XI v) (hp_a : R32 i) (hp_b : CF v) : EvV X (d + 1 + 1 + 1 + 1 + 1 + 1 + 1) 300 [.inr (.inr (some 203)), .inl i] b v (some (.inl (mo_unheard v i).1)) b ((mo_unheard v i).2) := EvV.of (w_mo_unheard hX hp_a hp_b (fun _ => ⟨rfl, rfl, rfl⟩))

theorem i_mo_unheard {v : VS} {i : Int} (hX : XI v) (hp_a : R32 i) (hp_b : CF v) : XI ((mo_unheard v i).2) := by
  have q : WV (0, fun _ => 0, none) (0 + 1 + 1 + 1 + 1 + 1 + 1 + 1) 300 0 [some (.inr (.inr (some 203))), some (.inl i)] [] 1 v (fun _ _ _ => XI ((mo_unheard v i).2)) := w_mo_unheard (X := (0, fun _ => 0, none)) (d := 0) (b := 1) hX hp_a hp_b (fun q => q)
  obtain ⟨_, _, _, _, _, _, _, q⟩ := q
  exact q

theorem o_mo_unheard {rk : Nat} {v : VS} {i : Int} (hk : (rk < 203 ∨ 203 < rk) ∧ (rk < 219 ∨ 231 < rk)) : (mo_unheard v i).2 rk = v rk := by
  unfold mo_unheard
  by_cases hc_ : 0 < (v 209 0)
  · rw [if_pos hc_] <;> clear hc_
    by_cases hc_ : (0 : Int) ≤ i ∧ i ≤ ((mo_strikesBy (v2 v 203 0 0) 0 0).1 - 1)
    · rw [if_pos hc_] <;> clear hc_
      all_goals (show ((mo_unheardOf ((mo_strikesBy (v2 v 203 0 0) 0 0).2) i).2) rk = _)
      all_goals (rw [o_mo_unheardOf (by omega), o_mo_strikesBy (by omega), v2_row (by omega)])
    · rw [if_neg hc_] <;> clear hc_
      all_goals (show ((mo_strikesBy (v2 v 203 0 0) 0 0).2) rk = _)
      all_goals (rw [o_mo_strikesBy (by omega), v2_row (by omega)])
  · rw [if_neg hc_] <;> clear hc_
    all_goals (show (v2 v 203 0 0) rk = _)
    all_goals (rw [v2_row (by omega)])

noncomputable def mo_key_29 : Nat → VS → Int → Int → Int → Int → Int × VS
  | 0, v, n, g, m, i => (0, v)
  | f + 1, v, n, g, m, i => (if i < n then (if g = (-1) then (mo_key_29 f ((mo_unheardOf v i).2) n i ((mo_unheardOf v i).1) (i + 1)) else (if m < (mo_unheardOf v i).1 then (mo_key_29 f ((mo_unheardOf v i).2) n i ((mo_unheardOf v i).1) (i + 1)) else (mo_key_29 f ((mo_unheardOf v i).2) n g m (i + 1)))) else (g, v))
noncomputable def mo_key (v : VS)  : Int × VS :=
  (if 0 < (v 209 0) then ((mo_key_29 301 ((mo_strikesBy (v2 v 203 0 0) 0 0).2) ((mo_strikesBy (v2 v 203 0 0) 0 0).1) (-1) 0 0).1, (mo_key_29 301 ((mo_strikesBy (v2 v 203 0 0) 0 0).2) ((mo_strikesBy (v2 v 203 0 0) 0 0).1) (-1) 0 0).2) else ((-2), (v2 v 203 0 0)))
theorem l_mo_key_29 {X : PX} {d b : Nat} {Q : Option PV → Nat → VS → Prop}  : ∀ (f : Nat) (v : VS) (n : Int) (g : Int) (m : Int) (i : Int) (o5 : Option PV), XI v → (0 ≤ n ∧ n ≤ 300) → (-1 ≤ g ∧ g ≤ 299) → (-300 ≤ m ∧ m ≤ 300) → (0 ≤ i ∧ i ≤ 300) → (CF v) → (300 < i + f) → (∀ qx3 : Option PV, ∀ qx4 : Option PV, ∀ qx5 : Option PV, XI ((mo_key_29 f v n g m i).2) → (-1 ≤ (mo_key_29 f v n g m i).1 ∧ (mo_key_29 f v n g m i).1 ≤ 299) → WV X (d + 1 + 1 + 1 + 1 + 1 + 1 + 1) 302 69 [some (.inr (.inr (some 203))), some (.inl n), some (.inl ((mo_key_29 f v n g m i).1)), qx3, qx4, qx5] [] b (mo_key_29 f v n g m i).2 Q) → WV X (d + 1 + 1 + 1 + 1 + 1 + 1 + 1) 302 29 [some (.inr (.inr (some 203))), some (.inl n), some (.inl g), some (.inl m), some (.inl i), o5] [] b v Q := by
  intro f
  induction f with
  | zero =>
    intro v n g m i o5 hX hi_0 hi_1 hi_2 hi_3 hi_4 hf hK
    exfalso
    omega
  | succ f ih =>
    intro v n g m i o5 hX hi_0 hi_1 hi_2 hi_3 hi_4 hf hK
    rw [mo_key_29] at hK
    refine r_ex 2 (pc' := 32) (lo' := [some (.inr (.inr (some 203))), some (.inl n), some (.inl g), some (.inl m), some (.inl i), o5]) (st' := [.inl n, .inl i]) rfl ?_
    refine n_ic_ge (pc0 := 32) (len := 3) (t := 69) rfl (by first | assumption | omega | (unfold R32 at *; omega) | (unfold R64 at *; omega) | (simp only [R32, R64] at *; omega)) (by first | assumption | omega | (unfold R32 at *; omega) | (unfold R64 at *; omega) | (simp only [R32, R64] at *; omega)) (fun h_32 => ?_) (fun h_32 => ?_)
    · show WV _ _ _ 69 _ _ _ _ _
      rw [if_neg h_32] at hK
      exact hK _ _ _ hX (by first | assumption | omega | (unfold R32 at *; omega) | (unfold R64 at *; omega) | (simp only [R32, R64] at *; omega))
    · show WV _ _ _ 35 _ _ _ _ _
      rw [if_pos h_32] at hK
      refine r_ex 2 (pc' := 38) (lo' := [some (.inr (.inr (some 203))), some (.inl n), some (.inl g), some (.inl m), some (.inl i), o5]) (st' := [.inl i, .inr (.inr (some 203))]) rfl ?_
      have hp_8 : 0 ≤ i ∧ i ≤ 299 := (by first | assumption | omega | (unfold R32 at *; omega) | (unfold R64 at *; omega) | (simp only [R32, R64] at *; omega))
      have hp_9 : CF v := hi_4
      refine r_call (m := 301) (args := [.inr (.inr (some 203)), .inl i]) (n' := 302) (pc' := 41) (lo' := [some (.inr (.inr (some 203))), some (.inl n), some (.inl g), some (.inl m), some (.inl i), o5]) (st' := []) (I := .invokevirtual 301) (pc0 := 38) (len := 3) rfl rfl rfl (e_mo_unheardOf hX hp_8 hp_9) ?_
      show WV _ _ _ 41 _ [.inl ((mo_unheardOf v i).1)] _ (mo_unheardOf v i).2 _
      have hX_10 : XI (mo_unheardOf v i).2 := i_mo_unheardOf (v := v) (i := i) hX hp_8 hp_9
      have hb_11 := n_mo_unheardOf (v := v) (i := i) hX hp_8 hp_9
      refine r_ex 3 (pc' := 45) (lo' := [some (.inr (.inr (some 203))), some (.inl n), some (.inl g), some (.inl m), some (.inl i), some (.inl ((mo_unheardOf v i).1))]) (st' := [.inl (-1), .inl g]) rfl ?_
      refine n_ic_eq (pc0 := 45) (len := 3) (t := 57) rfl (by first | assumption | omega | (unfold R32 at *; omega) | (unfold R64 at *; omega) | (simp only [R32, R64] at *; omega)) (by first | assumption | omega | (unfold R32 at *; omega) | (unfold R64 at *; omega) | (simp only [R32, R64] at *; omega)) (fun h_45 => ?_) (fun h_45 => ?_)
      · show WV _ _ _ 57 _ _ _ _ _
        rw [if_pos h_45] at hK
        refine r_ex 6 (pc' := 29) (lo' := [some (.inr (.inr (some 203))), some (.inl n), some (.inl i), some (.inl ((mo_unheardOf v i).1)), some (.inl (i + 1)), some (.inl ((mo_unheardOf v i).1))]) (st' := []) rfl ?_
        refine ih ((mo_unheardOf v i).2) n i ((mo_unheardOf v i).1) (i + 1) _ hX_10 (by first | assumption | omega | (unfold R32 at *; omega) | (unfold R64 at *; omega) | (simp only [R32, R64] at *; omega)) (by first | assumption | omega | (unfold R32 at *; omega) | (unfold R64 at *; omega) | (simp only [R32, R64] at *; omega)) (by first | assumption | omega | (unfold R32 at *; omega) | (unfold R64 at *; omega) | (simp only [R32, R64] at *; omega)) (by first | assumption | omega | (unfold R32 at *; omega) | (unfold R64 at *; omega) | (simp only [R32, R64] at *; omega)) (show CF ((mo_unheardOf v i).2) from (show CF ((mo_unheardOf v i).2) from CF.of hi_4 (fun k h1 h2 => by rw [o_mo_unheardOf (by omega)]))) (by first | assumption | omega | (unfold R32 at *; omega) | (unfold R64 at *; omega) | (simp only [R32, R64] at *; omega)) hK
      · show WV _ _ _ 48 _ _ _ _ _
        rw [if_neg h_45] at hK
        refine r_ex 2 (pc' := 51) (lo' := [some (.inr (.inr (some 203))), some (.inl n), some (.inl g), some (.inl m), some (.inl i), some (.inl ((mo_unheardOf v i).1))]) (st' := [.inl m, .inl ((mo_unheardOf v i).1)]) rfl ?_
        refine n_ic_gt (pc0 := 51) (len := 3) (t := 57) rfl (by first | assumption | omega | (unfold R32 at *; omega) | (unfold R64 at *; omega) | (simp only [R32, R64] at *; omega)) (by first | assumption | omega | (unfold R32 at *; omega) | (unfold R64 at *; omega) | (simp only [R32, R64] at *; omega)) (fun h_51 => ?_) (fun h_51 => ?_)
        · show WV _ _ _ 57 _ _ _ _ _
          rw [if_pos h_51] at hK
          refine r_ex 6 (pc' := 29) (lo' := [some (.inr (.inr (some 203))), some (.inl n), some (.inl i), some (.inl ((mo_unheardOf v i).1)), some (.inl (i + 1)), some (.inl ((mo_unheardOf v i).1))]) (st' := []) rfl ?_
          refine ih ((mo_unheardOf v i).2) n i ((mo_unheardOf v i).1) (i + 1) _ hX_10 (by first | assumption | omega | (unfold R32 at *; omega) | (unfold R64 at *; omega) | (simp only [R32, R64] at *; omega)) (by first | assumption | omega | (unfold R32 at *; omega) | (unfold R64 at *; omega) | (simp only [R32, R64] at *; omega)) (by first | assumption | omega | (unfold R32 at *; omega) | (unfold R64 at *; omega) | (simp only [R32, R64] at *; omega)) (by first | assumption | omega | (unfold R32 at *; omega) | (unfold R64 at *; omega) | (simp only [R32, R64] at *; omega)) (show CF ((mo_unheardOf v i).2) from (show CF ((mo_unheardOf v i).2) from CF.of hi_4 (fun k h1 h2 => by rw [o_mo_unheardOf (by omega)]))) (by first | assumption | omega | (unfold R32 at *; omega) | (unfold R64 at *; omega) | (simp only [R32, R64] at *; omega)) hK
        · show WV _ _ _ 54 _ _ _ _ _
          rw [if_neg h_51] at hK
          refine r_ex 3 (pc' := 29) (lo' := [some (.inr (.inr (some 203))), some (.inl n), some (.inl g), some (.inl m), some (.inl (i + 1)), some (.inl ((mo_unheardOf v i).1))]) (st' := []) rfl ?_
          refine ih ((mo_unheardOf v i).2) n g m (i + 1) _ hX_10 (by first | assumption | omega | (unfold R32 at *; omega) | (unfold R64 at *; omega) | (simp only [R32, R64] at *; omega)) (by first | assumption | omega | (unfold R32 at *; omega) | (unfold R64 at *; omega) | (simp only [R32, R64] at *; omega)) (by first | assumption | omega | (unfold R32 at *; omega) | (unfold R64 at *; omega) | (simp only [R32, R64] at *; omega)) (by first | assumption | omega | (unfold R32 at *; omega) | (unfold R64 at *; omega) | (simp only [R32, R64] at *; omega)) (show CF ((mo_unheardOf v i).2) from (show CF ((mo_unheardOf v i).2) from CF.of hi_4 (fun k h1 h2 => by rw [o_mo_unheardOf (by omega)]))) (by first | assumption | omega | (unfold R32 at *; omega) | (unfold R64 at *; omega) | (simp only [R32, R64] at *; omega)) hK

theorem of_mo_key_29 {rk : Nat} (hk : (rk < 203 ∨ 203 < rk) ∧ (rk < 219 ∨ 231 < rk)) : ∀ (f : Nat) {v : VS} {n : Int} {g : Int} {m : Int} {i : Int}, (mo_key_29 f v n g m i).2 rk = v rk := by
  intro f
  induction f with
  | zero => intro v n g m i; rfl
  | succ f ih =>
    intro v n g m i
    rw [mo_key_29]
    by_cases hc_ : i < n
    · rw [if_pos hc_] <;> clear hc_
      by_cases hc_ : g = (-1)
      · rw [if_pos hc_] <;> clear hc_
        all_goals (rw [ih, o_mo_unheardOf (by omega)])
      · rw [if_neg hc_] <;> clear hc_
        by_cases hc_ : m < (mo_unheardOf v i).1
        · rw [if_pos hc_] <;> clear hc_
          all_goals (rw [ih, o_mo_unheardOf (by omega)])
        · rw [if_neg hc_] <;> clear hc_
          all_goals (rw [ih, o_mo_unheardOf (by omega)])
    · rw [if_neg hc_] <;> clear hc_
      all_goals (show v rk = _)
      all_goals rfl
theorem o_mo_key_29 {rk : Nat} {f : Nat} {v : VS} {n : Int} {g : Int} {m : Int} {i : Int} (hk : (rk < 203 ∨ 203 < rk) ∧ (rk < 219 ∨ 231 < rk)) : (mo_key_29 f v n g m i).2 rk = v rk := of_mo_key_29 hk f

theorem w_mo_key {X : PX} {d b : Nat} {v : VS}  (hX : XI v) (hp_a : CF v) {Q : Option PV → Nat → VS → Prop} (hQ : XI (mo_key v).2 → Q (some (.inl (mo_key v).1)) b (mo_key v).2) : WV X (d + 1 + 1 + 1 + 1 + 1 + 1 + 1) 302 0 [some (.inr (.inr (some 203))), none, none, none, none, none] [] b v Q := by
  rw [mo_key] at hQ
  refine r_ex 2 (pc' := 2) (lo' := [some (.inr (.inr (some 203))), none, none, none, none, none]) (st' := [.inl 0, .inr (.inr (some 203))]) rfl ?_
  refine r_puti2 (j := 0) (pc' := 5) (pc0 := 2) (len := 3) rfl (s_203 _) rfl rfl rfl (Or.inl rfl) rfl rfl ?_
  have hX_1 : XI (v2 v 203 0 0) := XI.put hX trivial
  refine r_ex 1 (pc' := 6) (lo' := [some (.inr (.inr (some 203))), none, none, none, none, none]) (st' := [.inr (.inr (some 203))]) rfl ?_
  have hb_2 : 0 ≤ (v 209 0) ∧ (v 209 0) ≤ 2001 := hX_1 209 0
  refine r_callb (P := 0 < (v 209 0)) (m := 245) (args := [.inr (.inr (some 203))]) (n' := 302) (pc' := 9) (lo' := [some (.inr (.inr (some 203))), none, none, none, none, none]) (st' := []) (I := .invokevirtual 245) (pc0 := 6) (len := 3) rfl rfl rfl (e_mo_isBay hX_1) (fun h_6 => ?_) (fun h_6 => ?_)
  · show WV _ _ _ 9 _ _ _ _ _
    rw [if_pos h_6] at hQ
    refine r_ex 4 (pc' := 18) (lo' := [some (.inr (.inr (some 203))), none, none, none, none, none]) (st' := [.inl 0, .inl 0, .inr (.inr (some 203))]) rfl ?_
    have hp_3 : 0 ≤ (0 : Int) ∧ (0 : Int) ≤ 511 := (by first | assumption | omega | (unfold R32 at *; omega) | (unfold R64 at *; omega) | (simp only [R32, R64] at *; omega))
    have hp_4 : 0 ≤ (0 : Int) ∧ (0 : Int) ≤ 4095 := (by first | assumption | omega | (unfold R32 at *; omega) | (unfold R64 at *; omega) | (simp only [R32, R64] at *; omega))
    have hp_5 : CF (v2 v 203 0 0) := show CF (v2 v 203 0 0) from (show CF (v2 v 203 0 0) from CF.of hp_a (fun k h1 h2 => by rw [v2_row (by omega)]))
    refine r_call (m := 272) (args := [.inr (.inr (some 203)), .inl 0, .inl 0]) (n' := 302) (pc' := 21) (lo' := [some (.inr (.inr (some 203))), none, none, none, none, none]) (st' := []) (I := .invokevirtual 272) (pc0 := 18) (len := 3) rfl rfl rfl (e_mo_strikesBy hX_1 hp_3 hp_4 hp_5) ?_
    show WV _ _ _ 21 _ [.inl ((mo_strikesBy (v2 v 203 0 0) 0 0).1)] _ (mo_strikesBy (v2 v 203 0 0) 0 0).2 _
    have hX_6 : XI (mo_strikesBy (v2 v 203 0 0) 0 0).2 := i_mo_strikesBy (v := (v2 v 203 0 0)) (m := 0) (k := 0) hX_1 hp_3 hp_4 hp_5
    have hb_7 := n_mo_strikesBy (v := (v2 v 203 0 0)) (m := 0) (k := 0) hX_1 hp_3 hp_4 hp_5
    refine r_ex 7 (pc' := 29) (lo' := [some (.inr (.inr (some 203))), some (.inl ((mo_strikesBy (v2 v 203 0 0) 0 0).1)), some (.inl (-1)), some (.inl 0), some (.inl 0), none]) (st' := []) rfl ?_
    refine l_mo_key_29 301 ((mo_strikesBy (v2 v 203 0 0) 0 0).2) ((mo_strikesBy (v2 v 203 0 0) 0 0).1) (-1) 0 0 _ hX_6 (by first | assumption | omega | (unfold R32 at *; omega) | (unfold R64 at *; omega) | (simp only [R32, R64] at *; omega)) (by first | assumption | omega | (unfold R32 at *; omega) | (unfold R64 at *; omega) | (simp only [R32, R64] at *; omega)) (by first | assumption | omega | (unfold R32 at *; omega) | (unfold R64 at *; omega) | (simp only [R32, R64] at *; omega)) (by first | assumption | omega | (unfold R32 at *; omega) | (unfold R64 at *; omega) | (simp only [R32, R64] at *; omega)) (show CF ((mo_strikesBy (v2 v 203 0 0) 0 0).2) from (show CF ((mo_strikesBy (v2 v 203 0 0) 0 0).2) from CF.of hp_a (fun k h1 h2 => by rw [o_mo_strikesBy (by omega), v2_row (by omega)]))) (by first | assumption | omega | (unfold R32 at *; omega) | (unfold R64 at *; omega) | (simp only [R32, R64] at *; omega)) (fun o3_12 o4_12 o5_12 hX_12 hv_12_0 => ?_)
    show WV _ _ _ 69 _ _ _ _ _
    refine r_ex 1 (pc' := 70) (lo' := [some (.inr (.inr (some 203))), some (.inl ((mo_strikesBy (v2 v 203 0 0) 0 0).1)), some (.inl ((mo_key_29 301 ((mo_strikesBy (v2 v 203 0 0) 0 0).2) ((mo_strikesBy (v2 v 203 0 0) 0 0).1) (-1) 0 0).1)), o3_12, o4_12, o5_12]) (st' := [.inl ((mo_key_29 301 ((mo_strikesBy (v2 v 203 0 0) 0 0).2) ((mo_strikesBy (v2 v 203 0 0) 0 0).1) (-1) 0 0).1)]) rfl ?_
    refine r_ret (rr := some (.inl ((mo_key_29 301 ((mo_strikesBy (v2 v 203 0 0) 0 0).2) ((mo_strikesBy (v2 v 203 0 0) 0 0).1) (-1) 0 0).1))) (I := .ireturn) (pc0 := 70) (len := 1) rfl rfl ?_
    exact hQ hX_12 
  · show WV _ _ _ 9 _ _ _ _ _
    rw [if_neg h_6] at hQ
    refine r_ex 2 (pc' := 14) (lo' := [some (.inr (.inr (some 203))), none, none, none, none, none]) (st' := [.inl (-2)]) rfl ?_
    refine r_ret (rr := some (.inl (-2))) (I := .ireturn) (pc0 := 14) (len := 1) rfl rfl ?_
    exact hQ hX_1 

theorem e_mo_key {X : PX} {d b : Nat} {v : VS}  (hX : XI v) (hp_a : CF v) : EvV X (d + 1 + 1 + 1 + 1 + 1 + 1 + 1) 302 [.inr (.inr (some 203))] b v (some (.inl (mo_key v).1)) b ((mo_key v).2) := EvV.of (w_mo_key hX hp_a (fun _ => ⟨rfl, rfl, rfl⟩))

theorem i_mo_key {v : VS}  (hX : XI v) (hp_a : CF v) : XI ((mo_key v).2) := by
  have q : WV (0, fun _ => 0, none) (0 + 1 + 1 + 1 + 1 + 1 + 1 + 1) 302 0 [some (.inr (.inr (some 203))), none, none, none, none, none] [] 1 v (fun _ _ _ => XI ((mo_key v).2)) := w_mo_key (X := (0, fun _ => 0, none)) (d := 0) (b := 1) hX hp_a (fun q => q)
  obtain ⟨_, _, _, _, _, _, _, q⟩ := q
  exact q

theorem o_mo_key {rk : Nat} {v : VS}  (hk : (rk < 203 ∨ 203 < rk) ∧ (rk < 219 ∨ 231 < rk)) : (mo_key v ).2 rk = v rk := by
  unfold mo_key
  by_cases hc_ : 0 < (v 209 0)
  · rw [if_pos hc_] <;> clear hc_
    all_goals (show ((mo_key_29 301 ((mo_strikesBy (v2 v 203 0 0) 0 0).2) ((mo_strikesBy (v2 v 203 0 0) 0 0).1) (-1) 0 0).2) rk = _)
    all_goals (rw [o_mo_key_29 (by omega), o_mo_strikesBy (by omega), v2_row (by omega)])
  · rw [if_neg hc_] <;> clear hc_
    all_goals (show (v2 v 203 0 0) rk = _)
    all_goals (rw [v2_row (by omega)])

noncomputable def mo_wise_27 : Nat → VS → Int → Int → Int → Int × VS
  | 0, v, g, m, n => (0, v)
  | f + 1, v, g, m, n => (if 20 < n then (g, v) else (if m < (mo_gainOf v n).1 then (mo_wise_27 f ((mo_gainOf v n).2) n ((mo_gainOf v n).1) (n + 1)) else (mo_wise_27 f ((mo_gainOf v n).2) g m (n + 1))))
noncomputable def mo_wise (v : VS)  : Int × VS :=
  (if 0 < (v 209 0) then ((mo_wise_27 42 (v2 v 203 0 0) (-2000000) (-2000000) (-20)).1, (mo_wise_27 42 (v2 v 203 0 0) (-2000000) (-2000000) (-20)).2) else ((-2000000), (v2 v 203 0 0)))
theorem l_mo_wise_27 {X : PX} {d b : Nat} {Q : Option PV → Nat → VS → Prop}  : ∀ (f : Nat) (v : VS) (g : Int) (m : Int) (n : Int) (o4 : Option PV), XI v → (-2000000 ≤ g ∧ g ≤ 20) → (-2000000 ≤ m ∧ m ≤ 4000) → (-20 ≤ n ∧ n ≤ 21) → (CF v) → (21 < n + f) → (∀ qx2 : Option PV, ∀ qx3 : Option PV, ∀ qx4 : Option PV, XI ((mo_wise_27 f v g m n).2) → (-2000000 ≤ (mo_wise_27 f v g m n).1 ∧ (mo_wise_27 f v g m n).1 ≤ 20) → WV X (d + 1 + 1 + 1 + 1 + 1 + 1 + 1) 303 60 [some (.inr (.inr (some 203))), some (.inl ((mo_wise_27 f v g m n).1)), qx2, qx3, qx4] [] b (mo_wise_27 f v g m n).2 Q) → WV X (d + 1 + 1 + 1 + 1 + 1 + 1 + 1) 303 27 [some (.inr (.inr (some 203))), some (.inl g), some (.inl m), some (.inl n), o4] [] b v Q := by
  intro f
  induction f with
  | zero =>
    intro v g m n o4 hX hi_0 hi_1 hi_2 hi_3 hf hK
    exfalso
    omega
  | succ f ih =>
    intro v g m n o4 hX hi_0 hi_1 hi_2 hi_3 hf hK
    rw [mo_wise_27] at hK
    refine r_ex 2 (pc' := 30) (lo' := [some (.inr (.inr (some 203))), some (.inl g), some (.inl m), some (.inl n), o4]) (st' := [.inl 20, .inl n]) rfl ?_
    refine n_ic_gt (pc0 := 30) (len := 3) (t := 60) rfl (by first | assumption | omega | (unfold R32 at *; omega) | (unfold R64 at *; omega) | (simp only [R32, R64] at *; omega)) (by first | assumption | omega | (unfold R32 at *; omega) | (unfold R64 at *; omega) | (simp only [R32, R64] at *; omega)) (fun h_30 => ?_) (fun h_30 => ?_)
    · show WV _ _ _ 60 _ _ _ _ _
      rw [if_pos h_30] at hK
      exact hK _ _ _ hX (by first | assumption | omega | (unfold R32 at *; omega) | (unfold R64 at *; omega) | (simp only [R32, R64] at *; omega))
    · show WV _ _ _ 33 _ _ _ _ _
      rw [if_neg h_30] at hK
      refine r_ex 2 (pc' := 35) (lo' := [some (.inr (.inr (some 203))), some (.inl g), some (.inl m), some (.inl n), o4]) (st' := [.inl n, .inr (.inr (some 203))]) rfl ?_
      have hp_3 : -20 ≤ n ∧ n ≤ 20 := (by first | assumption | omega | (unfold R32 at *; omega) | (unfold R64 at *; omega) | (simp only [R32, R64] at *; omega))
      have hp_4 : CF v := hi_3
      refine r_call (m := 281) (args := [.inr (.inr (some 203)), .inl n]) (n' := 303) (pc' := 38) (lo' := [some (.inr (.inr (some 203))), some (.inl g), some (.inl m), some (.inl n), o4]) (st' := []) (I := .invokevirtual 281) (pc0 := 35) (len := 3) rfl rfl rfl (e_mo_gainOf hX hp_3 hp_4) ?_
      show WV _ _ _ 38 _ [.inl ((mo_gainOf v n).1)] _ (mo_gainOf v n).2 _
      have hX_5 : XI (mo_gainOf v n).2 := i_mo_gainOf (v := v) (n := n) hX hp_3 hp_4
      have hb_6 := n_mo_gainOf (v := v) (n := n) hX hp_3 hp_4
      refine r_ex 3 (pc' := 43) (lo' := [some (.inr (.inr (some 203))), some (.inl g), some (.inl m), some (.inl n), some (.inl ((mo_gainOf v n).1))]) (st' := [.inl m, .inl ((mo_gainOf v n).1)]) rfl ?_
      refine n_ic_gt (pc0 := 43) (len := 3) (t := 49) rfl (by first | assumption | omega | (unfold R32 at *; omega) | (unfold R64 at *; omega) | (simp only [R32, R64] at *; omega)) (by first | assumption | omega | (unfold R32 at *; omega) | (unfold R64 at *; omega) | (simp only [R32, R64] at *; omega)) (fun h_43 => ?_) (fun h_43 => ?_)
      · show WV _ _ _ 49 _ _ _ _ _
        rw [if_pos h_43] at hK
        refine r_ex 6 (pc' := 27) (lo' := [some (.inr (.inr (some 203))), some (.inl n), some (.inl ((mo_gainOf v n).1)), some (.inl (n + 1)), some (.inl ((mo_gainOf v n).1))]) (st' := []) rfl ?_
        refine ih ((mo_gainOf v n).2) n ((mo_gainOf v n).1) (n + 1) _ hX_5 (by first | assumption | omega | (unfold R32 at *; omega) | (unfold R64 at *; omega) | (simp only [R32, R64] at *; omega)) (by first | assumption | omega | (unfold R32 at *; omega) | (unfold R64 at *; omega) | (simp only [R32, R64] at *; omega)) (by first | assumption | omega | (unfold R32 at *; omega) | (unfold R64 at *; omega) | (simp only [R32, R64] at *; omega)) (show CF ((mo_gainOf v n).2) from (show CF ((mo_gainOf v n).2) from CF.of hi_3 (fun k h1 h2 => by rw [o_mo_gainOf (by omega)]))) (by first | assumption | omega | (unfold R32 at *; omega) | (unfold R64 at *; omega) | (simp only [R32, R64] at *; omega)) hK
      · show WV _ _ _ 46 _ _ _ _ _
        rw [if_neg h_43] at hK
        refine r_ex 3 (pc' := 27) (lo' := [some (.inr (.inr (some 203))), some (.inl g), some (.inl m), some (.inl (n + 1)), some (.inl ((mo_gainOf v n).1))]) (st' := []) rfl ?_
        refine ih ((mo_gainOf v n).2) g m (n + 1) _ hX_5 (by first | assumption | omega | (unfold R32 at *; omega) | (unfold R64 at *; omega) | (simp only [R32, R64] at *; omega)) (by first | assumption | omega | (unfold R32 at *; omega) | (unfold R64 at *; omega) | (simp only [R32, R64] at *; omega)) (by first | assumption | omega | (unfold R32 at *; omega) | (unfold R64 at *; omega) | (simp only [R32, R64] at *; omega)) (show CF ((mo_gainOf v n).2) from (show CF ((mo_gainOf v n).2) from CF.of hi_3 (fun k h1 h2 => by rw [o_mo_gainOf (by omega)]))) (by first | assumption | omega | (unfold R32 at *; omega) | (unfold R64 at *; omega) | (simp only [R32, R64] at *; omega)) hK

theorem of_mo_wise_27 {rk : Nat} (hk : (rk < 203 ∨ 203 < rk) ∧ (rk < 219 ∨ 231 < rk)) : ∀ (f : Nat) {v : VS} {g : Int} {m : Int} {n : Int}, (mo_wise_27 f v g m n).2 rk = v rk := by
  intro f
  induction f with
  | zero => intro v g m n; rfl
  | succ f ih =>
    intro v g m n
    rw [mo_wise_27]
    by_cases hc_ : 20 < n
    · rw [if_pos hc_] <;> clear hc_
      all_goals (show v rk = _)
      all_goals rfl
    · rw [if_neg hc_] <;> clear hc_
      by_cases hc_ : m < (mo_gainOf v n).1
      · rw [if_pos hc_] <;> clear hc_
        all_goals (rw [ih, o_mo_gainOf (by omega)])
      · rw [if_neg hc_] <;> clear hc_
        all_goals (rw [ih, o_mo_gainOf (by omega)])
theorem o_mo_wise_27 {rk : Nat} {f : Nat} {v : VS} {g : Int} {m : Int} {n : Int} (hk : (rk < 203 ∨ 203 < rk) ∧ (rk < 219 ∨ 231 < rk)) : (mo_wise_27 f v g m n).2 rk = v rk := of_mo_wise_27 hk f

theorem w_mo_wise {X : PX} {d b : Nat} {v : VS}  (hX : XI v) (hp_a : CF v) {Q : Option PV → Nat → VS → Prop} (hQ : XI (mo_wise v).2 → Q (some (.inl (mo_wise v).1)) b (mo_wise v).2) : WV X (d + 1 + 1 + 1 + 1 + 1 + 1 + 1) 303 0 [some (.inr (.inr (some 203))), none, none, none, none] [] b v Q := by
  rw [mo_wise] at hQ
  refine r_ex 2 (pc' := 2) (lo' := [some (.inr (.inr (some 203))), none, none, none, none]) (st' := [.inl 0, .inr (.inr (some 203))]) rfl ?_
  refine r_puti2 (j := 0) (pc' := 5) (pc0 := 2) (len := 3) rfl (s_203 _) rfl rfl rfl (Or.inl rfl) rfl rfl ?_
  have hX_1 : XI (v2 v 203 0 0) := XI.put hX trivial
  refine r_ex 1 (pc' := 6) (lo' := [some (.inr (.inr (some 203))), none, none, none, none]) (st' := [.inr (.inr (some 203))]) rfl ?_
  have hb_2 : 0 ≤ (v 209 0) ∧ (v 209 0) ≤ 2001 := hX_1 209 0
  refine r_callb (P := 0 < (v 209 0)) (m := 245) (args := [.inr (.inr (some 203))]) (n' := 303) (pc' := 9) (lo' := [some (.inr (.inr (some 203))), none, none, none, none]) (st' := []) (I := .invokevirtual 245) (pc0 := 6) (len := 3) rfl rfl rfl (e_mo_isBay hX_1) (fun h_6 => ?_) (fun h_6 => ?_)
  · show WV _ _ _ 9 _ _ _ _ _
    rw [if_pos h_6] at hQ
    refine r_ex 7 (pc' := 27) (lo' := [some (.inr (.inr (some 203))), some (.inl (-2000000)), some (.inl (-2000000)), some (.inl (-20)), none]) (st' := []) rfl ?_
    refine l_mo_wise_27 42 (v2 v 203 0 0) (-2000000) (-2000000) (-20) _ hX_1 (by first | assumption | omega | (unfold R32 at *; omega) | (unfold R64 at *; omega) | (simp only [R32, R64] at *; omega)) (by first | assumption | omega | (unfold R32 at *; omega) | (unfold R64 at *; omega) | (simp only [R32, R64] at *; omega)) (by first | assumption | omega | (unfold R32 at *; omega) | (unfold R64 at *; omega) | (simp only [R32, R64] at *; omega)) (show CF (v2 v 203 0 0) from (show CF (v2 v 203 0 0) from CF.of hp_a (fun k h1 h2 => by rw [v2_row (by omega)]))) (by first | assumption | omega | (unfold R32 at *; omega) | (unfold R64 at *; omega) | (simp only [R32, R64] at *; omega)) (fun o2_7 o3_7 o4_7 hX_7 hv_7_0 => ?_)
    show WV _ _ _ 60 _ _ _ _ _
    refine r_ex 1 (pc' := 61) (lo' := [some (.inr (.inr (some 203))), some (.inl ((mo_wise_27 42 (v2 v 203 0 0) (-2000000) (-2000000) (-20)).1)), o2_7, o3_7, o4_7]) (st' := [.inl ((mo_wise_27 42 (v2 v 203 0 0) (-2000000) (-2000000) (-20)).1)]) rfl ?_
    refine r_ret (rr := some (.inl ((mo_wise_27 42 (v2 v 203 0 0) (-2000000) (-2000000) (-20)).1))) (I := .ireturn) (pc0 := 61) (len := 1) rfl rfl ?_
    exact hQ hX_7 
  · show WV _ _ _ 9 _ _ _ _ _
    rw [if_neg h_6] at hQ
    refine r_ex 2 (pc' := 15) (lo' := [some (.inr (.inr (some 203))), none, none, none, none]) (st' := [.inl (-2000000)]) rfl ?_
    refine r_ret (rr := some (.inl (-2000000))) (I := .ireturn) (pc0 := 15) (len := 1) rfl rfl ?_
    exact hQ hX_1 

theorem e_mo_wise {X : PX} {d b : Nat} {v : VS}  (hX : XI v) (hp_a : CF v) : EvV X (d + 1 + 1 + 1 + 1 + 1 + 1 + 1) 303 [.inr (.inr (some 203))] b v (some (.inl (mo_wise v).1)) b ((mo_wise v).2) := EvV.of (w_mo_wise hX hp_a (fun _ => ⟨rfl, rfl, rfl⟩))

theorem i_mo_wise {v : VS}  (hX : XI v) (hp_a : CF v) : XI ((mo_wise v).2) := by
  have q : WV (0, fun _ => 0, none) (0 + 1 + 1 + 1 + 1 + 1 + 1 + 1) 303 0 [some (.inr (.inr (some 203))), none, none, none, none] [] 1 v (fun _ _ _ => XI ((mo_wise v).2)) := w_mo_wise (X := (0, fun _ => 0, none)) (d := 0) (b := 1) hX hp_a (fun q => q)
  obtain ⟨_, _, _, _, _, _, _, q⟩ := q
  exact q

theorem o_mo_wise {rk : Nat} {v : VS}  (hk : (rk < 203 ∨ 203 < rk) ∧ (rk < 219 ∨ 231 < rk)) : (mo_wise v ).2 rk = v rk := by
  unfold mo_wise
  by_cases hc_ : 0 < (v 209 0)
  · rw [if_pos hc_] <;> clear hc_
    all_goals (show ((mo_wise_27 42 (v2 v 203 0 0) (-2000000) (-2000000) (-20)).2) rk = _)
    all_goals (rw [o_mo_wise_27 (by omega), v2_row (by omega)])
  · rw [if_neg hc_] <;> clear hc_
    all_goals (show (v2 v 203 0 0) rk = _)
    all_goals (rw [v2_row (by omega)])

noncomputable def mo_firstOf_2 : Nat → VS → Int → Int → Int → Int
  | 0, v, c, h, s => 0
  | f + 1, v, c, h, s => (if s < (v 203 37) then (if (mo_at v s 1) = c then (if (mo_at v s 2) = h then (mo_at v s 0) else (mo_firstOf_2 f v c h (s + 1))) else (mo_firstOf_2 f v c h (s + 1))) else (-1))
noncomputable def mo_firstOf (v : VS) (c : Int) (h : Int) : Int :=
  (mo_firstOf_2 301 v c h 0)
theorem l_mo_firstOf_2 {X : PX} {d b : Nat} {Q : Option PV → Nat → VS → Prop}  : ∀ (f : Nat) (v : VS) (c : Int) (h : Int) (s : Int), XI v → (0 ≤ s ∧ s ≤ 300) → (R32 c) → (R32 h) → (300 < s + f) → ((-1 ≤ (mo_firstOf_2 f v c h s) ∧ (mo_firstOf_2 f v c h s) ≤ 3699) → Q (some (.inl (mo_firstOf_2 f v c h s))) b v) → WV X (d + 1) 305 2 [some (.inr (.inr (some 203))), some (.inl c), some (.inl h), some (.inl s)] [] b v Q := by
  intro f
  induction f with
  | zero =>
    intro v c h s hX hi_0 hi_1 hi_2 hf hQ
    exfalso
    omega
  | succ f ih =>
    intro v c h s hX hi_0 hi_1 hi_2 hf hQ
    rw [mo_firstOf_2] at hQ
    refine r_ex 3 (pc' := 7) (lo' := [some (.inr (.inr (some 203))), some (.inl c), some (.inl h), some (.inl s)]) (st' := [.inl (v 203 37), .inl s]) rfl ?_
    have hb_1 : 0 ≤ (v 203 37) ∧ (v 203 37) ≤ 300 := hX 203 37
    refine n_ic_ge (pc0 := 7) (len := 3) (t := 43) rfl (by first | assumption | omega | (unfold R32 at *; omega) | (unfold R64 at *; omega) | (simp only [R32, R64] at *; omega)) (by first | assumption | omega | (unfold R32 at *; omega) | (unfold R64 at *; omega) | (simp only [R32, R64] at *; omega)) (fun h_7 => ?_) (fun h_7 => ?_)
    · show WV _ _ _ 43 _ _ _ _ _
      rw [if_neg h_7] at hQ
      refine r_ex 1 (pc' := 44) (lo' := [some (.inr (.inr (some 203))), some (.inl c), some (.inl h), some (.inl s)]) (st' := [.inl (-1)]) rfl ?_
      refine r_ret (rr := some (.inl (-1))) (I := .ireturn) (pc0 := 44) (len := 1) rfl rfl ?_
      exact hQ (by first | assumption | omega | (unfold R32 at *; omega) | (unfold R64 at *; omega) | (simp only [R32, R64] at *; omega))
    · show WV _ _ _ 10 _ _ _ _ _
      rw [if_pos h_7] at hQ
      refine r_ex 3 (pc' := 13) (lo' := [some (.inr (.inr (some 203))), some (.inl c), some (.inl h), some (.inl s)]) (st' := [.inl 1, .inl s, .inr (.inr (some 203))]) rfl ?_
      have hp_2 : 0 ≤ s ∧ s < 300 := (by first | assumption | omega | (unfold R32 at *; omega) | (unfold R64 at *; omega) | (simp only [R32, R64] at *; omega))
      have hp_3 : 0 ≤ (1 : Int) ∧ (1 : Int) < 5 := (by first | assumption | omega | (unfold R32 at *; omega) | (unfold R64 at *; omega) | (simp only [R32, R64] at *; omega))
      refine r_call (m := 254) (args := [.inr (.inr (some 203)), .inl s, .inl 1]) (n' := 305) (pc' := 16) (lo' := [some (.inr (.inr (some 203))), some (.inl c), some (.inl h), some (.inl s)]) (st' := []) (I := .invokevirtual 254) (pc0 := 13) (len := 3) rfl rfl rfl (e_mo_at hX hp_2 hp_3) ?_
      show WV _ _ _ 16 _ [.inl (mo_at v s 1)] _ _ _
      have hb_4 := n_mo_at (v := v) (i := s) (w := 1) hX hp_2 hp_3
      refine r_ex 1 (pc' := 17) (lo' := [some (.inr (.inr (some 203))), some (.inl c), some (.inl h), some (.inl s)]) (st' := [.inl c, .inl (mo_at v s 1)]) rfl ?_
      refine n_ic_ne (pc0 := 17) (len := 3) (t := 37) rfl (by first | assumption | omega | (unfold R32 at *; omega) | (unfold R64 at *; omega) | (simp only [R32, R64] at *; omega)) (by first | assumption | omega | (unfold R32 at *; omega) | (unfold R64 at *; omega) | (simp only [R32, R64] at *; omega)) (fun h_17 => ?_) (fun h_17 => ?_)
      · show WV _ _ _ 37 _ _ _ _ _
        rw [if_neg h_17] at hQ
        refine r_ex 2 (pc' := 2) (lo' := [some (.inr (.inr (some 203))), some (.inl c), some (.inl h), some (.inl (s + 1))]) (st' := []) rfl ?_
        refine ih v c h (s + 1)  hX (by first | assumption | omega | (unfold R32 at *; omega) | (unfold R64 at *; omega) | (simp only [R32, R64] at *; omega)) (by first | assumption | omega | (unfold R32 at *; omega) | (unfold R64 at *; omega) | (simp only [R32, R64] at *; omega)) (by first | assumption | omega | (unfold R32 at *; omega) | (unfold R64 at *; omega) | (simp only [R32, R64] at *; omega)) (by first | assumption | omega | (unfold R32 at *; omega) | (unfold R64 at *; omega) | (simp only [R32, R64] at *; omega)) hQ
      · show WV _ _ _ 20 _ _ _ _ _
        rw [if_pos h_17] at hQ
        refine r_ex 3 (pc' := 23) (lo' := [some (.inr (.inr (some 203))), some (.inl c), some (.inl h), some (.inl s)]) (st' := [.inl 2, .inl s, .inr (.inr (some 203))]) rfl ?_
        have hp_5 : 0 ≤ s ∧ s < 300 := (by first | assumption | omega | (unfold R32 at *; omega) | (unfold R64 at *; omega) | (simp only [R32, R64] at *; omega))
        have hp_6 : 0 ≤ (2 : Int) ∧ (2 : Int) < 5 := (by first | assumption | omega | (unfold R32 at *; omega) | (unfold R64 at *; omega) | (simp only [R32, R64] at *; omega))
        refine r_call (m := 254) (args := [.inr (.inr (some 203)), .inl s, .inl 2]) (n' := 305) (pc' := 26) (lo' := [some (.inr (.inr (some 203))), some (.inl c), some (.inl h), some (.inl s)]) (st' := []) (I := .invokevirtual 254) (pc0 := 23) (len := 3) rfl rfl rfl (e_mo_at hX hp_5 hp_6) ?_
        show WV _ _ _ 26 _ [.inl (mo_at v s 2)] _ _ _
        have hb_7 := n_mo_at (v := v) (i := s) (w := 2) hX hp_5 hp_6
        refine r_ex 1 (pc' := 27) (lo' := [some (.inr (.inr (some 203))), some (.inl c), some (.inl h), some (.inl s)]) (st' := [.inl h, .inl (mo_at v s 2)]) rfl ?_
        refine n_ic_ne (pc0 := 27) (len := 3) (t := 37) rfl (by first | assumption | omega | (unfold R32 at *; omega) | (unfold R64 at *; omega) | (simp only [R32, R64] at *; omega)) (by first | assumption | omega | (unfold R32 at *; omega) | (unfold R64 at *; omega) | (simp only [R32, R64] at *; omega)) (fun h_27 => ?_) (fun h_27 => ?_)
        · show WV _ _ _ 37 _ _ _ _ _
          rw [if_neg h_27] at hQ
          refine r_ex 2 (pc' := 2) (lo' := [some (.inr (.inr (some 203))), some (.inl c), some (.inl h), some (.inl (s + 1))]) (st' := []) rfl ?_
          refine ih v c h (s + 1)  hX (by first | assumption | omega | (unfold R32 at *; omega) | (unfold R64 at *; omega) | (simp only [R32, R64] at *; omega)) (by first | assumption | omega | (unfold R32 at *; omega) | (unfold R64 at *; omega) | (simp only [R32, R64] at *; omega)) (by first | assumption | omega | (unfold R32 at *; omega) | (unfold R64 at *; omega) | (simp only [R32, R64] at *; omega)) (by first | assumption | omega | (unfold R32 at *; omega) | (unfold R64 at *; omega) | (simp only [R32, R64] at *; omega)) hQ
        · show WV _ _ _ 30 _ _ _ _ _
          rw [if_pos h_27] at hQ
          refine r_ex 3 (pc' := 33) (lo' := [some (.inr (.inr (some 203))), some (.inl c), some (.inl h), some (.inl s)]) (st' := [.inl 0, .inl s, .inr (.inr (some 203))]) rfl ?_
          have hp_8 : 0 ≤ s ∧ s < 300 := (by first | assumption | omega | (unfold R32 at *; omega) | (unfold R64 at *; omega) | (simp only [R32, R64] at *; omega))
          have hp_9 : 0 ≤ (0 : Int) ∧ (0 : Int) < 5 := (by first | assumption | omega | (unfold R32 at *; omega) | (unfold R64 at *; omega) | (simp only [R32, R64] at *; omega))
          refine r_call (m := 254) (args := [.inr (.inr (some 203)), .inl s, .inl 0]) (n' := 305) (pc' := 36) (lo' := [some (.inr (.inr (some 203))), some (.inl c), some (.inl h), some (.inl s)]) (st' := []) (I := .invokevirtual 254) (pc0 := 33) (len := 3) rfl rfl rfl (e_mo_at hX hp_8 hp_9) ?_
          show WV _ _ _ 36 _ [.inl (mo_at v s 0)] _ _ _
          have hb_10 := n_mo_at (v := v) (i := s) (w := 0) hX hp_8 hp_9
          refine r_ret (rr := some (.inl (mo_at v s 0))) (I := .ireturn) (pc0 := 36) (len := 1) rfl rfl ?_
          exact hQ (by first | assumption | omega | (unfold R32 at *; omega) | (unfold R64 at *; omega) | (simp only [R32, R64] at *; omega))

theorem w_mo_firstOf {X : PX} {d b : Nat} {v : VS} {c : Int} {h : Int} (hX : XI v) (hp_a : R32 c) (hp_b : R32 h) {Q : Option PV → Nat → VS → Prop} (hQ : (-1 ≤ (mo_firstOf v c h) ∧ (mo_firstOf v c h) ≤ 3699) → Q (some (.inl (mo_firstOf v c h))) b v) : WV X (d + 1) 305 0 [some (.inr (.inr (some 203))), some (.inl c), some (.inl h), none] [] b v Q := by
  rw [mo_firstOf] at hQ
  refine r_ex 2 (pc' := 2) (lo' := [some (.inr (.inr (some 203))), some (.inl c), some (.inl h), some (.inl 0)]) (st' := []) rfl ?_
  exact l_mo_firstOf_2 301 v c h 0  hX (by first | assumption | omega | (unfold R32 at *; omega) | (unfold R64 at *; omega) | (simp only [R32, R64] at *; omega)) (by first | assumption | omega | (unfold R32 at *; omega) | (unfold R64 at *; omega) | (simp only [R32, R64] at *; omega)) (by first | assumption | omega | (unfold R32 at *; omega) | (unfold R64 at *; omega) | (simp only [R32, R64] at *; omega)) (by first | assumption | omega | (unfold R32 at *; omega) | (unfold R64 at *; omega) | (simp only [R32, R64] at *; omega)) hQ

theorem e_mo_firstOf {X : PX} {d b : Nat} {v : VS} {c : Int} {h : Int} (hX : XI v) (hp_a : R32 c) (hp_b : R32 h) : EvV X (d + 1) 305 [.inr (.inr (some 203)), .inl c, .inl h] b v (some (.inl (mo_firstOf v c h))) b v := EvV.of (w_mo_firstOf hX hp_a hp_b (fun _ => ⟨rfl, rfl, rfl⟩))

theorem n_mo_firstOf {v : VS} {c : Int} {h : Int} (hX : XI v) (hp_a : R32 c) (hp_b : R32 h) : -1 ≤ (mo_firstOf v c h) ∧ (mo_firstOf v c h) ≤ 3699 := by
  have q : WV (0, fun _ => 0, none) (0 + 1) 305 0 [some (.inr (.inr (some 203))), some (.inl c), some (.inl h), none] [] 1 v (fun _ _ _ => -1 ≤ (mo_firstOf v c h) ∧ (mo_firstOf v c h) ≤ 3699) := w_mo_firstOf (X := (0, fun _ => 0, none)) (d := 0) (b := 1) hX hp_a hp_b (fun q => q)
  obtain ⟨_, _, _, _, _, _, _, q⟩ := q
  exact q

noncomputable def mo_behind_55 : Nat → VS → Int → Int → Int → Int → Int → Int → Int × Int
  | 0, v, c, o, w, a, n, h => (0, 0)
  | f + 1, v, c, o, w, a, n, h => (if 99 < h then (a, n) else (if (mo_firstOf v c h) = (-1) then (mo_behind_55 f v c o w a n (h + 1)) else (if (mo_firstOf v o h) = (-1) then (mo_behind_55 f v c o w a n (h + 1)) else (mo_behind_55 f v c o w (a + ((mo_firstOf v c h) - (mo_firstOf v o h))) (n + 1) (h + 1)))))
noncomputable def mo_behind (v : VS) (c : Int) (o : Int) (w : Int) : Int × VS :=
  (if 0 ≤ c ∧ c < (v 210 0) then (if 0 ≤ o ∧ o < (v 210 0) then (if c = o then ((-2000000), (v2 v 203 0 0)) else (if (0 : Int) ≤ w ∧ w ≤ (1 : Int) then (if w = 0 then ((mo_behind_55 101 (mo_told (v2 v 203 0 0)) c o w 0 0 1).1, (mo_told (v2 v 203 0 0))) else ((mo_behind_55 101 (mo_told (v2 v 203 0 0)) c o w 0 0 1).2, (mo_told (v2 v 203 0 0)))) else ((-2000000), (v2 v 203 0 0)))) else ((-2000000), (v2 v 203 0 0))) else ((-2000000), (v2 v 203 0 0)))
theorem l_mo_behind_55 {X : PX} {d b : Nat} {Q : Option PV → Nat → VS → Prop}  : ∀ (f : Nat) (v : VS) (c : Int) (o : Int) (w : Int) (a : Int) (n : Int) (h : Int) (o7 : Option PV) (o8 : Option PV), XI v → (R32 c) → (R32 o) → (R32 w) → (-3700 * h ≤ a ∧ a ≤ 3700 * h) → (0 ≤ n ∧ n ≤ h) → (1 ≤ h ∧ h ≤ 100) → (100 < h + f) → (∀ qx6 : Option PV, ∀ qx7 : Option PV, ∀ qx8 : Option PV, (R32 (mo_behind_55 f v c o w a n h).1) → (0 ≤ (mo_behind_55 f v c o w a n h).2 ∧ (mo_behind_55 f v c o w a n h).2 ≤ 100) → WV X (d + 1 + 1 + 1 + 1 + 1 + 1) 304 114 [some (.inr (.inr (some 203))), some (.inl c), some (.inl o), some (.inl w), some (.inl ((mo_behind_55 f v c o w a n h).1)), some (.inl ((mo_behind_55 f v c o w a n h).2)), qx6, qx7, qx8] [] b v Q) → WV X (d + 1 + 1 + 1 + 1 + 1 + 1) 304 55 [some (.inr (.inr (some 203))), some (.inl c), some (.inl o), some (.inl w), some (.inl a), some (.inl n), some (.inl h), o7, o8] [] b v Q := by
  intro f
  induction f with
  | zero =>
    intro v c o w a n h o7 o8 hX hi_0 hi_1 hi_2 hi_3 hi_4 hi_5 hf hK
    exfalso
    omega
  | succ f ih =>
    intro v c o w a n h o7 o8 hX hi_0 hi_1 hi_2 hi_3 hi_4 hi_5 hf hK
    rw [mo_behind_55] at hK
    refine r_ex 2 (pc' := 59) (lo' := [some (.inr (.inr (some 203))), some (.inl c), some (.inl o), some (.inl w), some (.inl a), some (.inl n), some (.inl h), o7, o8]) (st' := [.inl 99, .inl h]) rfl ?_
    refine n_ic_gt (pc0 := 59) (len := 3) (t := 114) rfl (by first | assumption | omega | (unfold R32 at *; omega) | (unfold R64 at *; omega) | (simp only [R32, R64] at *; omega)) (by first | assumption | omega | (unfold R32 at *; omega) | (unfold R64 at *; omega) | (simp only [R32, R64] at *; omega)) (fun h_59 => ?_) (fun h_59 => ?_)
    · show WV _ _ _ 114 _ _ _ _ _
      rw [if_pos h_59] at hK
      exact hK _ _ _  (by first | assumption | omega | (unfold R32 at *; omega) | (unfold R64 at *; omega) | (simp only [R32, R64] at *; omega)) (by first | assumption | omega | (unfold R32 at *; omega) | (unfold R64 at *; omega) | (simp only [R32, R64] at *; omega))
    · show WV _ _ _ 62 _ _ _ _ _
      rw [if_neg h_59] at hK
      refine r_ex 3 (pc' := 66) (lo' := [some (.inr (.inr (some 203))), some (.inl c), some (.inl o), some (.inl w), some (.inl a), some (.inl n), some (.inl h), o7, o8]) (st' := [.inl h, .inl c, .inr (.inr (some 203))]) rfl ?_
      have hp_10 : R32 c := (by first | assumption | omega | (unfold R32 at *; omega) | (unfold R64 at *; omega) | (simp only [R32, R64] at *; omega))
      have hp_11 : R32 h := (by first | assumption | omega | (unfold R32 at *; omega) | (unfold R64 at *; omega) | (simp only [R32, R64] at *; omega))
      refine r_call (m := 305) (args := [.inr (.inr (some 203)), .inl c, .inl h]) (n' := 304) (pc' := 69) (lo' := [some (.inr (.inr (some 203))), some (.inl c), some (.inl o), some (.inl w), some (.inl a), some (.inl n), some (.inl h), o7, o8]) (st' := []) (I := .invokevirtual 305) (pc0 := 66) (len := 3) rfl rfl rfl (e_mo_firstOf hX hp_10 hp_11) ?_
      show WV _ _ _ 69 _ [.inl (mo_firstOf v c h)] _ _ _
      have hb_12 := n_mo_firstOf (v := v) (c := c) (h := h) hX hp_10 hp_11
      refine r_ex 4 (pc' := 75) (lo' := [some (.inr (.inr (some 203))), some (.inl c), some (.inl o), some (.inl w), some (.inl a), some (.inl n), some (.inl h), some (.inl (mo_firstOf v c h)), o8]) (st' := [.inl h, .inl o, .inr (.inr (some 203))]) rfl ?_
      have hp_13 : R32 o := (by first | assumption | omega | (unfold R32 at *; omega) | (unfold R64 at *; omega) | (simp only [R32, R64] at *; omega))
      have hp_14 : R32 h := (by first | assumption | omega | (unfold R32 at *; omega) | (unfold R64 at *; omega) | (simp only [R32, R64] at *; omega))
      refine r_call (m := 305) (args := [.inr (.inr (some 203)), .inl o, .inl h]) (n' := 304) (pc' := 78) (lo' := [some (.inr (.inr (some 203))), some (.inl c), some (.inl o), some (.inl w), some (.inl a), some (.inl n), some (.inl h), some (.inl (mo_firstOf v c h)), o8]) (st' := []) (I := .invokevirtual 305) (pc0 := 75) (len := 3) rfl rfl rfl (e_mo_firstOf hX hp_13 hp_14) ?_
      show WV _ _ _ 78 _ [.inl (mo_firstOf v o h)] _ _ _
      have hb_15 := n_mo_firstOf (v := v) (c := o) (h := h) hX hp_13 hp_14
      refine r_ex 3 (pc' := 83) (lo' := [some (.inr (.inr (some 203))), some (.inl c), some (.inl o), some (.inl w), some (.inl a), some (.inl n), some (.inl h), some (.inl (mo_firstOf v c h)), some (.inl (mo_firstOf v o h))]) (st' := [.inl (-1), .inl (mo_firstOf v c h)]) rfl ?_
      refine n_ic_eq (pc0 := 83) (len := 3) (t := 108) rfl (by first | assumption | omega | (unfold R32 at *; omega) | (unfold R64 at *; omega) | (simp only [R32, R64] at *; omega)) (by first | assumption | omega | (unfold R32 at *; omega) | (unfold R64 at *; omega) | (simp only [R32, R64] at *; omega)) (fun h_83 => ?_) (fun h_83 => ?_)
      · show WV _ _ _ 108 _ _ _ _ _
        rw [if_pos h_83] at hK
        refine r_ex 2 (pc' := 55) (lo' := [some (.inr (.inr (some 203))), some (.inl c), some (.inl o), some (.inl w), some (.inl a), some (.inl n), some (.inl (h + 1)), some (.inl (mo_firstOf v c h)), some (.inl (mo_firstOf v o h))]) (st' := []) rfl ?_
        refine ih v c o w a n (h + 1) _ _ hX (by first | assumption | omega | (unfold R32 at *; omega) | (unfold R64 at *; omega) | (simp only [R32, R64] at *; omega)) (by first | assumption | omega | (unfold R32 at *; omega) | (unfold R64 at *; omega) | (simp only [R32, R64] at *; omega)) (by first | assumption | omega | (unfold R32 at *; omega) | (unfold R64 at *; omega) | (simp only [R32, R64] at *; omega)) (by first | assumption | omega | (unfold R32 at *; omega) | (unfold R64 at *; omega) | (simp only [R32, R64] at *; omega)) (by first | assumption | omega | (unfold R32 at *; omega) | (unfold R64 at *; omega) | (simp only [R32, R64] at *; omega)) (by first | assumption | omega | (unfold R32 at *; omega) | (unfold R64 at *; omega) | (simp only [R32, R64] at *; omega)) (by first | assumption | omega | (unfold R32 at *; omega) | (unfold R64 at *; omega) | (simp only [R32, R64] at *; omega)) hK
      · show WV _ _ _ 86 _ _ _ _ _
        rw [if_neg h_83] at hK
        refine r_ex 2 (pc' := 89) (lo' := [some (.inr (.inr (some 203))), some (.inl c), some (.inl o), some (.inl w), some (.inl a), some (.inl n), some (.inl h), some (.inl (mo_firstOf v c h)), some (.inl (mo_firstOf v o h))]) (st' := [.inl (-1), .inl (mo_firstOf v o h)]) rfl ?_
        refine n_ic_ne (pc0 := 89) (len := 3) (t := 95) rfl (by first | assumption | omega | (unfold R32 at *; omega) | (unfold R64 at *; omega) | (simp only [R32, R64] at *; omega)) (by first | assumption | omega | (unfold R32 at *; omega) | (unfold R64 at *; omega) | (simp only [R32, R64] at *; omega)) (fun h_89 => ?_) (fun h_89 => ?_)
        · show WV _ _ _ 95 _ _ _ _ _
          rw [if_neg h_89] at hK
          refine r_ex 9 (pc' := 55) (lo' := [some (.inr (.inr (some 203))), some (.inl c), some (.inl o), some (.inl w), some (.inl (a + ((mo_firstOf v c h) - (mo_firstOf v o h)))), some (.inl (n + 1)), some (.inl (h + 1)), some (.inl (mo_firstOf v c h)), some (.inl (mo_firstOf v o h))]) (st' := []) rfl ?_
          refine ih v c o w (a + ((mo_firstOf v c h) - (mo_firstOf v o h))) (n + 1) (h + 1) _ _ hX (by first | assumption | omega | (unfold R32 at *; omega) | (unfold R64 at *; omega) | (simp only [R32, R64] at *; omega)) (by first | assumption | omega | (unfold R32 at *; omega) | (unfold R64 at *; omega) | (simp only [R32, R64] at *; omega)) (by first | assumption | omega | (unfold R32 at *; omega) | (unfold R64 at *; omega) | (simp only [R32, R64] at *; omega)) (by first | assumption | omega | (unfold R32 at *; omega) | (unfold R64 at *; omega) | (simp only [R32, R64] at *; omega)) (by first | assumption | omega | (unfold R32 at *; omega) | (unfold R64 at *; omega) | (simp only [R32, R64] at *; omega)) (by first | assumption | omega | (unfold R32 at *; omega) | (unfold R64 at *; omega) | (simp only [R32, R64] at *; omega)) (by first | assumption | omega | (unfold R32 at *; omega) | (unfold R64 at *; omega) | (simp only [R32, R64] at *; omega)) hK
        · show WV _ _ _ 92 _ _ _ _ _
          rw [if_pos h_89] at hK
          refine r_ex 3 (pc' := 55) (lo' := [some (.inr (.inr (some 203))), some (.inl c), some (.inl o), some (.inl w), some (.inl a), some (.inl n), some (.inl (h + 1)), some (.inl (mo_firstOf v c h)), some (.inl (mo_firstOf v o h))]) (st' := []) rfl ?_
          refine ih v c o w a n (h + 1) _ _ hX (by first | assumption | omega | (unfold R32 at *; omega) | (unfold R64 at *; omega) | (simp only [R32, R64] at *; omega)) (by first | assumption | omega | (unfold R32 at *; omega) | (unfold R64 at *; omega) | (simp only [R32, R64] at *; omega)) (by first | assumption | omega | (unfold R32 at *; omega) | (unfold R64 at *; omega) | (simp only [R32, R64] at *; omega)) (by first | assumption | omega | (unfold R32 at *; omega) | (unfold R64 at *; omega) | (simp only [R32, R64] at *; omega)) (by first | assumption | omega | (unfold R32 at *; omega) | (unfold R64 at *; omega) | (simp only [R32, R64] at *; omega)) (by first | assumption | omega | (unfold R32 at *; omega) | (unfold R64 at *; omega) | (simp only [R32, R64] at *; omega)) (by first | assumption | omega | (unfold R32 at *; omega) | (unfold R64 at *; omega) | (simp only [R32, R64] at *; omega)) hK

theorem w_mo_behind {X : PX} {d b : Nat} {v : VS} {c : Int} {o : Int} {w : Int} (hX : XI v) (hp_a : R32 c) (hp_b : R32 o) (hp_c : R32 w) (hp_d : CF v) {Q : Option PV → Nat → VS → Prop} (hQ : XI (mo_behind v c o w).2 → Q (some (.inl (mo_behind v c o w).1)) b (mo_behind v c o w).2) : WV X (d + 1 + 1 + 1 + 1 + 1 + 1) 304 0 [some (.inr (.inr (some 203))), some (.inl c), some (.inl o), some (.inl w), none, none, none, none, none] [] b v Q := by
  rw [mo_behind] at hQ
  refine r_ex 2 (pc' := 2) (lo' := [some (.inr (.inr (some 203))), some (.inl c), some (.inl o), some (.inl w), none, none, none, none, none]) (st' := [.inl 0, .inr (.inr (some 203))]) rfl ?_
  refine r_puti2 (j := 0) (pc' := 5) (pc0 := 2) (len := 3) rfl (s_203 _) rfl rfl rfl (Or.inl rfl) rfl rfl ?_
  have hX_1 : XI (v2 v 203 0 0) := XI.put hX trivial
  refine r_ex 2 (pc' := 7) (lo' := [some (.inr (.inr (some 203))), some (.inl c), some (.inl o), some (.inl w), none, none, none, none, none]) (st' := [.inl c, .inr (.inr (some 203))]) rfl ?_
  refine n_i2l (pc' := 8) (pc0 := 7) (len := 1) rfl (by first | assumption | omega | (unfold R32 at *; omega) | (unfold R64 at *; omega) | (simp only [R32, R64] at *; omega)) rfl ?_
  have hp_2 : R64 c := (by first | assumption | omega | (unfold R32 at *; omega) | (unfold R64 at *; omega) | (simp only [R32, R64] at *; omega))
  have hb_3 : 0 ≤ (v 210 0) ∧ (v 210 0) ≤ 9 := hX_1 210 0
  refine r_callb (P := 0 ≤ c ∧ c < (v 210 0)) (m := 236) (args := [.inr (.inr (some 203)), .inr (.inl c)]) (n' := 304) (pc' := 11) (lo' := [some (.inr (.inr (some 203))), some (.inl c), some (.inl o), some (.inl w), none, none, none, none, none]) (st' := []) (I := .invokevirtual 236) (pc0 := 8) (len := 3) rfl rfl rfl (e_mo_isChurch hX_1 hp_2) (fun h_8 => ?_) (fun h_8 => ?_)
  · show WV _ _ _ 11 _ _ _ _ _
    rw [if_pos h_8] at hQ
    refine r_ex 3 (pc' := 16) (lo' := [some (.inr (.inr (some 203))), some (.inl c), some (.inl o), some (.inl w), none, none, none, none, none]) (st' := [.inl o, .inr (.inr (some 203))]) rfl ?_
    refine n_i2l (pc' := 17) (pc0 := 16) (len := 1) rfl (by first | assumption | omega | (unfold R32 at *; omega) | (unfold R64 at *; omega) | (simp only [R32, R64] at *; omega)) rfl ?_
    have hp_4 : R64 o := (by first | assumption | omega | (unfold R32 at *; omega) | (unfold R64 at *; omega) | (simp only [R32, R64] at *; omega))
    refine r_callb (P := 0 ≤ o ∧ o < (v 210 0)) (m := 236) (args := [.inr (.inr (some 203)), .inr (.inl o)]) (n' := 304) (pc' := 20) (lo' := [some (.inr (.inr (some 203))), some (.inl c), some (.inl o), some (.inl w), none, none, none, none, none]) (st' := []) (I := .invokevirtual 236) (pc0 := 17) (len := 3) rfl rfl rfl (e_mo_isChurch hX_1 hp_4) (fun h_17 => ?_) (fun h_17 => ?_)
    · show WV _ _ _ 20 _ _ _ _ _
      rw [if_pos h_17] at hQ
      refine r_ex 3 (pc' := 25) (lo' := [some (.inr (.inr (some 203))), some (.inl c), some (.inl o), some (.inl w), none, none, none, none, none]) (st' := [.inl o, .inl c]) rfl ?_
      refine n_ic_eq (pc0 := 25) (len := 3) (t := 38) rfl (by first | assumption | omega | (unfold R32 at *; omega) | (unfold R64 at *; omega) | (simp only [R32, R64] at *; omega)) (by first | assumption | omega | (unfold R32 at *; omega) | (unfold R64 at *; omega) | (simp only [R32, R64] at *; omega)) (fun h_25 => ?_) (fun h_25 => ?_)
      · show WV _ _ _ 38 _ _ _ _ _
        rw [if_pos h_25] at hQ
        refine r_ex 1 (pc' := 41) (lo' := [some (.inr (.inr (some 203))), some (.inl c), some (.inl o), some (.inl w), none, none, none, none, none]) (st' := [.inl (-2000000)]) rfl ?_
        refine r_ret (rr := some (.inl (-2000000))) (I := .ireturn) (pc0 := 41) (len := 1) rfl rfl ?_
        exact hQ hX_1 
      · show WV _ _ _ 28 _ _ _ _ _
        rw [if_neg h_25] at hQ
        refine r_ex 1 (pc' := 29) (lo' := [some (.inr (.inr (some 203))), some (.inl c), some (.inl o), some (.inl w), none, none, none, none, none]) (st' := [.inl w]) rfl ?_
        refine n_i2l (pc' := 30) (pc0 := 29) (len := 1) rfl (by first | assumption | omega | (unfold R32 at *; omega) | (unfold R64 at *; omega) | (simp only [R32, R64] at *; omega)) rfl ?_
        refine r_ex 2 (pc' := 32) (lo' := [some (.inr (.inr (some 203))), some (.inl c), some (.inl o), some (.inl w), none, none, none, none, none]) (st' := [.inr (.inl 1), .inr (.inl 0), .inr (.inl w)]) rfl ?_
        have hp_5 : R64 w := (by first | assumption | omega | (unfold R32 at *; omega) | (unfold R64 at *; omega) | (simp only [R32, R64] at *; omega))
        have hp_6 : R64 (0 : Int) := (by first | assumption | omega | (unfold R32 at *; omega) | (unfold R64 at *; omega) | (simp only [R32, R64] at *; omega))
        have hp_7 : R64 (1 : Int) := (by first | assumption | omega | (unfold R32 at *; omega) | (unfold R64 at *; omega) | (simp only [R32, R64] at *; omega))
        refine r_callb (P := (0 : Int) ≤ w ∧ w ≤ (1 : Int)) (m := 202) (args := [.inr (.inl w), .inr (.inl 0), .inr (.inl 1)]) (n' := 304) (pc' := 35) (lo' := [some (.inr (.inr (some 203))), some (.inl c), some (.inl o), some (.inl w), none, none, none, none, none]) (st' := []) (I := .invokestatic 202) (pc0 := 32) (len := 3) rfl rfl rfl (e_mo_in hX_1 hp_5 hp_6 hp_7) (fun h_32 => ?_) (fun h_32 => ?_)
        · show WV _ _ _ 35 _ _ _ _ _
          rw [if_pos h_32] at hQ
          refine r_ex 2 (pc' := 43) (lo' := [some (.inr (.inr (some 203))), some (.inl c), some (.inl o), some (.inl w), none, none, none, none, none]) (st' := [.inr (.inr (some 203))]) rfl ?_
          have hp_8 : CF (v2 v 203 0 0) := show CF (v2 v 203 0 0) from (show CF (v2 v 203 0 0) from CF.of hp_d (fun k h1 h2 => by rw [v2_row (by omega)]))
          refine r_call (m := 246) (args := [.inr (.inr (some 203))]) (n' := 304) (pc' := 46) (lo' := [some (.inr (.inr (some 203))), some (.inl c), some (.inl o), some (.inl w), none, none, none, none, none]) (st' := []) (I := .invokevirtual 246) (pc0 := 43) (len := 3) rfl rfl rfl (e_mo_told hX_1 hp_8) ?_
          show WV _ _ _ 46 _ [] _ (mo_told (v2 v 203 0 0)) _
          have hX_9 : XI (mo_told (v2 v 203 0 0)) := i_mo_told (v := (v2 v 203 0 0)) hX_1 hp_8
          refine r_ex 6 (pc' := 55) (lo' := [some (.inr (.inr (some 203))), some (.inl c), some (.inl o), some (.inl w), some (.inl 0), some (.inl 0), some (.inl 1), none, none]) (st' := []) rfl ?_
          refine l_mo_behind_55 101 (mo_told (v2 v 203 0 0)) c o w 0 0 1 _ _ hX_9 (by first | assumption | omega | (unfold R32 at *; omega) | (unfold R64 at *; omega) | (simp only [R32, R64] at *; omega)) (by first | assumption | omega | (unfold R32 at *; omega) | (unfold R64 at *; omega) | (simp only [R32, R64] at *; omega)) (by first | assumption | omega | (unfold R32 at *; omega) | (unfold R64 at *; omega) | (simp only [R32, R64] at *; omega)) (by first | assumption | omega | (unfold R32 at *; omega) | (unfold R64 at *; omega) | (simp only [R32, R64] at *; omega)) (by first | assumption | omega | (unfold R32 at *; omega) | (unfold R64 at *; omega) | (simp only [R32, R64] at *; omega)) (by first | assumption | omega | (unfold R32 at *; omega) | (unfold R64 at *; omega) | (simp only [R32, R64] at *; omega)) (by first | assumption | omega | (unfold R32 at *; omega) | (unfold R64 at *; omega) | (simp only [R32, R64] at *; omega)) (fun o6_16 o7_16 o8_16  hv_16_0 hv_16_1 => ?_)
          show WV _ _ _ 114 _ _ _ _ _
          refine r_ex 1 (pc' := 115) (lo' := [some (.inr (.inr (some 203))), some (.inl c), some (.inl o), some (.inl w), some (.inl ((mo_behind_55 101 (mo_told (v2 v 203 0 0)) c o w 0 0 1).1)), some (.inl ((mo_behind_55 101 (mo_told (v2 v 203 0 0)) c o w 0 0 1).2)), o6_16, o7_16, o8_16]) (st' := [.inl w]) rfl ?_
          refine n_if_ne (pc0 := 115) (len := 3) (t := 123) rfl (by first | assumption | omega | (unfold R32 at *; omega) | (unfold R64 at *; omega) | (simp only [R32, R64] at *; omega)) (fun h_115 => ?_) (fun h_115 => ?_)
          · show WV _ _ _ 123 _ _ _ _ _
            rw [if_neg h_115] at hQ
            refine r_ex 1 (pc' := 125) (lo' := [some (.inr (.inr (some 203))), some (.inl c), some (.inl o), some (.inl w), some (.inl ((mo_behind_55 101 (mo_told (v2 v 203 0 0)) c o w 0 0 1).1)), some (.inl ((mo_behind_55 101 (mo_told (v2 v 203 0 0)) c o w 0 0 1).2)), o6_16, o7_16, o8_16]) (st' := [.inl ((mo_behind_55 101 (mo_told (v2 v 203 0 0)) c o w 0 0 1).2)]) rfl ?_
            refine r_ret (rr := some (.inl ((mo_behind_55 101 (mo_told (v2 v 203 0 0)) c o w 0 0 1).2))) (I := .ireturn) (pc0 := 125) (len := 1) rfl rfl ?_
            exact hQ hX_9 
          · show WV _ _ _ 118 _ _ _ _ _
            rw [if_pos h_115] at hQ
            refine r_ex 2 (pc' := 125) (lo' := [some (.inr (.inr (some 203))), some (.inl c), some (.inl o), some (.inl w), some (.inl ((mo_behind_55 101 (mo_told (v2 v 203 0 0)) c o w 0 0 1).1)), some (.inl ((mo_behind_55 101 (mo_told (v2 v 203 0 0)) c o w 0 0 1).2)), o6_16, o7_16, o8_16]) (st' := [.inl ((mo_behind_55 101 (mo_told (v2 v 203 0 0)) c o w 0 0 1).1)]) rfl ?_
            refine r_ret (rr := some (.inl ((mo_behind_55 101 (mo_told (v2 v 203 0 0)) c o w 0 0 1).1))) (I := .ireturn) (pc0 := 125) (len := 1) rfl rfl ?_
            exact hQ hX_9 
        · show WV _ _ _ 35 _ _ _ _ _
          rw [if_neg h_32] at hQ
          refine r_ex 2 (pc' := 41) (lo' := [some (.inr (.inr (some 203))), some (.inl c), some (.inl o), some (.inl w), none, none, none, none, none]) (st' := [.inl (-2000000)]) rfl ?_
          refine r_ret (rr := some (.inl (-2000000))) (I := .ireturn) (pc0 := 41) (len := 1) rfl rfl ?_
          exact hQ hX_1 
    · show WV _ _ _ 20 _ _ _ _ _
      rw [if_neg h_17] at hQ
      refine r_ex 2 (pc' := 41) (lo' := [some (.inr (.inr (some 203))), some (.inl c), some (.inl o), some (.inl w), none, none, none, none, none]) (st' := [.inl (-2000000)]) rfl ?_
      refine r_ret (rr := some (.inl (-2000000))) (I := .ireturn) (pc0 := 41) (len := 1) rfl rfl ?_
      exact hQ hX_1 
  · show WV _ _ _ 11 _ _ _ _ _
    rw [if_neg h_8] at hQ
    refine r_ex 2 (pc' := 41) (lo' := [some (.inr (.inr (some 203))), some (.inl c), some (.inl o), some (.inl w), none, none, none, none, none]) (st' := [.inl (-2000000)]) rfl ?_
    refine r_ret (rr := some (.inl (-2000000))) (I := .ireturn) (pc0 := 41) (len := 1) rfl rfl ?_
    exact hQ hX_1 

theorem e_mo_behind {X : PX} {d b : Nat} {v : VS} {c : Int} {o : Int} {w : Int} (hX : XI v) (hp_a : R32 c) (hp_b : R32 o) (hp_c : R32 w) (hp_d : CF v) : EvV X (d + 1 + 1 + 1 + 1 + 1 + 1) 304 [.inr (.inr (some 203)), .inl c, .inl o, .inl w] b v (some (.inl (mo_behind v c o w).1)) b ((mo_behind v c o w).2) := EvV.of (w_mo_behind hX hp_a hp_b hp_c hp_d (fun _ => ⟨rfl, rfl, rfl⟩))

theorem i_mo_behind {v : VS} {c : Int} {o : Int} {w : Int} (hX : XI v) (hp_a : R32 c) (hp_b : R32 o) (hp_c : R32 w) (hp_d : CF v) : XI ((mo_behind v c o w).2) := by
  have q : WV (0, fun _ => 0, none) (0 + 1 + 1 + 1 + 1 + 1 + 1) 304 0 [some (.inr (.inr (some 203))), some (.inl c), some (.inl o), some (.inl w), none, none, none, none, none] [] 1 v (fun _ _ _ => XI ((mo_behind v c o w).2)) := w_mo_behind (X := (0, fun _ => 0, none)) (d := 0) (b := 1) hX hp_a hp_b hp_c hp_d (fun q => q)
  obtain ⟨_, _, _, _, _, _, _, q⟩ := q
  exact q

theorem o_mo_behind {rk : Nat} {v : VS} {c : Int} {o : Int} {w : Int} (hk : (rk < 203 ∨ 203 < rk) ∧ (rk < 219 ∨ 231 < rk)) : (mo_behind v c o w).2 rk = v rk := by
  unfold mo_behind
  by_cases hc_ : 0 ≤ c ∧ c < (v 210 0)
  · rw [if_pos hc_] <;> clear hc_
    by_cases hc_ : 0 ≤ o ∧ o < (v 210 0)
    · rw [if_pos hc_] <;> clear hc_
      by_cases hc_ : c = o
      · rw [if_pos hc_] <;> clear hc_
        all_goals (show (v2 v 203 0 0) rk = _)
        all_goals (rw [v2_row (by omega)])
      · rw [if_neg hc_] <;> clear hc_
        by_cases hc_ : (0 : Int) ≤ w ∧ w ≤ (1 : Int)
        · rw [if_pos hc_] <;> clear hc_
          by_cases hc_ : w = 0
          · rw [if_pos hc_] <;> clear hc_
            all_goals (show (mo_told (v2 v 203 0 0)) rk = _)
            all_goals (rw [o_mo_told (by omega), v2_row (by omega)])
          · rw [if_neg hc_] <;> clear hc_
            all_goals (show (mo_told (v2 v 203 0 0)) rk = _)
            all_goals (rw [o_mo_told (by omega), v2_row (by omega)])
        · rw [if_neg hc_] <;> clear hc_
          all_goals (show (v2 v 203 0 0) rk = _)
          all_goals (rw [v2_row (by omega)])
    · rw [if_neg hc_] <;> clear hc_
      all_goals (show (v2 v 203 0 0) rk = _)
      all_goals (rw [v2_row (by omega)])
  · rw [if_neg hc_] <;> clear hc_
    all_goals (show (v2 v 203 0 0) rk = _)
    all_goals (rw [v2_row (by omega)])

theorem sd_p {v : VS} (h : CF v) {j : Nat} {x : Int} (hj : j % 3 = 1) : CF (v2 v 213 j x) := CF.p213 h (by omega)

noncomputable def mo_tune (v : VS) (c : Int) (n : Int) : Int × VS :=
  (if 0 ≤ c ∧ c < (v 210 3) then (if (1 : Int) ≤ n ∧ n ≤ (60 : Int) then ((v 212 ((((4 * c) + 2)).toNat)), (v2 (v2 v 203 0 0) 212 ((((4 * c) + 2)).toNat) n)) else ((-2), (v2 v 203 0 0))) else ((-2), (v2 v 203 0 0)))
theorem w_mo_tune {X : PX} {d b : Nat} {v : VS} {c : Int} {n : Int} (hX : XI v) (hp_a : R32 c) (hp_b : R32 n) (hp_c : CF v) {Q : Option PV → Nat → VS → Prop} (hQ : XI (mo_tune v c n).2 → (CF ((mo_tune v c n).2)) → Q (some (.inl (mo_tune v c n).1)) b (mo_tune v c n).2) : WV X (d + 1 + 1) 308 0 [some (.inr (.inr (some 203))), some (.inl c), some (.inl n), none] [] b v Q := by
  rw [mo_tune] at hQ
  refine r_ex 2 (pc' := 2) (lo' := [some (.inr (.inr (some 203))), some (.inl c), some (.inl n), none]) (st' := [.inl 0, .inr (.inr (some 203))]) rfl ?_
  refine r_puti2 (j := 0) (pc' := 5) (pc0 := 2) (len := 3) rfl (s_203 _) rfl rfl rfl (Or.inl rfl) rfl rfl ?_
  have hX_1 : XI (v2 v 203 0 0) := XI.put hX trivial
  refine r_ex 2 (pc' := 7) (lo' := [some (.inr (.inr (some 203))), some (.inl c), some (.inl n), none]) (st' := [.inl c, .inr (.inr (some 203))]) rfl ?_
  have hp_2 : R32 c := (by first | assumption | omega | (unfold R32 at *; omega) | (unfold R64 at *; omega) | (simp only [R32, R64] at *; omega))
  have hb_3 : 0 ≤ (v 210 3) ∧ (v 210 3) ≤ 12 := hX_1 210 3
  refine r_callb (P := 0 ≤ c ∧ c < (v 210 3)) (m := 238) (args := [.inr (.inr (some 203)), .inl c]) (n' := 308) (pc' := 10) (lo' := [some (.inr (.inr (some 203))), some (.inl c), some (.inl n), none]) (st' := []) (I := .invokevirtual 238) (pc0 := 7) (len := 3) rfl rfl rfl (e_mo_isEar hX_1 hp_2) (fun h_7 => ?_) (fun h_7 => ?_)
  · show WV _ _ _ 10 _ _ _ _ _
    rw [if_pos h_7] at hQ
    refine r_ex 2 (pc' := 14) (lo' := [some (.inr (.inr (some 203))), some (.inl c), some (.inl n), none]) (st' := [.inl n]) rfl ?_
    refine n_i2l (pc' := 15) (pc0 := 14) (len := 1) rfl (by first | assumption | omega | (unfold R32 at *; omega) | (unfold R64 at *; omega) | (simp only [R32, R64] at *; omega)) rfl ?_
    refine r_ex 2 (pc' := 19) (lo' := [some (.inr (.inr (some 203))), some (.inl c), some (.inl n), none]) (st' := [.inr (.inl 60), .inr (.inl 1), .inr (.inl n)]) rfl ?_
    have hp_4 : R64 n := (by first | assumption | omega | (unfold R32 at *; omega) | (unfold R64 at *; omega) | (simp only [R32, R64] at *; omega))
    have hp_5 : R64 (1 : Int) := (by first | assumption | omega | (unfold R32 at *; omega) | (unfold R64 at *; omega) | (simp only [R32, R64] at *; omega))
    have hp_6 : R64 (60 : Int) := (by first | assumption | omega | (unfold R32 at *; omega) | (unfold R64 at *; omega) | (simp only [R32, R64] at *; omega))
    refine r_callb (P := (1 : Int) ≤ n ∧ n ≤ (60 : Int)) (m := 202) (args := [.inr (.inl n), .inr (.inl 1), .inr (.inl 60)]) (n' := 308) (pc' := 22) (lo' := [some (.inr (.inr (some 203))), some (.inl c), some (.inl n), none]) (st' := []) (I := .invokestatic 202) (pc0 := 19) (len := 3) rfl rfl rfl (e_mo_in hX_1 hp_4 hp_5 hp_6) (fun h_19 => ?_) (fun h_19 => ?_)
    · show WV _ _ _ 22 _ _ _ _ _
      rw [if_pos h_19] at hQ
      refine r_ex 8 (pc' := 37) (lo' := [some (.inr (.inr (some 203))), some (.inl c), some (.inl n), none]) (st' := [.inl ((4 * c) + 2), .inr (.inr (some 212))]) rfl ?_
      refine r_iald2 (j := 0) (x := (v 212 ((((4 * c) + 2)).toNat))) (pc' := 38) (pc0 := 37) (len := 1) rfl (s_212 _) (by first | assumption | omega | (unfold R32 at *; omega) | (unfold R64 at *; omega) | (simp only [R32, R64] at *; omega)) (by decide) rfl rfl ?_
      have hb_7 : 0 ≤ (v 212 ((((4 * c) + 2)).toNat)) ∧ (v 212 ((((4 * c) + 2)).toNat)) ≤ 60 := hX_1 212 ((((4 * c) + 2)).toNat)
      refine r_ex 9 (pc' := 49) (lo' := [some (.inr (.inr (some 203))), some (.inl c), some (.inl n), some (.inl (v 212 ((((4 * c) + 2)).toNat)))]) (st' := [.inl n, .inl ((4 * c) + 2), .inr (.inr (some 212))]) rfl ?_
      refine r_iast2 (pc' := 50) (pc0 := 49) (len := 1) rfl (s_212 _) (by first | assumption | omega | (unfold R32 at *; omega) | (unfold R64 at *; omega) | (simp only [R32, R64] at *; omega)) (by decide) rfl ?_
      have hX_8 : XI (v2 (v2 v 203 0 0) 212 ((((4 * c) + 2)).toNat) n) := XI.put hX_1 (show 0 ≤ n ∧ n ≤ 60 from (by first | assumption | omega | (unfold R32 at *; omega) | (unfold R64 at *; omega) | (simp only [R32, R64] at *; omega)))
      refine r_ex 1 (pc' := 51) (lo' := [some (.inr (.inr (some 203))), some (.inl c), some (.inl n), some (.inl (v 212 ((((4 * c) + 2)).toNat)))]) (st' := [.inl (v 212 ((((4 * c) + 2)).toNat))]) rfl ?_
      refine r_ret (rr := some (.inl (v 212 ((((4 * c) + 2)).toNat)))) (I := .ireturn) (pc0 := 51) (len := 1) rfl rfl ?_
      exact hQ hX_8 (show CF (v2 (v2 v 203 0 0) 212 ((((4 * c) + 2)).toNat) n) from (show CF (v2 (v2 v 203 0 0) 212 ((((4 * c) + 2)).toNat) n) from CF.p212 (show CF (v2 v 203 0 0) from CF.of hp_c (fun k h1 h2 => by rw [v2_row (by omega)])) (by omega)))
    · show WV _ _ _ 22 _ _ _ _ _
      rw [if_neg h_19] at hQ
      refine r_ex 2 (pc' := 27) (lo' := [some (.inr (.inr (some 203))), some (.inl c), some (.inl n), none]) (st' := [.inl (-2)]) rfl ?_
      refine r_ret (rr := some (.inl (-2))) (I := .ireturn) (pc0 := 27) (len := 1) rfl rfl ?_
      exact hQ hX_1 (show CF (v2 v 203 0 0) from (show CF (v2 v 203 0 0) from CF.of hp_c (fun k h1 h2 => by rw [v2_row (by omega)])))
  · show WV _ _ _ 10 _ _ _ _ _
    rw [if_neg h_7] at hQ
    refine r_ex 2 (pc' := 27) (lo' := [some (.inr (.inr (some 203))), some (.inl c), some (.inl n), none]) (st' := [.inl (-2)]) rfl ?_
    refine r_ret (rr := some (.inl (-2))) (I := .ireturn) (pc0 := 27) (len := 1) rfl rfl ?_
    exact hQ hX_1 (show CF (v2 v 203 0 0) from (show CF (v2 v 203 0 0) from CF.of hp_c (fun k h1 h2 => by rw [v2_row (by omega)])))

theorem e_mo_tune {X : PX} {d b : Nat} {v : VS} {c : Int} {n : Int} (hX : XI v) (hp_a : R32 c) (hp_b : R32 n) (hp_c : CF v) : EvV X (d + 1 + 1) 308 [.inr (.inr (some 203)), .inl c, .inl n] b v (some (.inl (mo_tune v c n).1)) b ((mo_tune v c n).2) := EvV.of (w_mo_tune hX hp_a hp_b hp_c (fun _ _ => ⟨rfl, rfl, rfl⟩))

theorem i_mo_tune {v : VS} {c : Int} {n : Int} (hX : XI v) (hp_a : R32 c) (hp_b : R32 n) (hp_c : CF v) : XI ((mo_tune v c n).2) := by
  have q : WV (0, fun _ => 0, none) (0 + 1 + 1) 308 0 [some (.inr (.inr (some 203))), some (.inl c), some (.inl n), none] [] 1 v (fun _ _ _ => XI ((mo_tune v c n).2)) := w_mo_tune (X := (0, fun _ => 0, none)) (d := 0) (b := 1) hX hp_a hp_b hp_c (fun q _ => q)
  obtain ⟨_, _, _, _, _, _, _, q⟩ := q
  exact q

theorem n_mo_tune {v : VS} {c : Int} {n : Int} (hX : XI v) (hp_a : R32 c) (hp_b : R32 n) (hp_c : CF v) : CF ((mo_tune v c n).2) := by
  have q : WV (0, fun _ => 0, none) (0 + 1 + 1) 308 0 [some (.inr (.inr (some 203))), some (.inl c), some (.inl n), none] [] 1 v (fun _ _ _ => CF ((mo_tune v c n).2)) := w_mo_tune (X := (0, fun _ => 0, none)) (d := 0) (b := 1) hX hp_a hp_b hp_c (fun _ q => q)
  obtain ⟨_, _, _, _, _, _, _, q⟩ := q
  exact q

theorem o_mo_tune {rk : Nat} {v : VS} {c : Int} {n : Int} (hk : (rk < 203 ∨ 203 < rk) ∧ (rk < 212 ∨ 212 < rk)) : (mo_tune v c n).2 rk = v rk := by
  unfold mo_tune
  by_cases hc_ : 0 ≤ c ∧ c < (v 210 3)
  · rw [if_pos hc_] <;> clear hc_
    by_cases hc_ : (1 : Int) ≤ n ∧ n ≤ (60 : Int)
    · rw [if_pos hc_] <;> clear hc_
      all_goals (show (v2 (v2 v 203 0 0) 212 ((((4 * c) + 2)).toNat) n) rk = _)
      all_goals (rw [v2_row (by omega), v2_row (by omega)])
    · rw [if_neg hc_] <;> clear hc_
      all_goals (show (v2 v 203 0 0) rk = _)
      all_goals (rw [v2_row (by omega)])
  · rw [if_neg hc_] <;> clear hc_
    all_goals (show (v2 v 203 0 0) rk = _)
    all_goals (rw [v2_row (by omega)])

noncomputable def mo_shift (v : VS) (c : Int) (s : Int) : Int × VS :=
  (if 0 ≤ c ∧ c < (v 210 4) then (if 0 ≤ s ∧ s < (v 210 1) then ((v 213 ((((3 * c) + 1)).toNat)), (v2 (v2 v 203 0 0) 213 ((((3 * c) + 1)).toNat) s)) else ((-2), (v2 v 203 0 0))) else ((-2), (v2 v 203 0 0)))
theorem w_mo_shift {X : PX} {d b : Nat} {v : VS} {c : Int} {s : Int} (hX : XI v) (hp_a : R32 c) (hp_b : R32 s) (hp_c : CF v) {Q : Option PV → Nat → VS → Prop} (hQ : XI (mo_shift v c s).2 → (CF ((mo_shift v c s).2)) → Q (some (.inl (mo_shift v c s).1)) b (mo_shift v c s).2) : WV X (d + 1 + 1) 309 0 [some (.inr (.inr (some 203))), some (.inl c), some (.inl s), none] [] b v Q := by
  rw [mo_shift] at hQ
  refine r_ex 2 (pc' := 2) (lo' := [some (.inr (.inr (some 203))), some (.inl c), some (.inl s), none]) (st' := [.inl 0, .inr (.inr (some 203))]) rfl ?_
  refine r_puti2 (j := 0) (pc' := 5) (pc0 := 2) (len := 3) rfl (s_203 _) rfl rfl rfl (Or.inl rfl) rfl rfl ?_
  have hX_1 : XI (v2 v 203 0 0) := XI.put hX trivial
  refine r_ex 2 (pc' := 7) (lo' := [some (.inr (.inr (some 203))), some (.inl c), some (.inl s), none]) (st' := [.inl c, .inr (.inr (some 203))]) rfl ?_
  have hp_2 : R32 c := (by first | assumption | omega | (unfold R32 at *; omega) | (unfold R64 at *; omega) | (simp only [R32, R64] at *; omega))
  have hb_3 : 0 ≤ (v 210 4) ∧ (v 210 4) ≤ 4 := hX_1 210 4
  refine r_callb (P := 0 ≤ c ∧ c < (v 210 4)) (m := 310) (args := [.inr (.inr (some 203)), .inl c]) (n' := 309) (pc' := 10) (lo' := [some (.inr (.inr (some 203))), some (.inl c), some (.inl s), none]) (st' := []) (I := .invokevirtual 310) (pc0 := 7) (len := 3) rfl rfl rfl (e_mo_isStart hX_1 hp_2) (fun h_7 => ?_) (fun h_7 => ?_)
  · show WV _ _ _ 10 _ _ _ _ _
    rw [if_pos h_7] at hQ
    refine r_ex 3 (pc' := 15) (lo' := [some (.inr (.inr (some 203))), some (.inl c), some (.inl s), none]) (st' := [.inl s, .inr (.inr (some 203))]) rfl ?_
    refine n_i2l (pc' := 16) (pc0 := 15) (len := 1) rfl (by first | assumption | omega | (unfold R32 at *; omega) | (unfold R64 at *; omega) | (simp only [R32, R64] at *; omega)) rfl ?_
    have hp_4 : R64 s := (by first | assumption | omega | (unfold R32 at *; omega) | (unfold R64 at *; omega) | (simp only [R32, R64] at *; omega))
    have hb_5 : 0 ≤ (v 210 1) ∧ (v 210 1) ≤ 300 := hX_1 210 1
    refine r_callb (P := 0 ≤ s ∧ s < (v 210 1)) (m := 240) (args := [.inr (.inr (some 203)), .inr (.inl s)]) (n' := 309) (pc' := 19) (lo' := [some (.inr (.inr (some 203))), some (.inl c), some (.inl s), none]) (st' := []) (I := .invokevirtual 240) (pc0 := 16) (len := 3) rfl rfl rfl (e_mo_isSecond hX_1 hp_4) (fun h_16 => ?_) (fun h_16 => ?_)
    · show WV _ _ _ 19 _ _ _ _ _
      rw [if_pos h_16] at hQ
      refine r_ex 8 (pc' := 34) (lo' := [some (.inr (.inr (some 203))), some (.inl c), some (.inl s), none]) (st' := [.inl ((3 * c) + 1), .inr (.inr (some 213))]) rfl ?_
      refine r_iald2 (j := 0) (x := (v 213 ((((3 * c) + 1)).toNat))) (pc' := 35) (pc0 := 34) (len := 1) rfl (s_213 _) (by first | assumption | omega | (unfold R32 at *; omega) | (unfold R64 at *; omega) | (simp only [R32, R64] at *; omega)) (by decide) rfl rfl ?_
      have hb_6 : 0 ≤ (v 213 ((((3 * c) + 1)).toNat)) ∧ (v 213 ((((3 * c) + 1)).toNat)) ≤ 299 := hX_1 213 ((((3 * c) + 1)).toNat)
      refine r_ex 9 (pc' := 46) (lo' := [some (.inr (.inr (some 203))), some (.inl c), some (.inl s), some (.inl (v 213 ((((3 * c) + 1)).toNat)))]) (st' := [.inl s, .inl ((3 * c) + 1), .inr (.inr (some 213))]) rfl ?_
      refine r_iast2 (pc' := 47) (pc0 := 46) (len := 1) rfl (s_213 _) (by first | assumption | omega | (unfold R32 at *; omega) | (unfold R64 at *; omega) | (simp only [R32, R64] at *; omega)) (by decide) rfl ?_
      have hX_7 : XI (v2 (v2 v 203 0 0) 213 ((((3 * c) + 1)).toNat) s) := XI.put hX_1 (show 0 ≤ s ∧ s ≤ 299 from (by first | assumption | omega | (unfold R32 at *; omega) | (unfold R64 at *; omega) | (simp only [R32, R64] at *; omega)))
      refine r_ex 1 (pc' := 48) (lo' := [some (.inr (.inr (some 203))), some (.inl c), some (.inl s), some (.inl (v 213 ((((3 * c) + 1)).toNat)))]) (st' := [.inl (v 213 ((((3 * c) + 1)).toNat))]) rfl ?_
      refine r_ret (rr := some (.inl (v 213 ((((3 * c) + 1)).toNat)))) (I := .ireturn) (pc0 := 48) (len := 1) rfl rfl ?_
      exact hQ hX_7 (show CF (v2 (v2 v 203 0 0) 213 ((((3 * c) + 1)).toNat) s) from (show CF (v2 (v2 v 203 0 0) 213 ((((3 * c) + 1)).toNat) s) from CF.p213 (show CF (v2 v 203 0 0) from CF.of hp_c (fun k h1 h2 => by rw [v2_row (by omega)])) (by omega)))
    · show WV _ _ _ 19 _ _ _ _ _
      rw [if_neg h_16] at hQ
      refine r_ex 2 (pc' := 24) (lo' := [some (.inr (.inr (some 203))), some (.inl c), some (.inl s), none]) (st' := [.inl (-2)]) rfl ?_
      refine r_ret (rr := some (.inl (-2))) (I := .ireturn) (pc0 := 24) (len := 1) rfl rfl ?_
      exact hQ hX_1 (show CF (v2 v 203 0 0) from (show CF (v2 v 203 0 0) from CF.of hp_c (fun k h1 h2 => by rw [v2_row (by omega)])))
  · show WV _ _ _ 10 _ _ _ _ _
    rw [if_neg h_7] at hQ
    refine r_ex 2 (pc' := 24) (lo' := [some (.inr (.inr (some 203))), some (.inl c), some (.inl s), none]) (st' := [.inl (-2)]) rfl ?_
    refine r_ret (rr := some (.inl (-2))) (I := .ireturn) (pc0 := 24) (len := 1) rfl rfl ?_
    exact hQ hX_1 (show CF (v2 v 203 0 0) from (show CF (v2 v 203 0 0) from CF.of hp_c (fun k h1 h2 => by rw [v2_row (by omega)])))

theorem e_mo_shift {X : PX} {d b : Nat} {v : VS} {c : Int} {s : Int} (hX : XI v) (hp_a : R32 c) (hp_b : R32 s) (hp_c : CF v) : EvV X (d + 1 + 1) 309 [.inr (.inr (some 203)), .inl c, .inl s] b v (some (.inl (mo_shift v c s).1)) b ((mo_shift v c s).2) := EvV.of (w_mo_shift hX hp_a hp_b hp_c (fun _ _ => ⟨rfl, rfl, rfl⟩))

theorem i_mo_shift {v : VS} {c : Int} {s : Int} (hX : XI v) (hp_a : R32 c) (hp_b : R32 s) (hp_c : CF v) : XI ((mo_shift v c s).2) := by
  have q : WV (0, fun _ => 0, none) (0 + 1 + 1) 309 0 [some (.inr (.inr (some 203))), some (.inl c), some (.inl s), none] [] 1 v (fun _ _ _ => XI ((mo_shift v c s).2)) := w_mo_shift (X := (0, fun _ => 0, none)) (d := 0) (b := 1) hX hp_a hp_b hp_c (fun q _ => q)
  obtain ⟨_, _, _, _, _, _, _, q⟩ := q
  exact q

theorem n_mo_shift {v : VS} {c : Int} {s : Int} (hX : XI v) (hp_a : R32 c) (hp_b : R32 s) (hp_c : CF v) : CF ((mo_shift v c s).2) := by
  have q : WV (0, fun _ => 0, none) (0 + 1 + 1) 309 0 [some (.inr (.inr (some 203))), some (.inl c), some (.inl s), none] [] 1 v (fun _ _ _ => CF ((mo_shift v c s).2)) := w_mo_shift (X := (0, fun _ => 0, none)) (d := 0) (b := 1) hX hp_a hp_b hp_c (fun _ q => q)
  obtain ⟨_, _, _, _, _, _, _, q⟩ := q
  exact q

theorem o_mo_shift {rk : Nat} {v : VS} {c : Int} {s : Int} (hk : (rk < 203 ∨ 203 < rk) ∧ (rk < 213 ∨ 213 < rk)) : (mo_shift v c s).2 rk = v rk := by
  unfold mo_shift
  by_cases hc_ : 0 ≤ c ∧ c < (v 210 4)
  · rw [if_pos hc_] <;> clear hc_
    by_cases hc_ : 0 ≤ s ∧ s < (v 210 1)
    · rw [if_pos hc_] <;> clear hc_
      all_goals (show (v2 (v2 v 203 0 0) 213 ((((3 * c) + 1)).toNat) s) rk = _)
      all_goals (rw [v2_row (by omega), v2_row (by omega)])
    · rw [if_neg hc_] <;> clear hc_
      all_goals (show (v2 v 203 0 0) rk = _)
      all_goals (rw [v2_row (by omega)])
  · rw [if_neg hc_] <;> clear hc_
    all_goals (show (v2 v 203 0 0) rk = _)
    all_goals (rw [v2_row (by omega)])

noncomputable def mo_soon_35 : Nat → VS → Int → Int → Int → Int → Int → Int × VS
  | 0, v, c, o, g, m, t => (0, v)
  | f + 1, v, c, o, g, m, t => (if t < (v 210 1) then (if m < (mo_strikesBy (v2 v 213 ((((3 * c) + 1)).toNat) t) 0 0).1 then (mo_soon_35 f ((mo_strikesBy (v2 v 213 ((((3 * c) + 1)).toNat) t) 0 0).2) c o t ((mo_strikesBy (v2 v 213 ((((3 * c) + 1)).toNat) t) 0 0).1) (t + 1)) else (mo_soon_35 f ((mo_strikesBy (v2 v 213 ((((3 * c) + 1)).toNat) t) 0 0).2) c o g m (t + 1))) else (g, v))
noncomputable def mo_soon (v : VS) (c : Int) : Int × VS :=
  (if 0 ≤ c ∧ c < (v 210 4) then ((mo_soon_35 301 (v2 v 203 0 0) c (v 213 ((((3 * c) + 1)).toNat)) (-1) (-1) 0).1, (v2 ((mo_soon_35 301 (v2 v 203 0 0) c (v 213 ((((3 * c) + 1)).toNat)) (-1) (-1) 0).2) 213 ((((3 * c) + 1)).toNat) (v 213 ((((3 * c) + 1)).toNat)))) else ((-2), (v2 v 203 0 0)))
theorem l_mo_soon_35 {X : PX} {d b : Nat} {Q : Option PV → Nat → VS → Prop}  : ∀ (f : Nat) (v : VS) (c : Int) (o : Int) (g : Int) (m : Int) (t : Int) (o6 : Option PV), XI v → (0 ≤ c ∧ c ≤ 3) → (0 ≤ o ∧ o ≤ 299) → (-1 ≤ g ∧ g ≤ 299) → (-1 ≤ m ∧ m ≤ 300) → (0 ≤ t ∧ t ≤ 300) → (CF v) → (300 < t + f) → (∀ qx4 : Option PV, ∀ qx5 : Option PV, ∀ qx6 : Option PV, XI ((mo_soon_35 f v c o g m t).2) → (-1 ≤ (mo_soon_35 f v c o g m t).1 ∧ (mo_soon_35 f v c o g m t).1 ≤ 299) → (CF ((mo_soon_35 f v c o g m t).2)) → WV X (d + 1 + 1 + 1 + 1 + 1 + 1) 311 89 [some (.inr (.inr (some 203))), some (.inl c), some (.inl o), some (.inl ((mo_soon_35 f v c o g m t).1)), qx4, qx5, qx6] [] b (mo_soon_35 f v c o g m t).2 Q) → WV X (d + 1 + 1 + 1 + 1 + 1 + 1) 311 35 [some (.inr (.inr (some 203))), some (.inl c), some (.inl o), some (.inl g), some (.inl m), some (.inl t), o6] [] b v Q := by
  intro f
  induction f with
  | zero =>
    intro v c o g m t o6 hX hi_0 hi_1 hi_2 hi_3 hi_4 hi_5 hf hK
    exfalso
    omega
  | succ f ih =>
    intro v c o g m t o6 hX hi_0 hi_1 hi_2 hi_3 hi_4 hi_5 hf hK
    rw [mo_soon_35] at hK
    refine r_ex 4 (pc' := 42) (lo' := [some (.inr (.inr (some 203))), some (.inl c), some (.inl o), some (.inl g), some (.inl m), some (.inl t), o6]) (st' := [.inl 1, .inr (.inr (some 210)), .inl t]) rfl ?_
    refine r_iald2 (j := 0) (x := (v 210 1)) (pc' := 43) (pc0 := 42) (len := 1) rfl (s_210 _) (by first | assumption | omega | (unfold R32 at *; omega) | (unfold R64 at *; omega) | (simp only [R32, R64] at *; omega)) (by decide) rfl rfl ?_
    have hb_5 : 0 ≤ (v 210 1) ∧ (v 210 1) ≤ 300 := hX 210 1
    refine n_ic_ge (pc0 := 43) (len := 3) (t := 89) rfl (by first | assumption | omega | (unfold R32 at *; omega) | (unfold R64 at *; omega) | (simp only [R32, R64] at *; omega)) (by first | assumption | omega | (unfold R32 at *; omega) | (unfold R64 at *; omega) | (simp only [R32, R64] at *; omega)) (fun h_43 => ?_) (fun h_43 => ?_)
    · show WV _ _ _ 89 _ _ _ _ _
      rw [if_neg h_43] at hK
      exact hK _ _ _ hX (by first | assumption | omega | (unfold R32 at *; omega) | (unfold R64 at *; omega) | (simp only [R32, R64] at *; omega)) (hi_5)
    · show WV _ _ _ 46 _ _ _ _ _
      rw [if_pos h_43] at hK
      refine r_ex 8 (pc' := 57) (lo' := [some (.inr (.inr (some 203))), some (.inl c), some (.inl o), some (.inl g), some (.inl m), some (.inl t), o6]) (st' := [.inl t, .inl ((3 * c) + 1), .inr (.inr (some 213))]) rfl ?_
      refine r_iast2 (pc' := 58) (pc0 := 57) (len := 1) rfl (s_213 _) (by first | assumption | omega | (unfold R32 at *; omega) | (unfold R64 at *; omega) | (simp only [R32, R64] at *; omega)) (by decide) rfl ?_
      have hX_6 : XI (v2 v 213 ((((3 * c) + 1)).toNat) t) := XI.put hX (show 0 ≤ t ∧ t ≤ 299 from (by first | assumption | omega | (unfold R32 at *; omega) | (unfold R64 at *; omega) | (simp only [R32, R64] at *; omega)))
      refine r_ex 3 (pc' := 61) (lo' := [some (.inr (.inr (some 203))), some (.inl c), some (.inl o), some (.inl g), some (.inl m), some (.inl t), o6]) (st' := [.inl 0, .inl 0, .inr (.inr (some 203))]) rfl ?_
      have hp_7 : 0 ≤ (0 : Int) ∧ (0 : Int) ≤ 511 := (by first | assumption | omega | (unfold R32 at *; omega) | (unfold R64 at *; omega) | (simp only [R32, R64] at *; omega))
      have hp_8 : 0 ≤ (0 : Int) ∧ (0 : Int) ≤ 4095 := (by first | assumption | omega | (unfold R32 at *; omega) | (unfold R64 at *; omega) | (simp only [R32, R64] at *; omega))
      have hp_9 : CF (v2 v 213 ((((3 * c) + 1)).toNat) t) := show CF (v2 v 213 ((((3 * c) + 1)).toNat) t) from (show CF (v2 v 213 ((((3 * c) + 1)).toNat) t) from CF.p213 hi_5 (by omega))
      refine r_call (m := 272) (args := [.inr (.inr (some 203)), .inl 0, .inl 0]) (n' := 311) (pc' := 64) (lo' := [some (.inr (.inr (some 203))), some (.inl c), some (.inl o), some (.inl g), some (.inl m), some (.inl t), o6]) (st' := []) (I := .invokevirtual 272) (pc0 := 61) (len := 3) rfl rfl rfl (e_mo_strikesBy hX_6 hp_7 hp_8 hp_9) ?_
      show WV _ _ _ 64 _ [.inl ((mo_strikesBy (v2 v 213 ((((3 * c) + 1)).toNat) t) 0 0).1)] _ (mo_strikesBy (v2 v 213 ((((3 * c) + 1)).toNat) t) 0 0).2 _
      have hX_10 : XI (mo_strikesBy (v2 v 213 ((((3 * c) + 1)).toNat) t) 0 0).2 := i_mo_strikesBy (v := (v2 v 213 ((((3 * c) + 1)).toNat) t)) (m := 0) (k := 0) hX_6 hp_7 hp_8 hp_9
      have hb_11 := n_mo_strikesBy (v := (v2 v 213 ((((3 * c) + 1)).toNat) t)) (m := 0) (k := 0) hX_6 hp_7 hp_8 hp_9
      refine r_ex 3 (pc' := 70) (lo' := [some (.inr (.inr (some 203))), some (.inl c), some (.inl o), some (.inl g), some (.inl m), some (.inl t), some (.inl ((mo_strikesBy (v2 v 213 ((((3 * c) + 1)).toNat) t) 0 0).1))]) (st' := [.inl m, .inl ((mo_strikesBy (v2 v 213 ((((3 * c) + 1)).toNat) t) 0 0).1)]) rfl ?_
      refine n_ic_gt (pc0 := 70) (len := 3) (t := 76) rfl (by first | assumption | omega | (unfold R32 at *; omega) | (unfold R64 at *; omega) | (simp only [R32, R64] at *; omega)) (by first | assumption | omega | (unfold R32 at *; omega) | (unfold R64 at *; omega) | (simp only [R32, R64] at *; omega)) (fun h_70 => ?_) (fun h_70 => ?_)
      · show WV _ _ _ 76 _ _ _ _ _
        rw [if_pos h_70] at hK
        refine r_ex 6 (pc' := 35) (lo' := [some (.inr (.inr (some 203))), some (.inl c), some (.inl o), some (.inl t), some (.inl ((mo_strikesBy (v2 v 213 ((((3 * c) + 1)).toNat) t) 0 0).1)), some (.inl (t + 1)), some (.inl ((mo_strikesBy (v2 v 213 ((((3 * c) + 1)).toNat) t) 0 0).1))]) (st' := []) rfl ?_
        refine ih ((mo_strikesBy (v2 v 213 ((((3 * c) + 1)).toNat) t) 0 0).2) c o t ((mo_strikesBy (v2 v 213 ((((3 * c) + 1)).toNat) t) 0 0).1) (t + 1) _ hX_10 (by first | assumption | omega | (unfold R32 at *; omega) | (unfold R64 at *; omega) | (simp only [R32, R64] at *; omega)) (by first | assumption | omega | (unfold R32 at *; omega) | (unfold R64 at *; omega) | (simp only [R32, R64] at *; omega)) (by first | assumption | omega | (unfold R32 at *; omega) | (unfold R64 at *; omega) | (simp only [R32, R64] at *; omega)) (by first | assumption | omega | (unfold R32 at *; omega) | (unfold R64 at *; omega) | (simp only [R32, R64] at *; omega)) (by first | assumption | omega | (unfold R32 at *; omega) | (unfold R64 at *; omega) | (simp only [R32, R64] at *; omega)) (show CF ((mo_strikesBy (v2 v 213 ((((3 * c) + 1)).toNat) t) 0 0).2) from (show CF ((mo_strikesBy (v2 v 213 ((((3 * c) + 1)).toNat) t) 0 0).2) from CF.of (show CF (v2 v 213 ((((3 * c) + 1)).toNat) t) from CF.p213 hi_5 (by omega)) (fun k h1 h2 => by rw [o_mo_strikesBy (by omega)]))) (by first | assumption | omega | (unfold R32 at *; omega) | (unfold R64 at *; omega) | (simp only [R32, R64] at *; omega)) hK
      · show WV _ _ _ 73 _ _ _ _ _
        rw [if_neg h_70] at hK
        refine r_ex 3 (pc' := 35) (lo' := [some (.inr (.inr (some 203))), some (.inl c), some (.inl o), some (.inl g), some (.inl m), some (.inl (t + 1)), some (.inl ((mo_strikesBy (v2 v 213 ((((3 * c) + 1)).toNat) t) 0 0).1))]) (st' := []) rfl ?_
        refine ih ((mo_strikesBy (v2 v 213 ((((3 * c) + 1)).toNat) t) 0 0).2) c o g m (t + 1) _ hX_10 (by first | assumption | omega | (unfold R32 at *; omega) | (unfold R64 at *; omega) | (simp only [R32, R64] at *; omega)) (by first | assumption | omega | (unfold R32 at *; omega) | (unfold R64 at *; omega) | (simp only [R32, R64] at *; omega)) (by first | assumption | omega | (unfold R32 at *; omega) | (unfold R64 at *; omega) | (simp only [R32, R64] at *; omega)) (by first | assumption | omega | (unfold R32 at *; omega) | (unfold R64 at *; omega) | (simp only [R32, R64] at *; omega)) (by first | assumption | omega | (unfold R32 at *; omega) | (unfold R64 at *; omega) | (simp only [R32, R64] at *; omega)) (show CF ((mo_strikesBy (v2 v 213 ((((3 * c) + 1)).toNat) t) 0 0).2) from (show CF ((mo_strikesBy (v2 v 213 ((((3 * c) + 1)).toNat) t) 0 0).2) from CF.of (show CF (v2 v 213 ((((3 * c) + 1)).toNat) t) from CF.p213 hi_5 (by omega)) (fun k h1 h2 => by rw [o_mo_strikesBy (by omega)]))) (by first | assumption | omega | (unfold R32 at *; omega) | (unfold R64 at *; omega) | (simp only [R32, R64] at *; omega)) hK

theorem of_mo_soon_35 {rk : Nat} (hk : (rk < 203 ∨ 203 < rk) ∧ (rk < 213 ∨ 213 < rk) ∧ (rk < 219 ∨ 231 < rk)) : ∀ (f : Nat) {v : VS} {c : Int} {o : Int} {g : Int} {m : Int} {t : Int}, (mo_soon_35 f v c o g m t).2 rk = v rk := by
  intro f
  induction f with
  | zero => intro v c o g m t; rfl
  | succ f ih =>
    intro v c o g m t
    rw [mo_soon_35]
    by_cases hc_ : t < (v 210 1)
    · rw [if_pos hc_] <;> clear hc_
      by_cases hc_ : m < (mo_strikesBy (v2 v 213 ((((3 * c) + 1)).toNat) t) 0 0).1
      · rw [if_pos hc_] <;> clear hc_
        all_goals (rw [ih, o_mo_strikesBy (by omega), v2_row (by omega)])
      · rw [if_neg hc_] <;> clear hc_
        all_goals (rw [ih, o_mo_strikesBy (by omega), v2_row (by omega)])
    · rw [if_neg hc_] <;> clear hc_
      all_goals (show v rk = _)
      all_goals rfl
theorem o_mo_soon_35 {rk : Nat} {f : Nat} {v : VS} {c : Int} {o : Int} {g : Int} {m : Int} {t : Int} (hk : (rk < 203 ∨ 203 < rk) ∧ (rk < 213 ∨ 213 < rk) ∧ (rk < 219 ∨ 231 < rk)) : (mo_soon_35 f v c o g m t).2 rk = v rk := of_mo_soon_35 hk f

theorem w_mo_soon {X : PX} {d b : Nat} {v : VS} {c : Int} (hX : XI v) (hp_a : R32 c) (hp_b : CF v) {Q : Option PV → Nat → VS → Prop} (hQ : XI (mo_soon v c).2 → (CF ((mo_soon v c).2)) → Q (some (.inl (mo_soon v c).1)) b (mo_soon v c).2) : WV X (d + 1 + 1 + 1 + 1 + 1 + 1) 311 0 [some (.inr (.inr (some 203))), some (.inl c), none, none, none, none, none] [] b v Q := by
  rw [mo_soon] at hQ
  refine r_ex 2 (pc' := 2) (lo' := [some (.inr (.inr (some 203))), some (.inl c), none, none, none, none, none]) (st' := [.inl 0, .inr (.inr (some 203))]) rfl ?_
  refine r_puti2 (j := 0) (pc' := 5) (pc0 := 2) (len := 3) rfl (s_203 _) rfl rfl rfl (Or.inl rfl) rfl rfl ?_
  have hX_1 : XI (v2 v 203 0 0) := XI.put hX trivial
  refine r_ex 2 (pc' := 7) (lo' := [some (.inr (.inr (some 203))), some (.inl c), none, none, none, none, none]) (st' := [.inl c, .inr (.inr (some 203))]) rfl ?_
  have hp_2 : R32 c := (by first | assumption | omega | (unfold R32 at *; omega) | (unfold R64 at *; omega) | (simp only [R32, R64] at *; omega))
  have hb_3 : 0 ≤ (v 210 4) ∧ (v 210 4) ≤ 4 := hX_1 210 4
  refine r_callb (P := 0 ≤ c ∧ c < (v 210 4)) (m := 310) (args := [.inr (.inr (some 203)), .inl c]) (n' := 311) (pc' := 10) (lo' := [some (.inr (.inr (some 203))), some (.inl c), none, none, none, none, none]) (st' := []) (I := .invokevirtual 310) (pc0 := 7) (len := 3) rfl rfl rfl (e_mo_isStart hX_1 hp_2) (fun h_7 => ?_) (fun h_7 => ?_)
  · show WV _ _ _ 10 _ _ _ _ _
    rw [if_pos h_7] at hQ
    refine r_ex 8 (pc' := 25) (lo' := [some (.inr (.inr (some 203))), some (.inl c), none, none, none, none, none]) (st' := [.inl ((3 * c) + 1), .inr (.inr (some 213))]) rfl ?_
    refine r_iald2 (j := 0) (x := (v 213 ((((3 * c) + 1)).toNat))) (pc' := 26) (pc0 := 25) (len := 1) rfl (s_213 _) (by first | assumption | omega | (unfold R32 at *; omega) | (unfold R64 at *; omega) | (simp only [R32, R64] at *; omega)) (by decide) rfl rfl ?_
    have hb_4 : 0 ≤ (v 213 ((((3 * c) + 1)).toNat)) ∧ (v 213 ((((3 * c) + 1)).toNat)) ≤ 299 := hX_1 213 ((((3 * c) + 1)).toNat)
    refine r_ex 7 (pc' := 35) (lo' := [some (.inr (.inr (some 203))), some (.inl c), some (.inl (v 213 ((((3 * c) + 1)).toNat))), some (.inl (-1)), some (.inl (-1)), some (.inl 0), none]) (st' := []) rfl ?_
    refine l_mo_soon_35 301 (v2 v 203 0 0) c (v 213 ((((3 * c) + 1)).toNat)) (-1) (-1) 0 _ hX_1 (by first | assumption | omega | (unfold R32 at *; omega) | (unfold R64 at *; omega) | (simp only [R32, R64] at *; omega)) (by first | assumption | omega | (unfold R32 at *; omega) | (unfold R64 at *; omega) | (simp only [R32, R64] at *; omega)) (by first | assumption | omega | (unfold R32 at *; omega) | (unfold R64 at *; omega) | (simp only [R32, R64] at *; omega)) (by first | assumption | omega | (unfold R32 at *; omega) | (unfold R64 at *; omega) | (simp only [R32, R64] at *; omega)) (by first | assumption | omega | (unfold R32 at *; omega) | (unfold R64 at *; omega) | (simp only [R32, R64] at *; omega)) (show CF (v2 v 203 0 0) from (show CF (v2 v 203 0 0) from CF.of hp_b (fun k h1 h2 => by rw [v2_row (by omega)]))) (by first | assumption | omega | (unfold R32 at *; omega) | (unfold R64 at *; omega) | (simp only [R32, R64] at *; omega)) (fun o4_12 o5_12 o6_12 hX_12 hv_12_0 hv_12_1 => ?_)
    show WV _ _ _ 89 _ _ _ _ _
    refine r_ex 8 (pc' := 99) (lo' := [some (.inr (.inr (some 203))), some (.inl c), some (.inl (v 213 ((((3 * c) + 1)).toNat))), some (.inl ((mo_soon_35 301 (v2 v 203 0 0) c (v 213 ((((3 * c) + 1)).toNat)) (-1) (-1) 0).1)), o4_12, o5_12, o6_12]) (st' := [.inl (v 213 ((((3 * c) + 1)).toNat)), .inl ((3 * c) + 1), .inr (.inr (some 213))]) rfl ?_
    refine r_iast2 (pc' := 100) (pc0 := 99) (len := 1) rfl (s_213 _) (by first | assumption | omega | (unfold R32 at *; omega) | (unfold R64 at *; omega) | (simp only [R32, R64] at *; omega)) (by decide) rfl ?_
    have hX_13 : XI (v2 ((mo_soon_35 301 (v2 v 203 0 0) c (v 213 ((((3 * c) + 1)).toNat)) (-1) (-1) 0).2) 213 ((((3 * c) + 1)).toNat) (v 213 ((((3 * c) + 1)).toNat))) := XI.put hX_12 (show 0 ≤ (v 213 ((((3 * c) + 1)).toNat)) ∧ (v 213 ((((3 * c) + 1)).toNat)) ≤ 299 from (by first | assumption | omega | (unfold R32 at *; omega) | (unfold R64 at *; omega) | (simp only [R32, R64] at *; omega)))
    refine r_ex 1 (pc' := 101) (lo' := [some (.inr (.inr (some 203))), some (.inl c), some (.inl (v 213 ((((3 * c) + 1)).toNat))), some (.inl ((mo_soon_35 301 (v2 v 203 0 0) c (v 213 ((((3 * c) + 1)).toNat)) (-1) (-1) 0).1)), o4_12, o5_12, o6_12]) (st' := [.inl ((mo_soon_35 301 (v2 v 203 0 0) c (v 213 ((((3 * c) + 1)).toNat)) (-1) (-1) 0).1)]) rfl ?_
    refine r_ret (rr := some (.inl ((mo_soon_35 301 (v2 v 203 0 0) c (v 213 ((((3 * c) + 1)).toNat)) (-1) (-1) 0).1))) (I := .ireturn) (pc0 := 101) (len := 1) rfl rfl ?_
    exact hQ hX_13 (show CF (v2 ((mo_soon_35 301 (v2 v 203 0 0) c (v 213 ((((3 * c) + 1)).toNat)) (-1) (-1) 0).2) 213 ((((3 * c) + 1)).toNat) (v 213 ((((3 * c) + 1)).toNat))) from (show CF (v2 ((mo_soon_35 301 (v2 v 203 0 0) c (v 213 ((((3 * c) + 1)).toNat)) (-1) (-1) 0).2) 213 ((((3 * c) + 1)).toNat) (v 213 ((((3 * c) + 1)).toNat))) from CF.p213 hv_12_1 (by omega)))
  · show WV _ _ _ 10 _ _ _ _ _
    rw [if_neg h_7] at hQ
    refine r_ex 2 (pc' := 15) (lo' := [some (.inr (.inr (some 203))), some (.inl c), none, none, none, none, none]) (st' := [.inl (-2)]) rfl ?_
    refine r_ret (rr := some (.inl (-2))) (I := .ireturn) (pc0 := 15) (len := 1) rfl rfl ?_
    exact hQ hX_1 (show CF (v2 v 203 0 0) from (show CF (v2 v 203 0 0) from CF.of hp_b (fun k h1 h2 => by rw [v2_row (by omega)])))

theorem e_mo_soon {X : PX} {d b : Nat} {v : VS} {c : Int} (hX : XI v) (hp_a : R32 c) (hp_b : CF v) : EvV X (d + 1 + 1 + 1 + 1 + 1 + 1) 311 [.inr (.inr (some 203)), .inl c] b v (some (.inl (mo_soon v c).1)) b ((mo_soon v c).2) := EvV.of (w_mo_soon hX hp_a hp_b (fun _ _ => ⟨rfl, rfl, rfl⟩))

theorem i_mo_soon {v : VS} {c : Int} (hX : XI v) (hp_a : R32 c) (hp_b : CF v) : XI ((mo_soon v c).2) := by
  have q : WV (0, fun _ => 0, none) (0 + 1 + 1 + 1 + 1 + 1 + 1) 311 0 [some (.inr (.inr (some 203))), some (.inl c), none, none, none, none, none] [] 1 v (fun _ _ _ => XI ((mo_soon v c).2)) := w_mo_soon (X := (0, fun _ => 0, none)) (d := 0) (b := 1) hX hp_a hp_b (fun q _ => q)
  obtain ⟨_, _, _, _, _, _, _, q⟩ := q
  exact q

theorem n_mo_soon {v : VS} {c : Int} (hX : XI v) (hp_a : R32 c) (hp_b : CF v) : CF ((mo_soon v c).2) := by
  have q : WV (0, fun _ => 0, none) (0 + 1 + 1 + 1 + 1 + 1 + 1) 311 0 [some (.inr (.inr (some 203))), some (.inl c), none, none, none, none, none] [] 1 v (fun _ _ _ => CF ((mo_soon v c).2)) := w_mo_soon (X := (0, fun _ => 0, none)) (d := 0) (b := 1) hX hp_a hp_b (fun _ q => q)
  obtain ⟨_, _, _, _, _, _, _, q⟩ := q
  exact q

theorem o_mo_soon {rk : Nat} {v : VS} {c : Int} (hk : (rk < 203 ∨ 203 < rk) ∧ (rk < 213 ∨ 213 < rk) ∧ (rk < 219 ∨ 231 < rk)) : (mo_soon v c).2 rk = v rk := by
  unfold mo_soon
  by_cases hc_ : 0 ≤ c ∧ c < (v 210 4)
  · rw [if_pos hc_] <;> clear hc_
    all_goals (show (v2 ((mo_soon_35 301 (v2 v 203 0 0) c (v 213 ((((3 * c) + 1)).toNat)) (-1) (-1) 0).2) 213 ((((3 * c) + 1)).toNat) (v 213 ((((3 * c) + 1)).toNat))) rk = _)
    all_goals (rw [v2_row (by omega), o_mo_soon_35 (by omega), v2_row (by omega)])
  · rw [if_neg hc_] <;> clear hc_
    all_goals (show (v2 v 203 0 0) rk = _)
    all_goals (rw [v2_row (by omega)])

theorem szv {v w : VS} : ∀ (f : Nat) (n x : Int), mo_sizeOf_4 f v n x = mo_sizeOf_4 f w n x := by
  intro f
  induction f with
  | zero => intro n x; rfl
  | succ f ih =>
    intro n x
    rw [mo_sizeOf_4, mo_sizeOf_4]
    split
    · rfl
    · exact ih _ _
noncomputable def mo_size (v : VS) (s : Int) : Int := Classical.choose (⟨mo_sizeOf (fun _ _ => 0) s, rfl⟩ : ∃ u : Int, u = mo_sizeOf (fun _ _ => 0) s)
theorem mo_size_eq (v : VS) (s : Int) : mo_size v s = mo_sizeOf v s := (Classical.choose_spec (⟨mo_sizeOf (fun _ _ => 0) s, rfl⟩ : ∃ u : Int, u = mo_sizeOf (fun _ _ => 0) s)).trans (by unfold mo_sizeOf; exact szv _ _ _)
theorem e_mo_size {X : PX} {d b : Nat} {v : VS} {s : Int} (hX : XI v) (hp_a : 0 ≤ s ∧ s < 4096) : EvV X d 271 [.inl s] b v (some (.inl (mo_size v s))) b v := by
  rw [mo_size_eq]
  exact e_mo_sizeOf hX hp_a
theorem n_mo_size {v : VS} {s : Int} (hX : XI v) (hp_a : 0 ≤ s ∧ s < 4096) : 0 ≤ mo_size v s ∧ mo_size v s ≤ 4096 := by
  rw [mo_size_eq]
  exact n_mo_sizeOf hX hp_a

noncomputable def mo_hush_31 : Nat → VS → Int → Int → Int → Int × VS
  | 0, v, n, g, s => (0, v)
  | f + 1, v, n, g, s => (if s < ((2 : Int) ^ ((v 210 3)).toNat) then (if (pm_and s (v 210 10)) = 0 then (if g = (-1) then (if n < (mo_strikesBy v 0 s).1 then (mo_hush_31 f ((mo_strikesBy v 0 s).2) n g (s + 1)) else (mo_hush_31 f ((mo_strikesBy v 0 s).2) n (mo_size ((mo_strikesBy v 0 s).2) s) (s + 1))) else (if (mo_size v s) < g then (if n < (mo_strikesBy v 0 s).1 then (mo_hush_31 f ((mo_strikesBy v 0 s).2) n g (s + 1)) else (mo_hush_31 f ((mo_strikesBy v 0 s).2) n (mo_size ((mo_strikesBy v 0 s).2) s) (s + 1))) else (mo_hush_31 f v n g (s + 1)))) else (mo_hush_31 f v n g (s + 1))) else (g, v))
noncomputable def mo_hush (v : VS) (n : Int) : Int × VS :=
  (if 0 < (v 209 0) then (if (0 : Int) ≤ n ∧ n ≤ (300 : Int) then ((mo_hush_31 4097 (v2 v 203 0 0) n (-1) 0).1, (mo_hush_31 4097 (v2 v 203 0 0) n (-1) 0).2) else ((-2), (v2 v 203 0 0))) else ((-2), (v2 v 203 0 0)))
theorem l_mo_hush_31 {X : PX} {d b : Nat} {Q : Option PV → Nat → VS → Prop}  : ∀ (f : Nat) (v : VS) (n : Int) (g : Int) (s : Int), XI v → (0 ≤ n ∧ n ≤ 300) → (-1 ≤ g ∧ g ≤ 4096) → (0 ≤ s ∧ s ≤ 4096) → (CF v) → (4096 < s + f) → (∀ qx3 : Option PV, XI ((mo_hush_31 f v n g s).2) → (-1 ≤ (mo_hush_31 f v n g s).1 ∧ (mo_hush_31 f v n g s).1 ≤ 4096) → WV X (d + 1 + 1 + 1 + 1 + 1 + 1) 312 92 [some (.inr (.inr (some 203))), some (.inl n), some (.inl ((mo_hush_31 f v n g s).1)), qx3] [] b (mo_hush_31 f v n g s).2 Q) → WV X (d + 1 + 1 + 1 + 1 + 1 + 1) 312 31 [some (.inr (.inr (some 203))), some (.inl n), some (.inl g), some (.inl s)] [] b v Q := by
  intro f
  induction f with
  | zero =>
    intro v n g s hX hi_0 hi_1 hi_2 hi_3 hf hK
    exfalso
    omega
  | succ f ih =>
    intro v n g s hX hi_0 hi_1 hi_2 hi_3 hf hK
    rw [mo_hush_31] at hK
    refine r_ex 5 (pc' := 38) (lo' := [some (.inr (.inr (some 203))), some (.inl n), some (.inl g), some (.inl s)]) (st' := [.inl 3, .inr (.inr (some 210)), .inl 1, .inl s]) rfl ?_
    refine r_iald2 (j := 0) (x := (v 210 3)) (pc' := 39) (pc0 := 38) (len := 1) rfl (s_210 _) (by first | assumption | omega | (unfold R32 at *; omega) | (unfold R64 at *; omega) | (simp only [R32, R64] at *; omega)) (by decide) rfl rfl ?_
    have hb_6 : 0 ≤ (v 210 3) ∧ (v 210 3) ≤ 12 := hX 210 3
    refine r_ex 1 (pc' := 40) (lo' := [some (.inr (.inr (some 203))), some (.inl n), some (.inl g), some (.inl s)]) (st' := [.inl (pm_shl 1 (v 210 3)), .inl s]) rfl ?_
    rw [shl1_eq (c := (v 210 3)) (by first | assumption | omega | (unfold R32 at *; omega) | (unfold R64 at *; omega) | (simp only [R32, R64] at *; omega))]
    have hb_7 := pw_in (c := (v 210 3)) (by first | assumption | omega | (unfold R32 at *; omega) | (unfold R64 at *; omega) | (simp only [R32, R64] at *; omega))
    have hb_8 := pw9 (c := (v 210 3)) (by first | assumption | omega | (unfold R32 at *; omega) | (unfold R64 at *; omega) | (simp only [R32, R64] at *; omega))
    have hb_9 := pw11 (c := (v 210 3)) (by first | assumption | omega | (unfold R32 at *; omega) | (unfold R64 at *; omega) | (simp only [R32, R64] at *; omega))
    refine n_ic_ge (pc0 := 40) (len := 3) (t := 92) rfl (by first | assumption | omega | (unfold R32 at *; omega) | (unfold R64 at *; omega) | (simp only [R32, R64] at *; omega)) (by first | assumption | omega | (unfold R32 at *; omega) | (unfold R64 at *; omega) | (simp only [R32, R64] at *; omega)) (fun h_40 => ?_) (fun h_40 => ?_)
    · show WV _ _ _ 92 _ _ _ _ _
      rw [if_neg h_40] at hK
      exact hK _ hX (by first | assumption | omega | (unfold R32 at *; omega) | (unfold R64 at *; omega) | (simp only [R32, R64] at *; omega))
    · show WV _ _ _ 43 _ _ _ _ _
      rw [if_pos h_40] at hK
      refine r_ex 4 (pc' := 50) (lo' := [some (.inr (.inr (some 203))), some (.inl n), some (.inl g), some (.inl s)]) (st' := [.inl 10, .inr (.inr (some 210)), .inl s]) rfl ?_
      refine r_iald2 (j := 0) (x := (v 210 10)) (pc' := 51) (pc0 := 50) (len := 1) rfl (s_210 _) (by first | assumption | omega | (unfold R32 at *; omega) | (unfold R64 at *; omega) | (simp only [R32, R64] at *; omega)) (by decide) rfl rfl ?_
      have hb_10 : 0 ≤ (v 210 10) ∧ (v 210 10) ≤ 4095 := hX 210 10
      refine r_ex 1 (pc' := 52) (lo' := [some (.inr (.inr (some 203))), some (.inl n), some (.inl g), some (.inl s)]) (st' := [.inl (pm_and s (v 210 10))]) rfl ?_
      refine n_if_ne (pc0 := 52) (len := 3) (t := 86) rfl (and_r32 _ _) (fun h_52 => ?_) (fun h_52 => ?_)
      · show WV _ _ _ 86 _ _ _ _ _
        rw [if_neg h_52] at hK
        refine r_ex 2 (pc' := 31) (lo' := [some (.inr (.inr (some 203))), some (.inl n), some (.inl g), some (.inl (s + 1))]) (st' := []) rfl ?_
        refine ih v n g (s + 1)  hX (by first | assumption | omega | (unfold R32 at *; omega) | (unfold R64 at *; omega) | (simp only [R32, R64] at *; omega)) (by first | assumption | omega | (unfold R32 at *; omega) | (unfold R64 at *; omega) | (simp only [R32, R64] at *; omega)) (by first | assumption | omega | (unfold R32 at *; omega) | (unfold R64 at *; omega) | (simp only [R32, R64] at *; omega)) (hi_3) (by first | assumption | omega | (unfold R32 at *; omega) | (unfold R64 at *; omega) | (simp only [R32, R64] at *; omega)) hK
      · show WV _ _ _ 55 _ _ _ _ _
        rw [if_pos h_52] at hK
        refine r_ex 2 (pc' := 57) (lo' := [some (.inr (.inr (some 203))), some (.inl n), some (.inl g), some (.inl s)]) (st' := [.inl (-1), .inl g]) rfl ?_
        refine n_ic_eq (pc0 := 57) (len := 3) (t := 71) rfl (by first | assumption | omega | (unfold R32 at *; omega) | (unfold R64 at *; omega) | (simp only [R32, R64] at *; omega)) (by first | assumption | omega | (unfold R32 at *; omega) | (unfold R64 at *; omega) | (simp only [R32, R64] at *; omega)) (fun h_57 => ?_) (fun h_57 => ?_)
        · show WV _ _ _ 71 _ _ _ _ _
          rw [if_pos h_57] at hK
          refine r_ex 3 (pc' := 74) (lo' := [some (.inr (.inr (some 203))), some (.inl n), some (.inl g), some (.inl s)]) (st' := [.inl s, .inl 0, .inr (.inr (some 203))]) rfl ?_
          have hp_11 : 0 ≤ (0 : Int) ∧ (0 : Int) ≤ 511 := (by first | assumption | omega | (unfold R32 at *; omega) | (unfold R64 at *; omega) | (simp only [R32, R64] at *; omega))
          have hp_12 : 0 ≤ s ∧ s ≤ 4095 := (by first | assumption | omega | (unfold R32 at *; omega) | (unfold R64 at *; omega) | (simp only [R32, R64] at *; omega))
          have hp_13 : CF v := hi_3
          refine r_call (m := 272) (args := [.inr (.inr (some 203)), .inl 0, .inl s]) (n' := 312) (pc' := 77) (lo' := [some (.inr (.inr (some 203))), some (.inl n), some (.inl g), some (.inl s)]) (st' := []) (I := .invokevirtual 272) (pc0 := 74) (len := 3) rfl rfl rfl (e_mo_strikesBy hX hp_11 hp_12 hp_13) ?_
          show WV _ _ _ 77 _ [.inl ((mo_strikesBy v 0 s).1)] _ (mo_strikesBy v 0 s).2 _
          have hX_14 : XI (mo_strikesBy v 0 s).2 := i_mo_strikesBy (v := v) (m := 0) (k := s) hX hp_11 hp_12 hp_13
          have hb_15 := n_mo_strikesBy (v := v) (m := 0) (k := s) hX hp_11 hp_12 hp_13
          refine r_ex 1 (pc' := 78) (lo' := [some (.inr (.inr (some 203))), some (.inl n), some (.inl g), some (.inl s)]) (st' := [.inl n, .inl ((mo_strikesBy v 0 s).1)]) rfl ?_
          refine n_ic_gt (pc0 := 78) (len := 3) (t := 86) rfl (by first | assumption | omega | (unfold R32 at *; omega) | (unfold R64 at *; omega) | (simp only [R32, R64] at *; omega)) (by first | assumption | omega | (unfold R32 at *; omega) | (unfold R64 at *; omega) | (simp only [R32, R64] at *; omega)) (fun h_78 => ?_) (fun h_78 => ?_)
          · show WV _ _ _ 86 _ _ _ _ _
            rw [if_pos h_78] at hK
            refine r_ex 2 (pc' := 31) (lo' := [some (.inr (.inr (some 203))), some (.inl n), some (.inl g), some (.inl (s + 1))]) (st' := []) rfl ?_
            refine ih ((mo_strikesBy v 0 s).2) n g (s + 1)  hX_14 (by first | assumption | omega | (unfold R32 at *; omega) | (unfold R64 at *; omega) | (simp only [R32, R64] at *; omega)) (by first | assumption | omega | (unfold R32 at *; omega) | (unfold R64 at *; omega) | (simp only [R32, R64] at *; omega)) (by first | assumption | omega | (unfold R32 at *; omega) | (unfold R64 at *; omega) | (simp only [R32, R64] at *; omega)) (show CF ((mo_strikesBy v 0 s).2) from (show CF ((mo_strikesBy v 0 s).2) from CF.of hi_3 (fun k h1 h2 => by rw [o_mo_strikesBy (by omega)]))) (by first | assumption | omega | (unfold R32 at *; omega) | (unfold R64 at *; omega) | (simp only [R32, R64] at *; omega)) hK
          · show WV _ _ _ 81 _ _ _ _ _
            rw [if_neg h_78] at hK
            refine r_ex 1 (pc' := 82) (lo' := [some (.inr (.inr (some 203))), some (.inl n), some (.inl g), some (.inl s)]) (st' := [.inl s]) rfl ?_
            have hp_16 : 0 ≤ s ∧ s < 4096 := (by first | assumption | omega | (unfold R32 at *; omega) | (unfold R64 at *; omega) | (simp only [R32, R64] at *; omega))
            refine r_call (m := 271) (args := [.inl s]) (n' := 312) (pc' := 85) (lo' := [some (.inr (.inr (some 203))), some (.inl n), some (.inl g), some (.inl s)]) (st' := []) (I := .invokestatic 271) (pc0 := 82) (len := 3) rfl rfl rfl (e_mo_size hX_14 hp_16) ?_
            show WV _ _ _ 85 _ [.inl (mo_size ((mo_strikesBy v 0 s).2) s)] _ _ _
            have hb_17 := n_mo_size (v := (mo_strikesBy v 0 s).2) (s := s) hX_14 hp_16
            refine r_ex 3 (pc' := 31) (lo' := [some (.inr (.inr (some 203))), some (.inl n), some (.inl (mo_size ((mo_strikesBy v 0 s).2) s)), some (.inl (s + 1))]) (st' := []) rfl ?_
            refine ih ((mo_strikesBy v 0 s).2) n (mo_size ((mo_strikesBy v 0 s).2) s) (s + 1)  hX_14 (by first | assumption | omega | (unfold R32 at *; omega) | (unfold R64 at *; omega) | (simp only [R32, R64] at *; omega)) (by first | assumption | omega | (unfold R32 at *; omega) | (unfold R64 at *; omega) | (simp only [R32, R64] at *; omega)) (by first | assumption | omega | (unfold R32 at *; omega) | (unfold R64 at *; omega) | (simp only [R32, R64] at *; omega)) (show CF ((mo_strikesBy v 0 s).2) from (show CF ((mo_strikesBy v 0 s).2) from CF.of hi_3 (fun k h1 h2 => by rw [o_mo_strikesBy (by omega)]))) (by first | assumption | omega | (unfold R32 at *; omega) | (unfold R64 at *; omega) | (simp only [R32, R64] at *; omega)) hK
        · show WV _ _ _ 60 _ _ _ _ _
          rw [if_neg h_57] at hK
          refine r_ex 1 (pc' := 61) (lo' := [some (.inr (.inr (some 203))), some (.inl n), some (.inl g), some (.inl s)]) (st' := [.inl s]) rfl ?_
          have hp_18 : 0 ≤ s ∧ s < 4096 := (by first | assumption | omega | (unfold R32 at *; omega) | (unfold R64 at *; omega) | (simp only [R32, R64] at *; omega))
          refine r_call (m := 271) (args := [.inl s]) (n' := 312) (pc' := 64) (lo' := [some (.inr (.inr (some 203))), some (.inl n), some (.inl g), some (.inl s)]) (st' := []) (I := .invokestatic 271) (pc0 := 61) (len := 3) rfl rfl rfl (e_mo_size hX hp_18) ?_
          show WV _ _ _ 64 _ [.inl (mo_size v s)] _ _ _
          have hb_19 := n_mo_size (v := v) (s := s) hX hp_18
          refine r_ex 1 (pc' := 65) (lo' := [some (.inr (.inr (some 203))), some (.inl n), some (.inl g), some (.inl s)]) (st' := [.inl g, .inl (mo_size v s)]) rfl ?_
          refine n_ic_lt (pc0 := 65) (len := 3) (t := 71) rfl (by first | assumption | omega | (unfold R32 at *; omega) | (unfold R64 at *; omega) | (simp only [R32, R64] at *; omega)) (by first | assumption | omega | (unfold R32 at *; omega) | (unfold R64 at *; omega) | (simp only [R32, R64] at *; omega)) (fun h_65 => ?_) (fun h_65 => ?_)
          · show WV _ _ _ 71 _ _ _ _ _
            rw [if_pos h_65] at hK
            refine r_ex 3 (pc' := 74) (lo' := [some (.inr (.inr (some 203))), some (.inl n), some (.inl g), some (.inl s)]) (st' := [.inl s, .inl 0, .inr (.inr (some 203))]) rfl ?_
            have hp_20 : 0 ≤ (0 : Int) ∧ (0 : Int) ≤ 511 := (by first | assumption | omega | (unfold R32 at *; omega) | (unfold R64 at *; omega) | (simp only [R32, R64] at *; omega))
            have hp_21 : 0 ≤ s ∧ s ≤ 4095 := (by first | assumption | omega | (unfold R32 at *; omega) | (unfold R64 at *; omega) | (simp only [R32, R64] at *; omega))
            have hp_22 : CF v := hi_3
            refine r_call (m := 272) (args := [.inr (.inr (some 203)), .inl 0, .inl s]) (n' := 312) (pc' := 77) (lo' := [some (.inr (.inr (some 203))), some (.inl n), some (.inl g), some (.inl s)]) (st' := []) (I := .invokevirtual 272) (pc0 := 74) (len := 3) rfl rfl rfl (e_mo_strikesBy hX hp_20 hp_21 hp_22) ?_
            show WV _ _ _ 77 _ [.inl ((mo_strikesBy v 0 s).1)] _ (mo_strikesBy v 0 s).2 _
            have hX_23 : XI (mo_strikesBy v 0 s).2 := i_mo_strikesBy (v := v) (m := 0) (k := s) hX hp_20 hp_21 hp_22
            have hb_24 := n_mo_strikesBy (v := v) (m := 0) (k := s) hX hp_20 hp_21 hp_22
            refine r_ex 1 (pc' := 78) (lo' := [some (.inr (.inr (some 203))), some (.inl n), some (.inl g), some (.inl s)]) (st' := [.inl n, .inl ((mo_strikesBy v 0 s).1)]) rfl ?_
            refine n_ic_gt (pc0 := 78) (len := 3) (t := 86) rfl (by first | assumption | omega | (unfold R32 at *; omega) | (unfold R64 at *; omega) | (simp only [R32, R64] at *; omega)) (by first | assumption | omega | (unfold R32 at *; omega) | (unfold R64 at *; omega) | (simp only [R32, R64] at *; omega)) (fun h_78 => ?_) (fun h_78 => ?_)
            · show WV _ _ _ 86 _ _ _ _ _
              rw [if_pos h_78] at hK
              refine r_ex 2 (pc' := 31) (lo' := [some (.inr (.inr (some 203))), some (.inl n), some (.inl g), some (.inl (s + 1))]) (st' := []) rfl ?_
              refine ih ((mo_strikesBy v 0 s).2) n g (s + 1)  hX_23 (by first | assumption | omega | (unfold R32 at *; omega) | (unfold R64 at *; omega) | (simp only [R32, R64] at *; omega)) (by first | assumption | omega | (unfold R32 at *; omega) | (unfold R64 at *; omega) | (simp only [R32, R64] at *; omega)) (by first | assumption | omega | (unfold R32 at *; omega) | (unfold R64 at *; omega) | (simp only [R32, R64] at *; omega)) (show CF ((mo_strikesBy v 0 s).2) from (show CF ((mo_strikesBy v 0 s).2) from CF.of hi_3 (fun k h1 h2 => by rw [o_mo_strikesBy (by omega)]))) (by first | assumption | omega | (unfold R32 at *; omega) | (unfold R64 at *; omega) | (simp only [R32, R64] at *; omega)) hK
            · show WV _ _ _ 81 _ _ _ _ _
              rw [if_neg h_78] at hK
              refine r_ex 1 (pc' := 82) (lo' := [some (.inr (.inr (some 203))), some (.inl n), some (.inl g), some (.inl s)]) (st' := [.inl s]) rfl ?_
              have hp_25 : 0 ≤ s ∧ s < 4096 := (by first | assumption | omega | (unfold R32 at *; omega) | (unfold R64 at *; omega) | (simp only [R32, R64] at *; omega))
              refine r_call (m := 271) (args := [.inl s]) (n' := 312) (pc' := 85) (lo' := [some (.inr (.inr (some 203))), some (.inl n), some (.inl g), some (.inl s)]) (st' := []) (I := .invokestatic 271) (pc0 := 82) (len := 3) rfl rfl rfl (e_mo_size hX_23 hp_25) ?_
              show WV _ _ _ 85 _ [.inl (mo_size ((mo_strikesBy v 0 s).2) s)] _ _ _
              have hb_26 := n_mo_size (v := (mo_strikesBy v 0 s).2) (s := s) hX_23 hp_25
              refine r_ex 3 (pc' := 31) (lo' := [some (.inr (.inr (some 203))), some (.inl n), some (.inl (mo_size ((mo_strikesBy v 0 s).2) s)), some (.inl (s + 1))]) (st' := []) rfl ?_
              refine ih ((mo_strikesBy v 0 s).2) n (mo_size ((mo_strikesBy v 0 s).2) s) (s + 1)  hX_23 (by first | assumption | omega | (unfold R32 at *; omega) | (unfold R64 at *; omega) | (simp only [R32, R64] at *; omega)) (by first | assumption | omega | (unfold R32 at *; omega) | (unfold R64 at *; omega) | (simp only [R32, R64] at *; omega)) (by first | assumption | omega | (unfold R32 at *; omega) | (unfold R64 at *; omega) | (simp only [R32, R64] at *; omega)) (show CF ((mo_strikesBy v 0 s).2) from (show CF ((mo_strikesBy v 0 s).2) from CF.of hi_3 (fun k h1 h2 => by rw [o_mo_strikesBy (by omega)]))) (by first | assumption | omega | (unfold R32 at *; omega) | (unfold R64 at *; omega) | (simp only [R32, R64] at *; omega)) hK
          · show WV _ _ _ 68 _ _ _ _ _
            rw [if_neg h_65] at hK
            refine r_ex 3 (pc' := 31) (lo' := [some (.inr (.inr (some 203))), some (.inl n), some (.inl g), some (.inl (s + 1))]) (st' := []) rfl ?_
            refine ih v n g (s + 1)  hX (by first | assumption | omega | (unfold R32 at *; omega) | (unfold R64 at *; omega) | (simp only [R32, R64] at *; omega)) (by first | assumption | omega | (unfold R32 at *; omega) | (unfold R64 at *; omega) | (simp only [R32, R64] at *; omega)) (by first | assumption | omega | (unfold R32 at *; omega) | (unfold R64 at *; omega) | (simp only [R32, R64] at *; omega)) (hi_3) (by first | assumption | omega | (unfold R32 at *; omega) | (unfold R64 at *; omega) | (simp only [R32, R64] at *; omega)) hK

theorem of_mo_hush_31 {rk : Nat} (hk : (rk < 203 ∨ 203 < rk) ∧ (rk < 219 ∨ 231 < rk)) : ∀ (f : Nat) {v : VS} {n : Int} {g : Int} {s : Int}, (mo_hush_31 f v n g s).2 rk = v rk := by
  intro f
  induction f with
  | zero => intro v n g s; rfl
  | succ f ih =>
    intro v n g s
    rw [mo_hush_31]
    by_cases hc_ : s < ((2 : Int) ^ ((v 210 3)).toNat)
    · rw [if_pos hc_] <;> clear hc_
      by_cases hc_ : (pm_and s (v 210 10)) = 0
      · rw [if_pos hc_] <;> clear hc_
        by_cases hc_ : g = (-1)
        · rw [if_pos hc_] <;> clear hc_
          by_cases hc_ : n < (mo_strikesBy v 0 s).1
          · rw [if_pos hc_] <;> clear hc_
            all_goals (rw [ih, o_mo_strikesBy (by omega)])
          · rw [if_neg hc_] <;> clear hc_
            all_goals (rw [ih, o_mo_strikesBy (by omega)])
        · rw [if_neg hc_] <;> clear hc_
          by_cases hc_ : (mo_size v s) < g
          · rw [if_pos hc_] <;> clear hc_
            by_cases hc_ : n < (mo_strikesBy v 0 s).1
            · rw [if_pos hc_] <;> clear hc_
              all_goals (rw [ih, o_mo_strikesBy (by omega)])
            · rw [if_neg hc_] <;> clear hc_
              all_goals (rw [ih, o_mo_strikesBy (by omega)])
          · rw [if_neg hc_] <;> clear hc_
            all_goals (rw [ih])
      · rw [if_neg hc_] <;> clear hc_
        all_goals (rw [ih])
    · rw [if_neg hc_] <;> clear hc_
      all_goals (show v rk = _)
      all_goals rfl
theorem o_mo_hush_31 {rk : Nat} {f : Nat} {v : VS} {n : Int} {g : Int} {s : Int} (hk : (rk < 203 ∨ 203 < rk) ∧ (rk < 219 ∨ 231 < rk)) : (mo_hush_31 f v n g s).2 rk = v rk := of_mo_hush_31 hk f

theorem w_mo_hush {X : PX} {d b : Nat} {v : VS} {n : Int} (hX : XI v) (hp_a : R32 n) (hp_b : CF v) {Q : Option PV → Nat → VS → Prop} (hQ : XI (mo_hush v n).2 → Q (some (.inl (mo_hush v n).1)) b (mo_hush v n).2) : WV X (d + 1 + 1 + 1 + 1 + 1 + 1) 312 0 [some (.inr (.inr (some 203))), some (.inl n), none, none] [] b v Q := by
  rw [mo_hush] at hQ
  refine r_ex 2 (pc' := 2) (lo' := [some (.inr (.inr (some 203))), some (.inl n), none, none]) (st' := [.inl 0, .inr (.inr (some 203))]) rfl ?_
  refine r_puti2 (j := 0) (pc' := 5) (pc0 := 2) (len := 3) rfl (s_203 _) rfl rfl rfl (Or.inl rfl) rfl rfl ?_
  have hX_1 : XI (v2 v 203 0 0) := XI.put hX trivial
  refine r_ex 1 (pc' := 6) (lo' := [some (.inr (.inr (some 203))), some (.inl n), none, none]) (st' := [.inr (.inr (some 203))]) rfl ?_
  have hb_2 : 0 ≤ (v 209 0) ∧ (v 209 0) ≤ 2001 := hX_1 209 0
  refine r_callb (P := 0 < (v 209 0)) (m := 245) (args := [.inr (.inr (some 203))]) (n' := 312) (pc' := 9) (lo' := [some (.inr (.inr (some 203))), some (.inl n), none, none]) (st' := []) (I := .invokevirtual 245) (pc0 := 6) (len := 3) rfl rfl rfl (e_mo_isBay hX_1) (fun h_6 => ?_) (fun h_6 => ?_)
  · show WV _ _ _ 9 _ _ _ _ _
    rw [if_pos h_6] at hQ
    refine r_ex 2 (pc' := 13) (lo' := [some (.inr (.inr (some 203))), some (.inl n), none, none]) (st' := [.inl n]) rfl ?_
    refine n_i2l (pc' := 14) (pc0 := 13) (len := 1) rfl (by first | assumption | omega | (unfold R32 at *; omega) | (unfold R64 at *; omega) | (simp only [R32, R64] at *; omega)) rfl ?_
    refine r_ex 2 (pc' := 18) (lo' := [some (.inr (.inr (some 203))), some (.inl n), none, none]) (st' := [.inr (.inl 300), .inr (.inl 0), .inr (.inl n)]) rfl ?_
    have hp_3 : R64 n := (by first | assumption | omega | (unfold R32 at *; omega) | (unfold R64 at *; omega) | (simp only [R32, R64] at *; omega))
    have hp_4 : R64 (0 : Int) := (by first | assumption | omega | (unfold R32 at *; omega) | (unfold R64 at *; omega) | (simp only [R32, R64] at *; omega))
    have hp_5 : R64 (300 : Int) := (by first | assumption | omega | (unfold R32 at *; omega) | (unfold R64 at *; omega) | (simp only [R32, R64] at *; omega))
    refine r_callb (P := (0 : Int) ≤ n ∧ n ≤ (300 : Int)) (m := 202) (args := [.inr (.inl n), .inr (.inl 0), .inr (.inl 300)]) (n' := 312) (pc' := 21) (lo' := [some (.inr (.inr (some 203))), some (.inl n), none, none]) (st' := []) (I := .invokestatic 202) (pc0 := 18) (len := 3) rfl rfl rfl (e_mo_in hX_1 hp_3 hp_4 hp_5) (fun h_18 => ?_) (fun h_18 => ?_)
    · show WV _ _ _ 21 _ _ _ _ _
      rw [if_pos h_18] at hQ
      refine r_ex 5 (pc' := 31) (lo' := [some (.inr (.inr (some 203))), some (.inl n), some (.inl (-1)), some (.inl 0)]) (st' := []) rfl ?_
      refine l_mo_hush_31 4097 (v2 v 203 0 0) n (-1) 0  hX_1 (by first | assumption | omega | (unfold R32 at *; omega) | (unfold R64 at *; omega) | (simp only [R32, R64] at *; omega)) (by first | assumption | omega | (unfold R32 at *; omega) | (unfold R64 at *; omega) | (simp only [R32, R64] at *; omega)) (by first | assumption | omega | (unfold R32 at *; omega) | (unfold R64 at *; omega) | (simp only [R32, R64] at *; omega)) (show CF (v2 v 203 0 0) from (show CF (v2 v 203 0 0) from CF.of hp_b (fun k h1 h2 => by rw [v2_row (by omega)]))) (by first | assumption | omega | (unfold R32 at *; omega) | (unfold R64 at *; omega) | (simp only [R32, R64] at *; omega)) (fun o3_27 hX_27 hv_27_0 => ?_)
      show WV _ _ _ 92 _ _ _ _ _
      refine r_ex 1 (pc' := 93) (lo' := [some (.inr (.inr (some 203))), some (.inl n), some (.inl ((mo_hush_31 4097 (v2 v 203 0 0) n (-1) 0).1)), o3_27]) (st' := [.inl ((mo_hush_31 4097 (v2 v 203 0 0) n (-1) 0).1)]) rfl ?_
      refine r_ret (rr := some (.inl ((mo_hush_31 4097 (v2 v 203 0 0) n (-1) 0).1))) (I := .ireturn) (pc0 := 93) (len := 1) rfl rfl ?_
      exact hQ hX_27 
    · show WV _ _ _ 21 _ _ _ _ _
      rw [if_neg h_18] at hQ
      refine r_ex 2 (pc' := 26) (lo' := [some (.inr (.inr (some 203))), some (.inl n), none, none]) (st' := [.inl (-2)]) rfl ?_
      refine r_ret (rr := some (.inl (-2))) (I := .ireturn) (pc0 := 26) (len := 1) rfl rfl ?_
      exact hQ hX_1 
  · show WV _ _ _ 9 _ _ _ _ _
    rw [if_neg h_6] at hQ
    refine r_ex 2 (pc' := 26) (lo' := [some (.inr (.inr (some 203))), some (.inl n), none, none]) (st' := [.inl (-2)]) rfl ?_
    refine r_ret (rr := some (.inl (-2))) (I := .ireturn) (pc0 := 26) (len := 1) rfl rfl ?_
    exact hQ hX_1 

theorem e_mo_hush {X : PX} {d b : Nat} {v : VS} {n : Int} (hX : XI v) (hp_a : R32 n) (hp_b : CF v) : EvV X (d + 1 + 1 + 1 + 1 + 1 + 1) 312 [.inr (.inr (some 203)), .inl n] b v (some (.inl (mo_hush v n).1)) b ((mo_hush v n).2) := EvV.of (w_mo_hush hX hp_a hp_b (fun _ => ⟨rfl, rfl, rfl⟩))

theorem i_mo_hush {v : VS} {n : Int} (hX : XI v) (hp_a : R32 n) (hp_b : CF v) : XI ((mo_hush v n).2) := by
  have q : WV (0, fun _ => 0, none) (0 + 1 + 1 + 1 + 1 + 1 + 1) 312 0 [some (.inr (.inr (some 203))), some (.inl n), none, none] [] 1 v (fun _ _ _ => XI ((mo_hush v n).2)) := w_mo_hush (X := (0, fun _ => 0, none)) (d := 0) (b := 1) hX hp_a hp_b (fun q => q)
  obtain ⟨_, _, _, _, _, _, _, q⟩ := q
  exact q

theorem o_mo_hush {rk : Nat} {v : VS} {n : Int} (hk : (rk < 203 ∨ 203 < rk) ∧ (rk < 219 ∨ 231 < rk)) : (mo_hush v n).2 rk = v rk := by
  unfold mo_hush
  by_cases hc_ : 0 < (v 209 0)
  · rw [if_pos hc_] <;> clear hc_
    by_cases hc_ : (0 : Int) ≤ n ∧ n ≤ (300 : Int)
    · rw [if_pos hc_] <;> clear hc_
      all_goals (show ((mo_hush_31 4097 (v2 v 203 0 0) n (-1) 0).2) rk = _)
      all_goals (rw [o_mo_hush_31 (by omega), v2_row (by omega)])
    · rw [if_neg hc_] <;> clear hc_
      all_goals (show (v2 v 203 0 0) rk = _)
      all_goals (rw [v2_row (by omega)])
  · rw [if_neg hc_] <;> clear hc_
    all_goals (show (v2 v 203 0 0) rk = _)
    all_goals (rw [v2_row (by omega)])
