/-! what would be -/
def cl_stAdd (v : VS) (c : Int) (s : Int) (h : Int) : VS :=
  (if 4 < (v 68 0) then v else (v2 (v2 (v2 (v2 v 69 (((v 68 0)).toNat) c) 70 (((v 68 0)).toNat) s) 71 (((v 68 0)).toNat) h) 68 0 ((v 68 0) + 1)))
theorem w_cl_stAdd {X : PX} {d b : Nat} {v : VS} {c : Int} {s : Int} {h : Int} (hX : XI v) (hp_a : 0 ≤ c ∧ c ≤ 8) (hp_b : 0 ≤ s ∧ s ≤ 299) (hp_c : 0 ≤ h ∧ h ≤ 99) {Q : Option PV → Nat → VS → Prop} (hQ : XI (cl_stAdd v c s h) → Q none b (cl_stAdd v c s h)) : WV X d 52 0 [some (.inr (.inr (some 68))), some (.inl c), some (.inl s), some (.inl h)] [] b v Q := by
  rw [cl_stAdd] at hQ
  refine r_ex 3 (pc' := 5) (lo' := [some (.inr (.inr (some 68))), some (.inl c), some (.inl s), some (.inl h)]) (st' := [.inl 4, .inl (v 68 0)]) rfl ?_
  have hb_1 : 0 ≤ (v 68 0) ∧ (v 68 0) ≤ 5 := hX 68 0
  refine n_ic_gt (pc0 := 5) (len := 3) (t := 48) rfl (by first | assumption | omega | (unfold R32 at *; omega) | (unfold R64 at *; omega) | (simp only [R32, R64] at *; omega)) (by first | assumption | omega | (unfold R32 at *; omega) | (unfold R64 at *; omega) | (simp only [R32, R64] at *; omega)) (fun h_5 => ?_) (fun h_5 => ?_)
  · show WV _ _ _ 48 _ _ _ _ _
    rw [if_pos h_5] at hQ
    refine r_ret (rr := none) (I := .return_) (pc0 := 48) (len := 1) rfl rfl ?_
    exact hQ hX 
  · show WV _ _ _ 8 _ _ _ _ _
    rw [if_neg h_5] at hQ
    refine r_ex 5 (pc' := 17) (lo' := [some (.inr (.inr (some 68))), some (.inl c), some (.inl s), some (.inl h)]) (st' := [.inl c, .inl (v 68 0), .inr (.inr (some 69))]) rfl ?_
    refine r_iast2 (pc' := 18) (pc0 := 17) (len := 1) rfl (s_69 _) (by first | assumption | omega | (unfold R32 at *; omega) | (unfold R64 at *; omega) | (simp only [R32, R64] at *; omega)) (by decide) rfl ?_
    have hX_2 : XI (v2 v 69 (((v 68 0)).toNat) c) := XI.put hX (show 0 ≤ c ∧ c ≤ 8 from (by first | assumption | omega | (unfold R32 at *; omega) | (unfold R64 at *; omega) | (simp only [R32, R64] at *; omega)))
    refine r_ex 5 (pc' := 27) (lo' := [some (.inr (.inr (some 68))), some (.inl c), some (.inl s), some (.inl h)]) (st' := [.inl s, .inl (v 68 0), .inr (.inr (some 70))]) rfl ?_
    have hb_3 : 0 ≤ (v 68 0) ∧ (v 68 0) ≤ 5 := hX_2 68 0
    refine r_iast2 (pc' := 28) (pc0 := 27) (len := 1) rfl (s_70 _) (by first | assumption | omega | (unfold R32 at *; omega) | (unfold R64 at *; omega) | (simp only [R32, R64] at *; omega)) (by decide) rfl ?_
    have hX_4 : XI (v2 (v2 v 69 (((v 68 0)).toNat) c) 70 (((v 68 0)).toNat) s) := XI.put hX_2 (show 0 ≤ s ∧ s ≤ 299 from (by first | assumption | omega | (unfold R32 at *; omega) | (unfold R64 at *; omega) | (simp only [R32, R64] at *; omega)))
    refine r_ex 5 (pc' := 37) (lo' := [some (.inr (.inr (some 68))), some (.inl c), some (.inl s), some (.inl h)]) (st' := [.inl h, .inl (v 68 0), .inr (.inr (some 71))]) rfl ?_
    have hb_5 : 0 ≤ (v 68 0) ∧ (v 68 0) ≤ 5 := hX_4 68 0
    refine r_iast2 (pc' := 38) (pc0 := 37) (len := 1) rfl (s_71 _) (by first | assumption | omega | (unfold R32 at *; omega) | (unfold R64 at *; omega) | (simp only [R32, R64] at *; omega)) (by decide) rfl ?_
    have hX_6 : XI (v2 (v2 (v2 v 69 (((v 68 0)).toNat) c) 70 (((v 68 0)).toNat) s) 71 (((v 68 0)).toNat) h) := XI.put hX_4 (show 0 ≤ h ∧ h ≤ 99 from (by first | assumption | omega | (unfold R32 at *; omega) | (unfold R64 at *; omega) | (simp only [R32, R64] at *; omega)))
    refine r_ex 5 (pc' := 45) (lo' := [some (.inr (.inr (some 68))), some (.inl c), some (.inl s), some (.inl h)]) (st' := [.inl ((v 68 0) + 1), .inr (.inr (some 68))]) rfl ?_
    have hb_7 : 0 ≤ (v 68 0) ∧ (v 68 0) ≤ 5 := hX_6 68 0
    refine r_puti2 (j := 0) (pc' := 48) (pc0 := 45) (len := 3) rfl (s_68 _) rfl rfl rfl (Or.inl rfl) rfl rfl ?_
    have hX_8 : XI (v2 (v2 (v2 (v2 v 69 (((v 68 0)).toNat) c) 70 (((v 68 0)).toNat) s) 71 (((v 68 0)).toNat) h) 68 0 ((v 68 0) + 1)) := XI.put hX_6 (show 0 ≤ ((v 68 0) + 1) ∧ ((v 68 0) + 1) ≤ 5 from (by first | assumption | omega | (unfold R32 at *; omega) | (unfold R64 at *; omega) | (simp only [R32, R64] at *; omega)))
    refine r_ret (rr := none) (I := .return_) (pc0 := 48) (len := 1) rfl rfl ?_
    exact hQ hX_8 

theorem e_cl_stAdd {X : PX} {d b : Nat} {v : VS} {c : Int} {s : Int} {h : Int} (hX : XI v) (hp_a : 0 ≤ c ∧ c ≤ 8) (hp_b : 0 ≤ s ∧ s ≤ 299) (hp_c : 0 ≤ h ∧ h ≤ 99) : EvV X d 52 [.inr (.inr (some 68)), .inl c, .inl s, .inl h] b v none b (cl_stAdd v c s h) := EvV.of (w_cl_stAdd hX hp_a hp_b hp_c (fun _ => ⟨rfl, rfl, rfl⟩))

theorem i_cl_stAdd {v : VS} {c : Int} {s : Int} {h : Int} (hX : XI v) (hp_a : 0 ≤ c ∧ c ≤ 8) (hp_b : 0 ≤ s ∧ s ≤ 299) (hp_c : 0 ≤ h ∧ h ≤ 99) : XI (cl_stAdd v c s h) := by
  have q : WV (0, fun _ => 0, none) 0 52 0 [some (.inr (.inr (some 68))), some (.inl c), some (.inl s), some (.inl h)] [] 1 v (fun _ _ _ => XI (cl_stAdd v c s h)) := w_cl_stAdd (X := (0, fun _ => 0, none)) (d := 0) (b := 1) hX hp_a hp_b hp_c (fun q => q)
  obtain ⟨_, _, _, _, _, _, _, q⟩ := q
  exact q

theorem o_cl_stAdd {rk : Nat} {v : VS} {c : Int} {s : Int} {h : Int} (hk : (rk < 68 ∨ 71 < rk)) : (cl_stAdd v c s h) rk = v rk := by
  unfold cl_stAdd
  by_cases hc_ : 4 < (v 68 0)
  · rw [if_pos hc_]
    all_goals (show v rk = _)
    all_goals rfl
  · rw [if_neg hc_]
    all_goals (show (v2 (v2 (v2 (v2 v 69 (((v 68 0)).toNat) c) 70 (((v 68 0)).toNat) s) 71 (((v 68 0)).toNat) h) 68 0 ((v 68 0) + 1)) rk = _)
    all_goals (rw [v2_row (by omega), v2_row (by omega), v2_row (by omega), v2_row (by omega)])

def cl_isSilentWithout (v : VS) (c : Int) (e : Int) : Int × VS :=
  (if ((xplay 91 (v2 (v2 (cl_asTold v) 67 1 (setb ((cl_asTold v) 67 1) e)) 67 7 c)) 91 18) = 0 then (1, (xplay 91 (v2 (v2 (cl_asTold v) 67 1 (setb ((cl_asTold v) 67 1) e)) 67 7 c))) else (0, (xplay 91 (v2 (v2 (cl_asTold v) 67 1 (setb ((cl_asTold v) 67 1) e)) 67 7 c))))
theorem w_cl_isSilentWithout {X : PX} {d b : Nat} {v : VS} {c : Int} {e : Int} (hX : XI v) (hp_a : 0 ≤ c ∧ c ≤ 8) (hp_b : 0 ≤ e ∧ e ≤ 11) {Q : Option PV → Nat → VS → Prop} (hQ : XI (cl_isSilentWithout v c e).2 → (0 ≤ (cl_isSilentWithout v c e).1 ∧ (cl_isSilentWithout v c e).1 ≤ 1) → Q (some (.inl (cl_isSilentWithout v c e).1)) b (cl_isSilentWithout v c e).2) : WV X (d + 1 + 1 + 1 + 1 + 1 + 1) 123 0 [some (.inr (.inr (some 0))), some (.inl c), some (.inl e)] [] b v Q := by
  rw [cl_isSilentWithout] at hQ
  refine r_ex 4 (pc' := 8) (lo' := [some (.inr (.inr (some 0))), some (.inl c), some (.inl e)]) (st' := [.inr (.inr (some 33)), .inr (.inr (some 67))]) rfl ?_
  refine r_call (m := 73) (args := [.inr (.inr (some 67)), .inr (.inr (some 33))]) (n' := 123) (pc' := 11) (lo' := [some (.inr (.inr (some 0))), some (.inl c), some (.inl e)]) (st' := []) (I := .invokevirtual 73) (pc0 := 8) (len := 3) rfl rfl rfl (e_cl_asTold hX) ?_
  show WV _ _ _ 11 _ [] _ (cl_asTold v) _
  have hX_1 : XI (cl_asTold v) := i_cl_asTold (v := v) hX
  refine r_ex 8 (pc' := 23) (lo' := [some (.inr (.inr (some 0))), some (.inl c), some (.inl e)]) (st' := [.inl (pm_or ((cl_asTold v) 67 1) (pm_shl 1 e)), .inr (.inr (some 67))]) rfl ?_
  have hb_2 : 0 ≤ ((cl_asTold v) 67 1) ∧ ((cl_asTold v) 67 1) ≤ 4095 := hX_1 67 1
  rw [or_eq (x := ((cl_asTold v) 67 1)) (c := e) (by first | assumption | omega | (unfold R32 at *; omega) | (unfold R64 at *; omega) | (simp only [R32, R64] at *; omega)) (by first | assumption | omega | (unfold R32 at *; omega) | (unfold R64 at *; omega) | (simp only [R32, R64] at *; omega))]
  have hb_3 := setb_in (x := ((cl_asTold v) 67 1)) (c := e) (k := 12) (by first | assumption | omega | (unfold R32 at *; omega) | (unfold R64 at *; omega) | (simp only [R32, R64] at *; omega)) (by first | assumption | omega | (unfold R32 at *; omega) | (unfold R64 at *; omega) | (simp only [R32, R64] at *; omega))
  refine r_puti2 (j := 1) (pc' := 26) (pc0 := 23) (len := 3) rfl (s_67 _) rfl rfl rfl (Or.inl rfl) rfl rfl ?_
  have hX_4 : XI (v2 (cl_asTold v) 67 1 (setb ((cl_asTold v) 67 1) e)) := XI.put hX_1 (show 0 ≤ (setb ((cl_asTold v) 67 1) e) ∧ (setb ((cl_asTold v) 67 1) e) ≤ 4095 from (by first | assumption | omega | (unfold R32 at *; omega) | (unfold R64 at *; omega) | (simp only [R32, R64] at *; omega)))
  refine r_ex 3 (pc' := 31) (lo' := [some (.inr (.inr (some 0))), some (.inl c), some (.inl e)]) (st' := [.inl c, .inr (.inr (some 67))]) rfl ?_
  refine r_puti2 (j := 7) (pc' := 34) (pc0 := 31) (len := 3) rfl (s_67 _) rfl rfl rfl (Or.inl rfl) rfl rfl ?_
  have hX_5 : XI (v2 (v2 (cl_asTold v) 67 1 (setb ((cl_asTold v) 67 1) e)) 67 7 c) := XI.put hX_4 (show -1 ≤ c ∧ c ≤ 8 from (by first | assumption | omega | (unfold R32 at *; omega) | (unfold R64 at *; omega) | (simp only [R32, R64] at *; omega)))
  refine r_ex 2 (pc' := 38) (lo' := [some (.inr (.inr (some 0))), some (.inl c), some (.inl e)]) (st' := [.inr (.inr (some 91))]) rfl ?_
  refine r_call (m := 74) (args := [.inr (.inr (some 91))]) (n' := 123) (pc' := 41) (lo' := [some (.inr (.inr (some 0))), some (.inl c), some (.inl e)]) (st' := []) (I := .invokevirtual 74) (pc0 := 38) (len := 3) rfl rfl rfl (x_play91 hX_5) ?_
  show WV _ _ _ 41 _ [] _ (xplay 91 (v2 (v2 (cl_asTold v) 67 1 (setb ((cl_asTold v) 67 1) e)) 67 7 c)) _
  have hX_6 : XI (xplay 91 (v2 (v2 (cl_asTold v) 67 1 (setb ((cl_asTold v) 67 1) e)) 67 7 c)) := XI_play91 (v := (v2 (v2 (cl_asTold v) 67 1 (setb ((cl_asTold v) 67 1) e)) 67 7 c)) hX_5
  refine r_ex 3 (pc' := 48) (lo' := [some (.inr (.inr (some 0))), some (.inl c), some (.inl e)]) (st' := [.inl ((xplay 91 (v2 (v2 (cl_asTold v) 67 1 (setb ((cl_asTold v) 67 1) e)) 67 7 c)) 91 18)]) rfl ?_
  have hb_7 : 0 ≤ ((xplay 91 (v2 (v2 (cl_asTold v) 67 1 (setb ((cl_asTold v) 67 1) e)) 67 7 c)) 91 18) ∧ ((xplay 91 (v2 (v2 (cl_asTold v) 67 1 (setb ((cl_asTold v) 67 1) e)) 67 7 c)) 91 18) ≤ 1 := hX_6 91 18
  refine n_if_ne (pc0 := 48) (len := 3) (t := 55) rfl (by first | assumption | omega | (unfold R32 at *; omega) | (unfold R64 at *; omega) | (simp only [R32, R64] at *; omega)) (fun h_48 => ?_) (fun h_48 => ?_)
  · show WV _ _ _ 55 _ _ _ _ _
    rw [if_neg h_48] at hQ
    refine r_ex 1 (pc' := 56) (lo' := [some (.inr (.inr (some 0))), some (.inl c), some (.inl e)]) (st' := [.inl 0]) rfl ?_
    refine r_ret (rr := some (.inl 0)) (I := .ireturn) (pc0 := 56) (len := 1) rfl rfl ?_
    exact hQ hX_6 (by first | assumption | omega | (unfold R32 at *; omega) | (unfold R64 at *; omega) | (simp only [R32, R64] at *; omega))
  · show WV _ _ _ 51 _ _ _ _ _
    rw [if_pos h_48] at hQ
    refine r_ex 2 (pc' := 56) (lo' := [some (.inr (.inr (some 0))), some (.inl c), some (.inl e)]) (st' := [.inl 1]) rfl ?_
    refine r_ret (rr := some (.inl 1)) (I := .ireturn) (pc0 := 56) (len := 1) rfl rfl ?_
    exact hQ hX_6 (by first | assumption | omega | (unfold R32 at *; omega) | (unfold R64 at *; omega) | (simp only [R32, R64] at *; omega))

theorem e_cl_isSilentWithout {X : PX} {d b : Nat} {v : VS} {c : Int} {e : Int} (hX : XI v) (hp_a : 0 ≤ c ∧ c ≤ 8) (hp_b : 0 ≤ e ∧ e ≤ 11) : EvV X (d + 1 + 1 + 1 + 1 + 1 + 1) 123 [.inr (.inr (some 0)), .inl c, .inl e] b v (some (.inl (cl_isSilentWithout v c e).1)) b ((cl_isSilentWithout v c e).2) := EvV.of (w_cl_isSilentWithout hX hp_a hp_b (fun _ _ => ⟨rfl, rfl, rfl⟩))

theorem i_cl_isSilentWithout {v : VS} {c : Int} {e : Int} (hX : XI v) (hp_a : 0 ≤ c ∧ c ≤ 8) (hp_b : 0 ≤ e ∧ e ≤ 11) : XI ((cl_isSilentWithout v c e).2) := by
  have q : WV (0, fun _ => 0, none) (0 + 1 + 1 + 1 + 1 + 1 + 1) 123 0 [some (.inr (.inr (some 0))), some (.inl c), some (.inl e)] [] 1 v (fun _ _ _ => XI ((cl_isSilentWithout v c e).2)) := w_cl_isSilentWithout (X := (0, fun _ => 0, none)) (d := 0) (b := 1) hX hp_a hp_b (fun q _ => q)
  obtain ⟨_, _, _, _, _, _, _, q⟩ := q
  exact q

theorem n_cl_isSilentWithout {v : VS} {c : Int} {e : Int} (hX : XI v) (hp_a : 0 ≤ c ∧ c ≤ 8) (hp_b : 0 ≤ e ∧ e ≤ 11) : 0 ≤ (cl_isSilentWithout v c e).1 ∧ (cl_isSilentWithout v c e).1 ≤ 1 := by
  have q : WV (0, fun _ => 0, none) (0 + 1 + 1 + 1 + 1 + 1 + 1) 123 0 [some (.inr (.inr (some 0))), some (.inl c), some (.inl e)] [] 1 v (fun _ _ _ => 0 ≤ (cl_isSilentWithout v c e).1 ∧ (cl_isSilentWithout v c e).1 ≤ 1) := w_cl_isSilentWithout (X := (0, fun _ => 0, none)) (d := 0) (b := 1) hX hp_a hp_b (fun _ q => q)
  obtain ⟨_, _, _, _, _, _, _, q⟩ := q
  exact q

theorem o_cl_isSilentWithout {rk : Nat} {v : VS} {c : Int} {e : Int} (hk : (rk < 67 ∨ 78 < rk) ∧ (rk < 91 ∨ 102 < rk)) : (cl_isSilentWithout v c e).2 rk = v rk := by
  unfold cl_isSilentWithout
  by_cases hc_ : ((xplay 91 (v2 (v2 (cl_asTold v) 67 1 (setb ((cl_asTold v) 67 1) e)) 67 7 c)) 91 18) = 0
  · rw [if_pos hc_]
    all_goals (show (xplay 91 (v2 (v2 (cl_asTold v) 67 1 (setb ((cl_asTold v) 67 1) e)) 67 7 c)) rk = _)
    all_goals (rw [o_xplay91 (by omega), v2_row (by omega), v2_row (by omega), o_cl_asTold (by omega)])
  · rw [if_neg hc_]
    all_goals (show (xplay 91 (v2 (v2 (cl_asTold v) 67 1 (setb ((cl_asTold v) 67 1) e)) 67 7 c)) rk = _)
    all_goals (rw [o_xplay91 (by omega), v2_row (by omega), v2_row (by omega), o_cl_asTold (by omega)])

def cl_needs_30 : Nat → VS → Int → Int → Int → Int × VS
  | 0, v, c, n, e => (0, v)
  | f + 1, v, c, n, e => (if e < (v 37 0) then (if (cl_bit v (v 33 5) e) = 0 then (if (cl_isSilentWithout v c e).1 = 0 then (cl_needs_30 f ((cl_isSilentWithout v c e).2) c n (e + 1)) else (cl_needs_30 f ((cl_isSilentWithout v c e).2) c (setb n e) (e + 1))) else (cl_needs_30 f v c n (e + 1))) else (n, v))
def cl_needs (v : VS) (c : Int) : Int × VS :=
  (if 0 ≤ c ∧ c < v 33 0 then (if (cl_nextOf79 (cl_asItIs v) c 0) = (-1) then ((-1), (cl_asItIs v)) else ((cl_needs_30 13 (cl_asItIs v) c 0 0).1, (cl_needs_30 13 (cl_asItIs v) c 0 0).2)) else ((-2), v))
theorem l_cl_needs_30 {X : PX} {d b : Nat} {Q : Option PV → Nat → VS → Prop}  : ∀ (f : Nat) (v : VS) (c : Int) (n : Int) (e : Int), XI v → (0 ≤ e ∧ e ≤ 12) → (0 ≤ c ∧ c ≤ 8) → (0 ≤ n ∧ n < 4096) → (12 < e + f) → (∀ qx0 : Option PV, ∀ qx1 : Option PV, ∀ qx3 : Option PV, XI ((cl_needs_30 f v c n e).2) → (0 ≤ (cl_needs_30 f v c n e).1 ∧ (cl_needs_30 f v c n e).1 < 4096) → WV X (d + 1 + 1 + 1 + 1 + 1 + 1 + 1) 122 79 [qx0, qx1, some (.inl ((cl_needs_30 f v c n e).1)), qx3] [] b (cl_needs_30 f v c n e).2 Q) → WV X (d + 1 + 1 + 1 + 1 + 1 + 1 + 1) 122 30 [some (.inr (.inr (some 0))), some (.inl c), some (.inl n), some (.inl e)] [] b v Q := by
  intro f
  induction f with
  | zero =>
    intro v c n e hX hi_0 hi_1 hi_2 hf hK
    exfalso
    omega
  | succ f ih =>
    intro v c n e hX hi_0 hi_1 hi_2 hf hK
    rw [cl_needs_30] at hK
    refine r_ex 5 (pc' := 41) (lo' := [some (.inr (.inr (some 0))), some (.inl c), some (.inl n), some (.inl e)]) (st' := [.inl (v 37 0), .inl e]) rfl ?_
    have hb_7 : 0 ≤ (v 37 0) ∧ (v 37 0) ≤ 12 := hX 37 0
    refine n_ic_ge (pc0 := 41) (len := 3) (t := 79) rfl (by first | assumption | omega | (unfold R32 at *; omega) | (unfold R64 at *; omega) | (simp only [R32, R64] at *; omega)) (by first | assumption | omega | (unfold R32 at *; omega) | (unfold R64 at *; omega) | (simp only [R32, R64] at *; omega)) (fun h_41 => ?_) (fun h_41 => ?_)
    · show WV _ _ _ 79 _ _ _ _ _
      rw [if_neg h_41] at hK
      exact hK _ _ _ hX (by first | assumption | omega | (unfold R32 at *; omega) | (unfold R64 at *; omega) | (simp only [R32, R64] at *; omega))
    · show WV _ _ _ 44 _ _ _ _ _
      rw [if_pos h_41] at hK
      refine r_ex 4 (pc' := 52) (lo' := [some (.inr (.inr (some 0))), some (.inl c), some (.inl n), some (.inl e)]) (st' := [.inl e, .inl (v 33 5)]) rfl ?_
      have hb_8 : 0 ≤ (v 33 5) ∧ (v 33 5) ≤ 4095 := hX 33 5
      have hp_9 : 0 ≤ (v 33 5) ∧ (v 33 5) < 4096 := (by first | assumption | omega | (unfold R32 at *; omega) | (unfold R64 at *; omega) | (simp only [R32, R64] at *; omega))
      have hp_10 : 0 ≤ e ∧ e < 12 := (by first | assumption | omega | (unfold R32 at *; omega) | (unfold R64 at *; omega) | (simp only [R32, R64] at *; omega))
      refine r_call (m := 63) (args := [.inl (v 33 5), .inl e]) (n' := 122) (pc' := 55) (lo' := [some (.inr (.inr (some 0))), some (.inl c), some (.inl n), some (.inl e)]) (st' := []) (I := .invokestatic 63) (pc0 := 52) (len := 3) rfl rfl rfl (e_cl_bit hX hp_9 hp_10) ?_
      show WV _ _ _ 55 _ [.inl (cl_bit v (v 33 5) e)] _ _ _
      have hb_11 := n_cl_bit (v := v) (c := (v 33 5)) (k := e) hX hp_9 hp_10
      refine n_if_ne (pc0 := 55) (len := 3) (t := 73) rfl (by first | assumption | omega | (unfold R32 at *; omega) | (unfold R64 at *; omega) | (simp only [R32, R64] at *; omega)) (fun h_55 => ?_) (fun h_55 => ?_)
      · show WV _ _ _ 73 _ _ _ _ _
        rw [if_neg h_55] at hK
        refine r_ex 2 (pc' := 30) (lo' := [some (.inr (.inr (some 0))), some (.inl c), some (.inl n), some (.inl (e + 1))]) (st' := []) rfl ?_
        refine ih v c n (e + 1)  hX (by first | assumption | omega | (unfold R32 at *; omega) | (unfold R64 at *; omega) | (simp only [R32, R64] at *; omega)) (by first | assumption | omega | (unfold R32 at *; omega) | (unfold R64 at *; omega) | (simp only [R32, R64] at *; omega)) (by first | assumption | omega | (unfold R32 at *; omega) | (unfold R64 at *; omega) | (simp only [R32, R64] at *; omega)) (by first | assumption | omega | (unfold R32 at *; omega) | (unfold R64 at *; omega) | (simp only [R32, R64] at *; omega)) hK
      · show WV _ _ _ 58 _ _ _ _ _
        rw [if_pos h_55] at hK
        refine r_ex 3 (pc' := 61) (lo' := [some (.inr (.inr (some 0))), some (.inl c), some (.inl n), some (.inl e)]) (st' := [.inl e, .inl c, .inr (.inr (some 0))]) rfl ?_
        have hp_12 : 0 ≤ c ∧ c ≤ 8 := (by first | assumption | omega | (unfold R32 at *; omega) | (unfold R64 at *; omega) | (simp only [R32, R64] at *; omega))
        have hp_13 : 0 ≤ e ∧ e ≤ 11 := (by first | assumption | omega | (unfold R32 at *; omega) | (unfold R64 at *; omega) | (simp only [R32, R64] at *; omega))
        refine r_call (m := 123) (args := [.inr (.inr (some 0)), .inl c, .inl e]) (n' := 122) (pc' := 64) (lo' := [some (.inr (.inr (some 0))), some (.inl c), some (.inl n), some (.inl e)]) (st' := []) (I := .invokevirtual 123) (pc0 := 61) (len := 3) rfl rfl rfl (e_cl_isSilentWithout hX hp_12 hp_13) ?_
        show WV _ _ _ 64 _ [.inl ((cl_isSilentWithout v c e).1)] _ (cl_isSilentWithout v c e).2 _
        have hX_14 : XI (cl_isSilentWithout v c e).2 := i_cl_isSilentWithout (v := v) (c := c) (e := e) hX hp_12 hp_13
        have hb_15 := n_cl_isSilentWithout (v := v) (c := c) (e := e) hX hp_12 hp_13
        refine n_if_eq (pc0 := 64) (len := 3) (t := 73) rfl (by first | assumption | omega | (unfold R32 at *; omega) | (unfold R64 at *; omega) | (simp only [R32, R64] at *; omega)) (fun h_64 => ?_) (fun h_64 => ?_)
        · show WV _ _ _ 73 _ _ _ _ _
          rw [if_pos h_64] at hK
          refine r_ex 2 (pc' := 30) (lo' := [some (.inr (.inr (some 0))), some (.inl c), some (.inl n), some (.inl (e + 1))]) (st' := []) rfl ?_
          refine ih ((cl_isSilentWithout v c e).2) c n (e + 1)  hX_14 (by first | assumption | omega | (unfold R32 at *; omega) | (unfold R64 at *; omega) | (simp only [R32, R64] at *; omega)) (by first | assumption | omega | (unfold R32 at *; omega) | (unfold R64 at *; omega) | (simp only [R32, R64] at *; omega)) (by first | assumption | omega | (unfold R32 at *; omega) | (unfold R64 at *; omega) | (simp only [R32, R64] at *; omega)) (by first | assumption | omega | (unfold R32 at *; omega) | (unfold R64 at *; omega) | (simp only [R32, R64] at *; omega)) hK
        · show WV _ _ _ 67 _ _ _ _ _
          rw [if_neg h_64] at hK
          refine r_ex 5 (pc' := 72) (lo' := [some (.inr (.inr (some 0))), some (.inl c), some (.inl n), some (.inl e)]) (st' := [.inl (pm_or n (pm_shl 1 e))]) rfl ?_
          rw [or_eq (x := n) (c := e) (by first | assumption | omega | (unfold R32 at *; omega) | (unfold R64 at *; omega) | (simp only [R32, R64] at *; omega)) (by first | assumption | omega | (unfold R32 at *; omega) | (unfold R64 at *; omega) | (simp only [R32, R64] at *; omega))]
          have hb_16 := setb_in (x := n) (c := e) (k := 12) (by first | assumption | omega | (unfold R32 at *; omega) | (unfold R64 at *; omega) | (simp only [R32, R64] at *; omega)) (by first | assumption | omega | (unfold R32 at *; omega) | (unfold R64 at *; omega) | (simp only [R32, R64] at *; omega))
          refine r_ex 3 (pc' := 30) (lo' := [some (.inr (.inr (some 0))), some (.inl c), some (.inl (setb n e)), some (.inl (e + 1))]) (st' := []) rfl ?_
          refine ih ((cl_isSilentWithout v c e).2) c (setb n e) (e + 1)  hX_14 (by first | assumption | omega | (unfold R32 at *; omega) | (unfold R64 at *; omega) | (simp only [R32, R64] at *; omega)) (by first | assumption | omega | (unfold R32 at *; omega) | (unfold R64 at *; omega) | (simp only [R32, R64] at *; omega)) (by first | assumption | omega | (unfold R32 at *; omega) | (unfold R64 at *; omega) | (simp only [R32, R64] at *; omega)) (by first | assumption | omega | (unfold R32 at *; omega) | (unfold R64 at *; omega) | (simp only [R32, R64] at *; omega)) hK

theorem of_cl_needs_30 {rk : Nat} (hk : (rk < 67 ∨ 78 < rk) ∧ (rk < 91 ∨ 102 < rk)) : ∀ (f : Nat) {v : VS} {c : Int} {n : Int} {e : Int}, (cl_needs_30 f v c n e).2 rk = v rk := by
  intro f
  induction f with
  | zero => intro v c n e; rfl
  | succ f ih =>
    intro v c n e
    rw [cl_needs_30]
    by_cases hc_ : e < (v 37 0)
    · rw [if_pos hc_]
      by_cases hc_ : (cl_bit v (v 33 5) e) = 0
      · rw [if_pos hc_]
        by_cases hc_ : (cl_isSilentWithout v c e).1 = 0
        · rw [if_pos hc_]
          all_goals (rw [ih, o_cl_isSilentWithout (by omega)])
        · rw [if_neg hc_]
          all_goals (rw [ih, o_cl_isSilentWithout (by omega)])
      · rw [if_neg hc_]
        all_goals (rw [ih])
    · rw [if_neg hc_]
      all_goals (show v rk = _)
      all_goals rfl
theorem o_cl_needs_30 {rk : Nat} {f : Nat} {v : VS} {c : Int} {n : Int} {e : Int} (hk : (rk < 67 ∨ 78 < rk) ∧ (rk < 91 ∨ 102 < rk)) : (cl_needs_30 f v c n e).2 rk = v rk := of_cl_needs_30 hk f

theorem w_cl_needs {X : PX} {d b : Nat} {v : VS} {c : Int} (hX : XI v) (hp_a : R32 c) {Q : Option PV → Nat → VS → Prop} (hQ : XI (cl_needs v c).2 → Q (some (.inl (cl_needs v c).1)) b (cl_needs v c).2) : WV X (d + 1 + 1 + 1 + 1 + 1 + 1 + 1) 122 0 [some (.inr (.inr (some 0))), some (.inl c), none, none] [] b v Q := by
  rw [cl_needs] at hQ
  refine r_ex 2 (pc' := 2) (lo' := [some (.inr (.inr (some 0))), some (.inl c), none, none]) (st' := [.inl c, .inr (.inr (some 0))]) rfl ?_
  have hp_1 : R32 c := (by first | assumption | omega | (unfold R32 at *; omega) | (unfold R64 at *; omega) | (simp only [R32, R64] at *; omega))
  have hb_2 : 0 ≤ v 33 0 ∧ v 33 0 ≤ 9 := hX 33 0
  refine r_callb (P := 0 ≤ c ∧ c < v 33 0) (m := 62) (args := [.inr (.inr (some 0)), .inl c]) (n' := 122) (pc' := 5) (lo' := [some (.inr (.inr (some 0))), some (.inl c), none, none]) (st' := []) (I := .invokevirtual 62) (pc0 := 2) (len := 3) rfl rfl rfl (e_cl_isChurch hX hp_1) (fun h_2 => ?_) (fun h_2 => ?_)
  · show WV _ _ _ 5 _ _ _ _ _
    rw [if_pos h_2] at hQ
    refine r_ex 2 (pc' := 12) (lo' := [some (.inr (.inr (some 0))), some (.inl c), none, none]) (st' := [.inr (.inr (some 0))]) rfl ?_
    refine r_call (m := 72) (args := [.inr (.inr (some 0))]) (n' := 122) (pc' := 15) (lo' := [some (.inr (.inr (some 0))), some (.inl c), none, none]) (st' := []) (I := .invokevirtual 72) (pc0 := 12) (len := 3) rfl rfl rfl (e_cl_asItIs hX) ?_
    show WV _ _ _ 15 _ [.inr (.inr (some 79))] _ (cl_asItIs v) _
    have hX_3 : XI (cl_asItIs v) := i_cl_asItIs (v := v) hX
    refine r_ex 2 (pc' := 17) (lo' := [some (.inr (.inr (some 0))), some (.inl c), none, none]) (st' := [.inl 0, .inl c, .inr (.inr (some 79))]) rfl ?_
    have hp_4 : R32 c := (by first | assumption | omega | (unfold R32 at *; omega) | (unfold R64 at *; omega) | (simp only [R32, R64] at *; omega))
    have hp_5 : 0 ≤ (0 : Int) ∧ (0 : Int) ≤ 300 := (by first | assumption | omega | (unfold R32 at *; omega) | (unfold R64 at *; omega) | (simp only [R32, R64] at *; omega))
    refine r_call (m := 93) (args := [.inr (.inr (some 79)), .inl c, .inl 0]) (n' := 122) (pc' := 20) (lo' := [some (.inr (.inr (some 0))), some (.inl c), none, none]) (st' := []) (I := .invokevirtual 93) (pc0 := 17) (len := 3) rfl rfl rfl (e_cl_nextOf79 hX_3 hp_4 hp_5) ?_
    show WV _ _ _ 20 _ [.inl (cl_nextOf79 (cl_asItIs v) c 0)] _ _ _
    have hb_6 := n_cl_nextOf79 (v := (cl_asItIs v)) (c := c) (s := 0) hX_3 hp_4 hp_5
    refine r_ex 1 (pc' := 21) (lo' := [some (.inr (.inr (some 0))), some (.inl c), none, none]) (st' := [.inl (-1), .inl (cl_nextOf79 (cl_asItIs v) c 0)]) rfl ?_
    refine n_ic_ne (pc0 := 21) (len := 3) (t := 26) rfl (by first | assumption | omega | (unfold R32 at *; omega) | (unfold R64 at *; omega) | (simp only [R32, R64] at *; omega)) (by first | assumption | omega | (unfold R32 at *; omega) | (unfold R64 at *; omega) | (simp only [R32, R64] at *; omega)) (fun h_21 => ?_) (fun h_21 => ?_)
    · show WV _ _ _ 26 _ _ _ _ _
      rw [if_neg h_21] at hQ
      refine r_ex 4 (pc' := 30) (lo' := [some (.inr (.inr (some 0))), some (.inl c), some (.inl 0), some (.inl 0)]) (st' := []) rfl ?_
      refine l_cl_needs_30 13 (cl_asItIs v) c 0 0  hX_3 (by first | assumption | omega | (unfold R32 at *; omega) | (unfold R64 at *; omega) | (simp only [R32, R64] at *; omega)) (by first | assumption | omega | (unfold R32 at *; omega) | (unfold R64 at *; omega) | (simp only [R32, R64] at *; omega)) (by first | assumption | omega | (unfold R32 at *; omega) | (unfold R64 at *; omega) | (simp only [R32, R64] at *; omega)) (by first | assumption | omega | (unfold R32 at *; omega) | (unfold R64 at *; omega) | (simp only [R32, R64] at *; omega)) (fun o0_17 o1_17 o3_17 hX_17 hv_17_0 => ?_)
      show WV _ _ _ 79 _ _ _ _ _
      refine r_ex 1 (pc' := 80) (lo' := [o0_17, o1_17, some (.inl ((cl_needs_30 13 (cl_asItIs v) c 0 0).1)), o3_17]) (st' := [.inl ((cl_needs_30 13 (cl_asItIs v) c 0 0).1)]) rfl ?_
      refine r_ret (rr := some (.inl ((cl_needs_30 13 (cl_asItIs v) c 0 0).1))) (I := .ireturn) (pc0 := 80) (len := 1) rfl rfl ?_
      exact hQ hX_17 
    · show WV _ _ _ 24 _ _ _ _ _
      rw [if_pos h_21] at hQ
      refine r_ex 1 (pc' := 25) (lo' := [some (.inr (.inr (some 0))), some (.inl c), none, none]) (st' := [.inl (-1)]) rfl ?_
      refine r_ret (rr := some (.inl (-1))) (I := .ireturn) (pc0 := 25) (len := 1) rfl rfl ?_
      exact hQ hX_3 
  · show WV _ _ _ 5 _ _ _ _ _
    rw [if_neg h_2] at hQ
    refine r_ex 2 (pc' := 10) (lo' := [some (.inr (.inr (some 0))), some (.inl c), none, none]) (st' := [.inl (-2)]) rfl ?_
    refine r_ret (rr := some (.inl (-2))) (I := .ireturn) (pc0 := 10) (len := 1) rfl rfl ?_
    exact hQ hX 

theorem e_cl_needs {X : PX} {d b : Nat} {v : VS} {c : Int} (hX : XI v) (hp_a : R32 c) : EvV X (d + 1 + 1 + 1 + 1 + 1 + 1 + 1) 122 [.inr (.inr (some 0)), .inl c] b v (some (.inl (cl_needs v c).1)) b ((cl_needs v c).2) := EvV.of (w_cl_needs hX hp_a (fun _ => ⟨rfl, rfl, rfl⟩))

theorem i_cl_needs {v : VS} {c : Int} (hX : XI v) (hp_a : R32 c) : XI ((cl_needs v c).2) := by
  have q : WV (0, fun _ => 0, none) (0 + 1 + 1 + 1 + 1 + 1 + 1 + 1) 122 0 [some (.inr (.inr (some 0))), some (.inl c), none, none] [] 1 v (fun _ _ _ => XI ((cl_needs v c).2)) := w_cl_needs (X := (0, fun _ => 0, none)) (d := 0) (b := 1) hX hp_a (fun q => q)
  obtain ⟨_, _, _, _, _, _, _, q⟩ := q
  exact q

theorem o_cl_needs {rk : Nat} {v : VS} {c : Int} (hk : (rk < 0 ∨ 0 < rk) ∧ (rk < 67 ∨ 102 < rk) ∧ (rk < 105 ∨ 105 < rk)) : (cl_needs v c).2 rk = v rk := by
  unfold cl_needs
  by_cases hc_ : 0 ≤ c ∧ c < v 33 0
  · rw [if_pos hc_]
    by_cases hc_ : (cl_nextOf79 (cl_asItIs v) c 0) = (-1)
    · rw [if_pos hc_]
      all_goals (show (cl_asItIs v) rk = _)
      all_goals (rw [o_cl_asItIs (by omega)])
    · rw [if_neg hc_]
      all_goals (show ((cl_needs_30 13 (cl_asItIs v) c 0 0).2) rk = _)
      all_goals (rw [o_cl_needs_30 (by omega), o_cl_asItIs (by omega)])
  · rw [if_neg hc_]
    all_goals (show v rk = _)
    all_goals rfl

def cl_harm (v : VS) (c : Int) : Int × VS :=
  (if 0 ≤ c ∧ c < v 37 0 then ((((cl_asItIs v) 79 4) - ((xplay 91 (v2 (cl_asTold (cl_asItIs v)) 67 1 (setb ((cl_asTold (cl_asItIs v)) 67 1) c))) 91 4)), (xplay 91 (v2 (cl_asTold (cl_asItIs v)) 67 1 (setb ((cl_asTold (cl_asItIs v)) 67 1) c)))) else ((-2000000), v))
theorem w_cl_harm {X : PX} {d b : Nat} {v : VS} {c : Int} (hX : XI v) (hp_a : R32 c) {Q : Option PV → Nat → VS → Prop} (hQ : XI (cl_harm v c).2 → Q (some (.inl (cl_harm v c).1)) b (cl_harm v c).2) : WV X (d + 1 + 1 + 1 + 1 + 1 + 1 + 1) 124 0 [some (.inr (.inr (some 0))), some (.inl c), none] [] b v Q := by
  rw [cl_harm] at hQ
  refine r_ex 2 (pc' := 2) (lo' := [some (.inr (.inr (some 0))), some (.inl c), none]) (st' := [.inl c, .inr (.inr (some 0))]) rfl ?_
  have hp_1 : R32 c := (by first | assumption | omega | (unfold R32 at *; omega) | (unfold R64 at *; omega) | (simp only [R32, R64] at *; omega))
  have hb_2 : 0 ≤ v 37 0 ∧ v 37 0 ≤ 12 := hX 37 0
  refine r_callb (P := 0 ≤ c ∧ c < v 37 0) (m := 65) (args := [.inr (.inr (some 0)), .inl c]) (n' := 124) (pc' := 5) (lo' := [some (.inr (.inr (some 0))), some (.inl c), none]) (st' := []) (I := .invokevirtual 65) (pc0 := 2) (len := 3) rfl rfl rfl (e_cl_isEar hX hp_1) (fun h_2 => ?_) (fun h_2 => ?_)
  · show WV _ _ _ 5 _ _ _ _ _
    rw [if_pos h_2] at hQ
    refine r_ex 2 (pc' := 12) (lo' := [some (.inr (.inr (some 0))), some (.inl c), none]) (st' := [.inr (.inr (some 0))]) rfl ?_
    refine r_call (m := 72) (args := [.inr (.inr (some 0))]) (n' := 124) (pc' := 15) (lo' := [some (.inr (.inr (some 0))), some (.inl c), none]) (st' := []) (I := .invokevirtual 72) (pc0 := 12) (len := 3) rfl rfl rfl (e_cl_asItIs hX) ?_
    show WV _ _ _ 15 _ [.inr (.inr (some 79))] _ (cl_asItIs v) _
    have hX_3 : XI (cl_asItIs v) := i_cl_asItIs (v := v) hX
    refine r_ex 6 (pc' := 27) (lo' := [some (.inr (.inr (some 0))), some (.inl c), some (.inl ((cl_asItIs v) 79 4))]) (st' := [.inr (.inr (some 33)), .inr (.inr (some 67))]) rfl ?_
    have hb_4 : 0 ≤ ((cl_asItIs v) 79 4) ∧ ((cl_asItIs v) 79 4) ≤ 300 := hX_3 79 4
    refine r_call (m := 73) (args := [.inr (.inr (some 67)), .inr (.inr (some 33))]) (n' := 124) (pc' := 30) (lo' := [some (.inr (.inr (some 0))), some (.inl c), some (.inl ((cl_asItIs v) 79 4))]) (st' := []) (I := .invokevirtual 73) (pc0 := 27) (len := 3) rfl rfl rfl (e_cl_asTold hX_3) ?_
    show WV _ _ _ 30 _ [] _ (cl_asTold (cl_asItIs v)) _
    have hX_5 : XI (cl_asTold (cl_asItIs v)) := i_cl_asTold (v := (cl_asItIs v)) hX_3
    refine r_ex 8 (pc' := 42) (lo' := [some (.inr (.inr (some 0))), some (.inl c), some (.inl ((cl_asItIs v) 79 4))]) (st' := [.inl (pm_or ((cl_asTold (cl_asItIs v)) 67 1) (pm_shl 1 c)), .inr (.inr (some 67))]) rfl ?_
    have hb_6 : 0 ≤ ((cl_asTold (cl_asItIs v)) 67 1) ∧ ((cl_asTold (cl_asItIs v)) 67 1) ≤ 4095 := hX_5 67 1
    rw [or_eq (x := ((cl_asTold (cl_asItIs v)) 67 1)) (c := c) (by first | assumption | omega | (unfold R32 at *; omega) | (unfold R64 at *; omega) | (simp only [R32, R64] at *; omega)) (by first | assumption | omega | (unfold R32 at *; omega) | (unfold R64 at *; omega) | (simp only [R32, R64] at *; omega))]
    have hb_7 := setb_in (x := ((cl_asTold (cl_asItIs v)) 67 1)) (c := c) (k := 12) (by first | assumption | omega | (unfold R32 at *; omega) | (unfold R64 at *; omega) | (simp only [R32, R64] at *; omega)) (by first | assumption | omega | (unfold R32 at *; omega) | (unfold R64 at *; omega) | (simp only [R32, R64] at *; omega))
    refine r_puti2 (j := 1) (pc' := 45) (pc0 := 42) (len := 3) rfl (s_67 _) rfl rfl rfl (Or.inl rfl) rfl rfl ?_
    have hX_8 : XI (v2 (cl_asTold (cl_asItIs v)) 67 1 (setb ((cl_asTold (cl_asItIs v)) 67 1) c)) := XI.put hX_5 (show 0 ≤ (setb ((cl_asTold (cl_asItIs v)) 67 1) c) ∧ (setb ((cl_asTold (cl_asItIs v)) 67 1) c) ≤ 4095 from (by first | assumption | omega | (unfold R32 at *; omega) | (unfold R64 at *; omega) | (simp only [R32, R64] at *; omega)))
    refine r_ex 2 (pc' := 49) (lo' := [some (.inr (.inr (some 0))), some (.inl c), some (.inl ((cl_asItIs v) 79 4))]) (st' := [.inr (.inr (some 91))]) rfl ?_
    refine r_call (m := 74) (args := [.inr (.inr (some 91))]) (n' := 124) (pc' := 52) (lo' := [some (.inr (.inr (some 0))), some (.inl c), some (.inl ((cl_asItIs v) 79 4))]) (st' := []) (I := .invokevirtual 74) (pc0 := 49) (len := 3) rfl rfl rfl (x_play91 hX_8) ?_
    show WV _ _ _ 52 _ [] _ (xplay 91 (v2 (cl_asTold (cl_asItIs v)) 67 1 (setb ((cl_asTold (cl_asItIs v)) 67 1) c))) _
    have hX_9 : XI (xplay 91 (v2 (cl_asTold (cl_asItIs v)) 67 1 (setb ((cl_asTold (cl_asItIs v)) 67 1) c))) := XI_play91 (v := (v2 (cl_asTold (cl_asItIs v)) 67 1 (setb ((cl_asTold (cl_asItIs v)) 67 1) c))) hX_8
    refine r_ex 5 (pc' := 61) (lo' := [some (.inr (.inr (some 0))), some (.inl c), some (.inl ((cl_asItIs v) 79 4))]) (st' := [.inl (((cl_asItIs v) 79 4) - ((xplay 91 (v2 (cl_asTold (cl_asItIs v)) 67 1 (setb ((cl_asTold (cl_asItIs v)) 67 1) c))) 91 4))]) rfl ?_
    have hb_10 : 0 ≤ ((xplay 91 (v2 (cl_asTold (cl_asItIs v)) 67 1 (setb ((cl_asTold (cl_asItIs v)) 67 1) c))) 91 4) ∧ ((xplay 91 (v2 (cl_asTold (cl_asItIs v)) 67 1 (setb ((cl_asTold (cl_asItIs v)) 67 1) c))) 91 4) ≤ 300 := hX_9 91 4
    refine r_ret (rr := some (.inl (((cl_asItIs v) 79 4) - ((xplay 91 (v2 (cl_asTold (cl_asItIs v)) 67 1 (setb ((cl_asTold (cl_asItIs v)) 67 1) c))) 91 4)))) (I := .ireturn) (pc0 := 61) (len := 1) rfl rfl ?_
    exact hQ hX_9 
  · show WV _ _ _ 5 _ _ _ _ _
    rw [if_neg h_2] at hQ
    refine r_ex 2 (pc' := 10) (lo' := [some (.inr (.inr (some 0))), some (.inl c), none]) (st' := [.inl (-2000000)]) rfl ?_
    refine r_ret (rr := some (.inl (-2000000))) (I := .ireturn) (pc0 := 10) (len := 1) rfl rfl ?_
    exact hQ hX 

theorem e_cl_harm {X : PX} {d b : Nat} {v : VS} {c : Int} (hX : XI v) (hp_a : R32 c) : EvV X (d + 1 + 1 + 1 + 1 + 1 + 1 + 1) 124 [.inr (.inr (some 0)), .inl c] b v (some (.inl (cl_harm v c).1)) b ((cl_harm v c).2) := EvV.of (w_cl_harm hX hp_a (fun _ => ⟨rfl, rfl, rfl⟩))

theorem i_cl_harm {v : VS} {c : Int} (hX : XI v) (hp_a : R32 c) : XI ((cl_harm v c).2) := by
  have q : WV (0, fun _ => 0, none) (0 + 1 + 1 + 1 + 1 + 1 + 1 + 1) 124 0 [some (.inr (.inr (some 0))), some (.inl c), none] [] 1 v (fun _ _ _ => XI ((cl_harm v c).2)) := w_cl_harm (X := (0, fun _ => 0, none)) (d := 0) (b := 1) hX hp_a (fun q => q)
  obtain ⟨_, _, _, _, _, _, _, q⟩ := q
  exact q

theorem o_cl_harm {rk : Nat} {v : VS} {c : Int} (hk : (rk < 0 ∨ 0 < rk) ∧ (rk < 67 ∨ 102 < rk) ∧ (rk < 105 ∨ 105 < rk)) : (cl_harm v c).2 rk = v rk := by
  unfold cl_harm
  by_cases hc_ : 0 ≤ c ∧ c < v 37 0
  · rw [if_pos hc_]
    all_goals (show (xplay 91 (v2 (cl_asTold (cl_asItIs v)) 67 1 (setb ((cl_asTold (cl_asItIs v)) 67 1) c))) rk = _)
    all_goals (rw [o_xplay91 (by omega), v2_row (by omega), o_cl_asTold (by omega), o_cl_asItIs (by omega)])
  · rw [if_neg hc_]
    all_goals (show v rk = _)
    all_goals rfl

def cl_playWithPan (v : VS) (c : Int) (s : Int) (h : Int) : Int × VS :=
  (((xplay 91 (cl_stAdd (cl_asTold v) c s h)) 91 4), (xplay 91 (cl_stAdd (cl_asTold v) c s h)))
theorem w_cl_playWithPan {X : PX} {d b : Nat} {v : VS} {c : Int} {s : Int} {h : Int} (hX : XI v) (hp_a : 0 ≤ c ∧ c ≤ 8) (hp_b : 0 ≤ s ∧ s ≤ 299) (hp_c : 0 ≤ h ∧ h ≤ 99) {Q : Option PV → Nat → VS → Prop} (hQ : XI (cl_playWithPan v c s h).2 → (0 ≤ (cl_playWithPan v c s h).1 ∧ (cl_playWithPan v c s h).1 ≤ 300) → Q (some (.inl (cl_playWithPan v c s h).1)) b (cl_playWithPan v c s h).2) : WV X (d + 1 + 1 + 1 + 1 + 1 + 1) 126 0 [some (.inr (.inr (some 0))), some (.inl c), some (.inl s), some (.inl h)] [] b v Q := by
  rw [cl_playWithPan] at hQ
  refine r_ex 4 (pc' := 8) (lo' := [some (.inr (.inr (some 0))), some (.inl c), some (.inl s), some (.inl h)]) (st' := [.inr (.inr (some 33)), .inr (.inr (some 67))]) rfl ?_
  refine r_call (m := 73) (args := [.inr (.inr (some 67)), .inr (.inr (some 33))]) (n' := 126) (pc' := 11) (lo' := [some (.inr (.inr (some 0))), some (.inl c), some (.inl s), some (.inl h)]) (st' := []) (I := .invokevirtual 73) (pc0 := 8) (len := 3) rfl rfl rfl (e_cl_asTold hX) ?_
  show WV _ _ _ 11 _ [] _ (cl_asTold v) _
  have hX_1 : XI (cl_asTold v) := i_cl_asTold (v := v) hX
  refine r_ex 6 (pc' := 21) (lo' := [some (.inr (.inr (some 0))), some (.inl c), some (.inl s), some (.inl h)]) (st' := [.inl h, .inl s, .inl c, .inr (.inr (some 68))]) rfl ?_
  have hp_2 : 0 ≤ c ∧ c ≤ 8 := (by first | assumption | omega | (unfold R32 at *; omega) | (unfold R64 at *; omega) | (simp only [R32, R64] at *; omega))
  have hp_3 : 0 ≤ s ∧ s ≤ 299 := (by first | assumption | omega | (unfold R32 at *; omega) | (unfold R64 at *; omega) | (simp only [R32, R64] at *; omega))
  have hp_4 : 0 ≤ h ∧ h ≤ 99 := (by first | assumption | omega | (unfold R32 at *; omega) | (unfold R64 at *; omega) | (simp only [R32, R64] at *; omega))
  refine r_call (m := 52) (args := [.inr (.inr (some 68)), .inl c, .inl s, .inl h]) (n' := 126) (pc' := 24) (lo' := [some (.inr (.inr (some 0))), some (.inl c), some (.inl s), some (.inl h)]) (st' := []) (I := .invokevirtual 52) (pc0 := 21) (len := 3) rfl rfl rfl (e_cl_stAdd hX_1 hp_2 hp_3 hp_4) ?_
  show WV _ _ _ 24 _ [] _ (cl_stAdd (cl_asTold v) c s h) _
  have hX_5 : XI (cl_stAdd (cl_asTold v) c s h) := i_cl_stAdd (v := (cl_asTold v)) (c := c) (s := s) (h := h) hX_1 hp_2 hp_3 hp_4
  refine r_ex 2 (pc' := 28) (lo' := [some (.inr (.inr (some 0))), some (.inl c), some (.inl s), some (.inl h)]) (st' := [.inr (.inr (some 91))]) rfl ?_
  refine r_call (m := 74) (args := [.inr (.inr (some 91))]) (n' := 126) (pc' := 31) (lo' := [some (.inr (.inr (some 0))), some (.inl c), some (.inl s), some (.inl h)]) (st' := []) (I := .invokevirtual 74) (pc0 := 28) (len := 3) rfl rfl rfl (x_play91 hX_5) ?_
  show WV _ _ _ 31 _ [] _ (xplay 91 (cl_stAdd (cl_asTold v) c s h)) _
  have hX_6 : XI (xplay 91 (cl_stAdd (cl_asTold v) c s h)) := XI_play91 (v := (cl_stAdd (cl_asTold v) c s h)) hX_5
  refine r_ex 3 (pc' := 38) (lo' := [some (.inr (.inr (some 0))), some (.inl c), some (.inl s), some (.inl h)]) (st' := [.inl ((xplay 91 (cl_stAdd (cl_asTold v) c s h)) 91 4)]) rfl ?_
  have hb_7 : 0 ≤ ((xplay 91 (cl_stAdd (cl_asTold v) c s h)) 91 4) ∧ ((xplay 91 (cl_stAdd (cl_asTold v) c s h)) 91 4) ≤ 300 := hX_6 91 4
  refine r_ret (rr := some (.inl ((xplay 91 (cl_stAdd (cl_asTold v) c s h)) 91 4))) (I := .ireturn) (pc0 := 38) (len := 1) rfl rfl ?_
  exact hQ hX_6 (by first | assumption | omega | (unfold R32 at *; omega) | (unfold R64 at *; omega) | (simp only [R32, R64] at *; omega))

theorem e_cl_playWithPan {X : PX} {d b : Nat} {v : VS} {c : Int} {s : Int} {h : Int} (hX : XI v) (hp_a : 0 ≤ c ∧ c ≤ 8) (hp_b : 0 ≤ s ∧ s ≤ 299) (hp_c : 0 ≤ h ∧ h ≤ 99) : EvV X (d + 1 + 1 + 1 + 1 + 1 + 1) 126 [.inr (.inr (some 0)), .inl c, .inl s, .inl h] b v (some (.inl (cl_playWithPan v c s h).1)) b ((cl_playWithPan v c s h).2) := EvV.of (w_cl_playWithPan hX hp_a hp_b hp_c (fun _ _ => ⟨rfl, rfl, rfl⟩))

theorem i_cl_playWithPan {v : VS} {c : Int} {s : Int} {h : Int} (hX : XI v) (hp_a : 0 ≤ c ∧ c ≤ 8) (hp_b : 0 ≤ s ∧ s ≤ 299) (hp_c : 0 ≤ h ∧ h ≤ 99) : XI ((cl_playWithPan v c s h).2) := by
  have q : WV (0, fun _ => 0, none) (0 + 1 + 1 + 1 + 1 + 1 + 1) 126 0 [some (.inr (.inr (some 0))), some (.inl c), some (.inl s), some (.inl h)] [] 1 v (fun _ _ _ => XI ((cl_playWithPan v c s h).2)) := w_cl_playWithPan (X := (0, fun _ => 0, none)) (d := 0) (b := 1) hX hp_a hp_b hp_c (fun q _ => q)
  obtain ⟨_, _, _, _, _, _, _, q⟩ := q
  exact q

theorem n_cl_playWithPan {v : VS} {c : Int} {s : Int} {h : Int} (hX : XI v) (hp_a : 0 ≤ c ∧ c ≤ 8) (hp_b : 0 ≤ s ∧ s ≤ 299) (hp_c : 0 ≤ h ∧ h ≤ 99) : 0 ≤ (cl_playWithPan v c s h).1 ∧ (cl_playWithPan v c s h).1 ≤ 300 := by
  have q : WV (0, fun _ => 0, none) (0 + 1 + 1 + 1 + 1 + 1 + 1) 126 0 [some (.inr (.inr (some 0))), some (.inl c), some (.inl s), some (.inl h)] [] 1 v (fun _ _ _ => 0 ≤ (cl_playWithPan v c s h).1 ∧ (cl_playWithPan v c s h).1 ≤ 300) := w_cl_playWithPan (X := (0, fun _ => 0, none)) (d := 0) (b := 1) hX hp_a hp_b hp_c (fun _ q => q)
  obtain ⟨_, _, _, _, _, _, _, q⟩ := q
  exact q

theorem o_cl_playWithPan {rk : Nat} {v : VS} {c : Int} {s : Int} {h : Int} (hk : (rk < 67 ∨ 78 < rk) ∧ (rk < 91 ∨ 102 < rk)) : (cl_playWithPan v c s h).2 rk = v rk := by
  unfold cl_playWithPan
  all_goals (show (xplay 91 (cl_stAdd (cl_asTold v) c s h)) rk = _)
  all_goals (rw [o_xplay91 (by omega), o_cl_stAdd (by omega), o_cl_asTold (by omega)])

def cl_pan (v : VS) (c : Int) (s : Int) (h : Int) : Int × VS :=
  (if 0 ≤ c ∧ c < v 33 0 then (if 0 ≤ s ∧ s < v 33 1 then (if 1 ≤ h ∧ h ≤ 99 then (((cl_playWithPan v c s h).1 - ((cl_asItIs ((cl_playWithPan v c s h).2)) 79 4)), (cl_asItIs ((cl_playWithPan v c s h).2))) else ((-2000000), v)) else ((-2000000), v)) else ((-2000000), v))
theorem w_cl_pan {X : PX} {d b : Nat} {v : VS} {c : Int} {s : Int} {h : Int} (hX : XI v) (hp_a : R32 c) (hp_b : R32 s) (hp_c : R32 h) {Q : Option PV → Nat → VS → Prop} (hQ : XI (cl_pan v c s h).2 → Q (some (.inl (cl_pan v c s h).1)) b (cl_pan v c s h).2) : WV X (d + 1 + 1 + 1 + 1 + 1 + 1 + 1) 125 0 [some (.inr (.inr (some 0))), some (.inl c), some (.inl s), some (.inl h)] [] b v Q := by
  rw [cl_pan] at hQ
  refine r_ex 2 (pc' := 2) (lo' := [some (.inr (.inr (some 0))), some (.inl c), some (.inl s), some (.inl h)]) (st' := [.inl c, .inr (.inr (some 0))]) rfl ?_
  have hp_1 : R32 c := (by first | assumption | omega | (unfold R32 at *; omega) | (unfold R64 at *; omega) | (simp only [R32, R64] at *; omega))
  have hb_2 : 0 ≤ v 33 0 ∧ v 33 0 ≤ 9 := hX 33 0
  refine r_callb (P := 0 ≤ c ∧ c < v 33 0) (m := 62) (args := [.inr (.inr (some 0)), .inl c]) (n' := 125) (pc' := 5) (lo' := [some (.inr (.inr (some 0))), some (.inl c), some (.inl s), some (.inl h)]) (st' := []) (I := .invokevirtual 62) (pc0 := 2) (len := 3) rfl rfl rfl (e_cl_isChurch hX hp_1) (fun h_2 => ?_) (fun h_2 => ?_)
  · show WV _ _ _ 5 _ _ _ _ _
    rw [if_pos h_2] at hQ
    refine r_ex 3 (pc' := 10) (lo' := [some (.inr (.inr (some 0))), some (.inl c), some (.inl s), some (.inl h)]) (st' := [.inl s, .inr (.inr (some 0))]) rfl ?_
    have hp_3 : R32 s := (by first | assumption | omega | (unfold R32 at *; omega) | (unfold R64 at *; omega) | (simp only [R32, R64] at *; omega))
    have hb_4 : 0 ≤ v 33 1 ∧ v 33 1 ≤ 300 := hX 33 1
    refine r_callb (P := 0 ≤ s ∧ s < v 33 1) (m := 67) (args := [.inr (.inr (some 0)), .inl s]) (n' := 125) (pc' := 13) (lo' := [some (.inr (.inr (some 0))), some (.inl c), some (.inl s), some (.inl h)]) (st' := []) (I := .invokevirtual 67) (pc0 := 10) (len := 3) rfl rfl rfl (e_cl_isSecond hX hp_3) (fun h_10 => ?_) (fun h_10 => ?_)
    · show WV _ _ _ 13 _ _ _ _ _
      rw [if_pos h_10] at hQ
      refine r_ex 2 (pc' := 17) (lo' := [some (.inr (.inr (some 0))), some (.inl c), some (.inl s), some (.inl h)]) (st' := [.inl h]) rfl ?_
      have hp_5 : R32 h := (by first | assumption | omega | (unfold R32 at *; omega) | (unfold R64 at *; omega) | (simp only [R32, R64] at *; omega))
      refine r_callb (P := 1 ≤ h ∧ h ≤ 99) (m := 98) (args := [.inl h]) (n' := 125) (pc' := 20) (lo' := [some (.inr (.inr (some 0))), some (.inl c), some (.inl s), some (.inl h)]) (st' := []) (I := .invokestatic 98) (pc0 := 17) (len := 3) rfl rfl rfl (e_cl_isHour hX hp_5) (fun h_17 => ?_) (fun h_17 => ?_)
      · show WV _ _ _ 20 _ _ _ _ _
        rw [if_pos h_17] at hQ
        refine r_ex 5 (pc' := 30) (lo' := [some (.inr (.inr (some 0))), some (.inl c), some (.inl s), some (.inl h)]) (st' := [.inl h, .inl s, .inl c, .inr (.inr (some 0))]) rfl ?_
        have hp_6 : 0 ≤ c ∧ c ≤ 8 := (by first | assumption | omega | (unfold R32 at *; omega) | (unfold R64 at *; omega) | (simp only [R32, R64] at *; omega))
        have hp_7 : 0 ≤ s ∧ s ≤ 299 := (by first | assumption | omega | (unfold R32 at *; omega) | (unfold R64 at *; omega) | (simp only [R32, R64] at *; omega))
        have hp_8 : 0 ≤ h ∧ h ≤ 99 := (by first | assumption | omega | (unfold R32 at *; omega) | (unfold R64 at *; omega) | (simp only [R32, R64] at *; omega))
        refine r_call (m := 126) (args := [.inr (.inr (some 0)), .inl c, .inl s, .inl h]) (n' := 125) (pc' := 33) (lo' := [some (.inr (.inr (some 0))), some (.inl c), some (.inl s), some (.inl h)]) (st' := []) (I := .invokevirtual 126) (pc0 := 30) (len := 3) rfl rfl rfl (e_cl_playWithPan hX hp_6 hp_7 hp_8) ?_
        show WV _ _ _ 33 _ [.inl ((cl_playWithPan v c s h).1)] _ (cl_playWithPan v c s h).2 _
        have hX_9 : XI (cl_playWithPan v c s h).2 := i_cl_playWithPan (v := v) (c := c) (s := s) (h := h) hX hp_6 hp_7 hp_8
        have hb_10 := n_cl_playWithPan (v := v) (c := c) (s := s) (h := h) hX hp_6 hp_7 hp_8
        refine r_ex 1 (pc' := 34) (lo' := [some (.inr (.inr (some 0))), some (.inl c), some (.inl s), some (.inl h)]) (st' := [.inr (.inr (some 0)), .inl ((cl_playWithPan v c s h).1)]) rfl ?_
        refine r_call (m := 72) (args := [.inr (.inr (some 0))]) (n' := 125) (pc' := 37) (lo' := [some (.inr (.inr (some 0))), some (.inl c), some (.inl s), some (.inl h)]) (st' := [.inl ((cl_playWithPan v c s h).1)]) (I := .invokevirtual 72) (pc0 := 34) (len := 3) rfl rfl rfl (e_cl_asItIs hX_9) ?_
        show WV _ _ _ 37 _ [.inr (.inr (some 79)), .inl ((cl_playWithPan v c s h).1)] _ (cl_asItIs ((cl_playWithPan v c s h).2)) _
        have hX_11 : XI (cl_asItIs ((cl_playWithPan v c s h).2)) := i_cl_asItIs (v := (cl_playWithPan v c s h).2) hX_9
        refine r_ex 2 (pc' := 41) (lo' := [some (.inr (.inr (some 0))), some (.inl c), some (.inl s), some (.inl h)]) (st' := [.inl ((cl_playWithPan v c s h).1 - ((cl_asItIs ((cl_playWithPan v c s h).2)) 79 4))]) rfl ?_
        have hb_12 : 0 ≤ ((cl_asItIs ((cl_playWithPan v c s h).2)) 79 4) ∧ ((cl_asItIs ((cl_playWithPan v c s h).2)) 79 4) ≤ 300 := hX_11 79 4
        refine r_ret (rr := some (.inl ((cl_playWithPan v c s h).1 - ((cl_asItIs ((cl_playWithPan v c s h).2)) 79 4)))) (I := .ireturn) (pc0 := 41) (len := 1) rfl rfl ?_
        exact hQ hX_11 
      · show WV _ _ _ 20 _ _ _ _ _
        rw [if_neg h_17] at hQ
        refine r_ex 2 (pc' := 25) (lo' := [some (.inr (.inr (some 0))), some (.inl c), some (.inl s), some (.inl h)]) (st' := [.inl (-2000000)]) rfl ?_
        refine r_ret (rr := some (.inl (-2000000))) (I := .ireturn) (pc0 := 25) (len := 1) rfl rfl ?_
        exact hQ hX 
    · show WV _ _ _ 13 _ _ _ _ _
      rw [if_neg h_10] at hQ
      refine r_ex 2 (pc' := 25) (lo' := [some (.inr (.inr (some 0))), some (.inl c), some (.inl s), some (.inl h)]) (st' := [.inl (-2000000)]) rfl ?_
      refine r_ret (rr := some (.inl (-2000000))) (I := .ireturn) (pc0 := 25) (len := 1) rfl rfl ?_
      exact hQ hX 
  · show WV _ _ _ 5 _ _ _ _ _
    rw [if_neg h_2] at hQ
    refine r_ex 2 (pc' := 25) (lo' := [some (.inr (.inr (some 0))), some (.inl c), some (.inl s), some (.inl h)]) (st' := [.inl (-2000000)]) rfl ?_
    refine r_ret (rr := some (.inl (-2000000))) (I := .ireturn) (pc0 := 25) (len := 1) rfl rfl ?_
    exact hQ hX 

theorem e_cl_pan {X : PX} {d b : Nat} {v : VS} {c : Int} {s : Int} {h : Int} (hX : XI v) (hp_a : R32 c) (hp_b : R32 s) (hp_c : R32 h) : EvV X (d + 1 + 1 + 1 + 1 + 1 + 1 + 1) 125 [.inr (.inr (some 0)), .inl c, .inl s, .inl h] b v (some (.inl (cl_pan v c s h).1)) b ((cl_pan v c s h).2) := EvV.of (w_cl_pan hX hp_a hp_b hp_c (fun _ => ⟨rfl, rfl, rfl⟩))

theorem i_cl_pan {v : VS} {c : Int} {s : Int} {h : Int} (hX : XI v) (hp_a : R32 c) (hp_b : R32 s) (hp_c : R32 h) : XI ((cl_pan v c s h).2) := by
  have q : WV (0, fun _ => 0, none) (0 + 1 + 1 + 1 + 1 + 1 + 1 + 1) 125 0 [some (.inr (.inr (some 0))), some (.inl c), some (.inl s), some (.inl h)] [] 1 v (fun _ _ _ => XI ((cl_pan v c s h).2)) := w_cl_pan (X := (0, fun _ => 0, none)) (d := 0) (b := 1) hX hp_a hp_b hp_c (fun q => q)
  obtain ⟨_, _, _, _, _, _, _, q⟩ := q
  exact q

theorem o_cl_pan {rk : Nat} {v : VS} {c : Int} {s : Int} {h : Int} (hk : (rk < 0 ∨ 0 < rk) ∧ (rk < 67 ∨ 102 < rk) ∧ (rk < 105 ∨ 105 < rk)) : (cl_pan v c s h).2 rk = v rk := by
  unfold cl_pan
  by_cases hc_ : 0 ≤ c ∧ c < v 33 0
  · rw [if_pos hc_]
    by_cases hc_ : 0 ≤ s ∧ s < v 33 1
    · rw [if_pos hc_]
      by_cases hc_ : 1 ≤ h ∧ h ≤ 99
      · rw [if_pos hc_]
        all_goals (show (cl_asItIs ((cl_playWithPan v c s h).2)) rk = _)
        all_goals (rw [o_cl_asItIs (by omega), o_cl_playWithPan (by omega)])
      · rw [if_neg hc_]
        all_goals (show v rk = _)
        all_goals rfl
    · rw [if_neg hc_]
      all_goals (show v rk = _)
      all_goals rfl
  · rw [if_neg hc_]
    all_goals (show v rk = _)
    all_goals rfl

def cl_boy_26 : Nat → VS → Int → Int → Int → Int → Int → Int × VS
  | 0, v, s, h, g, m, j => (0, v)
  | f + 1, v, s, h, g, m, j => (if j < (v 33 0) then (if m < (cl_playWithPan v j s h).1 then (cl_boy_26 f ((cl_playWithPan v j s h).2) s h j ((cl_playWithPan v j s h).1) (j + 1)) else (cl_boy_26 f ((cl_playWithPan v j s h).2) s h g m (j + 1))) else (g, v))
def cl_boy (v : VS) (s : Int) (h : Int) : Int × VS :=
  (if 0 ≤ s ∧ s < v 33 1 then (if 1 ≤ h ∧ h ≤ 99 then ((cl_boy_26 10 v s h 0 (-1) 0).1, (cl_boy_26 10 v s h 0 (-1) 0).2) else ((-2), v)) else ((-2), v))
theorem l_cl_boy_26 {X : PX} {d b : Nat} {Q : Option PV → Nat → VS → Prop}  : ∀ (f : Nat) (v : VS) (s : Int) (h : Int) (g : Int) (m : Int) (j : Int) (o6 : Option PV), XI v → (0 ≤ j ∧ j ≤ 9) → (0 ≤ s ∧ s ≤ 299) → (0 ≤ h ∧ h ≤ 99) → (0 ≤ g ∧ g ≤ 9) → (-1 ≤ m ∧ m ≤ 300) → (9 < j + f) → (∀ qx0 : Option PV, ∀ qx1 : Option PV, ∀ qx2 : Option PV, ∀ qx4 : Option PV, ∀ qx5 : Option PV, ∀ qx6 : Option PV, XI ((cl_boy_26 f v s h g m j).2) → (0 ≤ (cl_boy_26 f v s h g m j).1 ∧ (cl_boy_26 f v s h g m j).1 ≤ 9) → WV X (d + 1 + 1 + 1 + 1 + 1 + 1 + 1) 127 68 [qx0, qx1, qx2, some (.inl ((cl_boy_26 f v s h g m j).1)), qx4, qx5, qx6] [] b (cl_boy_26 f v s h g m j).2 Q) → WV X (d + 1 + 1 + 1 + 1 + 1 + 1 + 1) 127 26 [some (.inr (.inr (some 0))), some (.inl s), some (.inl h), some (.inl g), some (.inl m), some (.inl j), o6] [] b v Q := by
  intro f
  induction f with
  | zero =>
    intro v s h g m j o6 hX hi_0 hi_1 hi_2 hi_3 hi_4 hf hK
    exfalso
    omega
  | succ f ih =>
    intro v s h g m j o6 hX hi_0 hi_1 hi_2 hi_3 hi_4 hf hK
    rw [cl_boy_26] at hK
    refine r_ex 4 (pc' := 35) (lo' := [some (.inr (.inr (some 0))), some (.inl s), some (.inl h), some (.inl g), some (.inl m), some (.inl j), o6]) (st' := [.inl (v 33 0), .inl j]) rfl ?_
    have hb_4 : 0 ≤ (v 33 0) ∧ (v 33 0) ≤ 9 := hX 33 0
    refine n_ic_ge (pc0 := 35) (len := 3) (t := 68) rfl (by first | assumption | omega | (unfold R32 at *; omega) | (unfold R64 at *; omega) | (simp only [R32, R64] at *; omega)) (by first | assumption | omega | (unfold R32 at *; omega) | (unfold R64 at *; omega) | (simp only [R32, R64] at *; omega)) (fun h_35 => ?_) (fun h_35 => ?_)
    · show WV _ _ _ 68 _ _ _ _ _
      rw [if_neg h_35] at hK
      exact hK _ _ _ _ _ _ hX (by first | assumption | omega | (unfold R32 at *; omega) | (unfold R64 at *; omega) | (simp only [R32, R64] at *; omega))
    · show WV _ _ _ 38 _ _ _ _ _
      rw [if_pos h_35] at hK
      refine r_ex 4 (pc' := 43) (lo' := [some (.inr (.inr (some 0))), some (.inl s), some (.inl h), some (.inl g), some (.inl m), some (.inl j), o6]) (st' := [.inl h, .inl s, .inl j, .inr (.inr (some 0))]) rfl ?_
      have hp_5 : 0 ≤ j ∧ j ≤ 8 := (by first | assumption | omega | (unfold R32 at *; omega) | (unfold R64 at *; omega) | (simp only [R32, R64] at *; omega))
      have hp_6 : 0 ≤ s ∧ s ≤ 299 := (by first | assumption | omega | (unfold R32 at *; omega) | (unfold R64 at *; omega) | (simp only [R32, R64] at *; omega))
      have hp_7 : 0 ≤ h ∧ h ≤ 99 := (by first | assumption | omega | (unfold R32 at *; omega) | (unfold R64 at *; omega) | (simp only [R32, R64] at *; omega))
      refine r_call (m := 126) (args := [.inr (.inr (some 0)), .inl j, .inl s, .inl h]) (n' := 127) (pc' := 46) (lo' := [some (.inr (.inr (some 0))), some (.inl s), some (.inl h), some (.inl g), some (.inl m), some (.inl j), o6]) (st' := []) (I := .invokevirtual 126) (pc0 := 43) (len := 3) rfl rfl rfl (e_cl_playWithPan hX hp_5 hp_6 hp_7) ?_
      show WV _ _ _ 46 _ [.inl ((cl_playWithPan v j s h).1)] _ (cl_playWithPan v j s h).2 _
      have hX_8 : XI (cl_playWithPan v j s h).2 := i_cl_playWithPan (v := v) (c := j) (s := s) (h := h) hX hp_5 hp_6 hp_7
      have hb_9 := n_cl_playWithPan (v := v) (c := j) (s := s) (h := h) hX hp_5 hp_6 hp_7
      refine r_ex 3 (pc' := 52) (lo' := [some (.inr (.inr (some 0))), some (.inl s), some (.inl h), some (.inl g), some (.inl m), some (.inl j), some (.inl ((cl_playWithPan v j s h).1))]) (st' := [.inl m, .inl ((cl_playWithPan v j s h).1)]) rfl ?_
      refine n_ic_le (pc0 := 52) (len := 3) (t := 62) rfl (by first | assumption | omega | (unfold R32 at *; omega) | (unfold R64 at *; omega) | (simp only [R32, R64] at *; omega)) (by first | assumption | omega | (unfold R32 at *; omega) | (unfold R64 at *; omega) | (simp only [R32, R64] at *; omega)) (fun h_52 => ?_) (fun h_52 => ?_)
      · show WV _ _ _ 62 _ _ _ _ _
        rw [if_neg h_52] at hK
        refine r_ex 2 (pc' := 26) (lo' := [some (.inr (.inr (some 0))), some (.inl s), some (.inl h), some (.inl g), some (.inl m), some (.inl (j + 1)), some (.inl ((cl_playWithPan v j s h).1))]) (st' := []) rfl ?_
        refine ih ((cl_playWithPan v j s h).2) s h g m (j + 1) _ hX_8 (by first | assumption | omega | (unfold R32 at *; omega) | (unfold R64 at *; omega) | (simp only [R32, R64] at *; omega)) (by first | assumption | omega | (unfold R32 at *; omega) | (unfold R64 at *; omega) | (simp only [R32, R64] at *; omega)) (by first | assumption | omega | (unfold R32 at *; omega) | (unfold R64 at *; omega) | (simp only [R32, R64] at *; omega)) (by first | assumption | omega | (unfold R32 at *; omega) | (unfold R64 at *; omega) | (simp only [R32, R64] at *; omega)) (by first | assumption | omega | (unfold R32 at *; omega) | (unfold R64 at *; omega) | (simp only [R32, R64] at *; omega)) (by first | assumption | omega | (unfold R32 at *; omega) | (unfold R64 at *; omega) | (simp only [R32, R64] at *; omega)) hK
      · show WV _ _ _ 55 _ _ _ _ _
        rw [if_pos h_52] at hK
        refine r_ex 6 (pc' := 26) (lo' := [some (.inr (.inr (some 0))), some (.inl s), some (.inl h), some (.inl j), some (.inl ((cl_playWithPan v j s h).1)), some (.inl (j + 1)), some (.inl ((cl_playWithPan v j s h).1))]) (st' := []) rfl ?_
        refine ih ((cl_playWithPan v j s h).2) s h j ((cl_playWithPan v j s h).1) (j + 1) _ hX_8 (by first | assumption | omega | (unfold R32 at *; omega) | (unfold R64 at *; omega) | (simp only [R32, R64] at *; omega)) (by first | assumption | omega | (unfold R32 at *; omega) | (unfold R64 at *; omega) | (simp only [R32, R64] at *; omega)) (by first | assumption | omega | (unfold R32 at *; omega) | (unfold R64 at *; omega) | (simp only [R32, R64] at *; omega)) (by first | assumption | omega | (unfold R32 at *; omega) | (unfold R64 at *; omega) | (simp only [R32, R64] at *; omega)) (by first | assumption | omega | (unfold R32 at *; omega) | (unfold R64 at *; omega) | (simp only [R32, R64] at *; omega)) (by first | assumption | omega | (unfold R32 at *; omega) | (unfold R64 at *; omega) | (simp only [R32, R64] at *; omega)) hK

theorem of_cl_boy_26 {rk : Nat} (hk : (rk < 67 ∨ 78 < rk) ∧ (rk < 91 ∨ 102 < rk)) : ∀ (f : Nat) {v : VS} {s : Int} {h : Int} {g : Int} {m : Int} {j : Int}, (cl_boy_26 f v s h g m j).2 rk = v rk := by
  intro f
  induction f with
  | zero => intro v s h g m j; rfl
  | succ f ih =>
    intro v s h g m j
    rw [cl_boy_26]
    by_cases hc_ : j < (v 33 0)
    · rw [if_pos hc_]
      by_cases hc_ : m < (cl_playWithPan v j s h).1
      · rw [if_pos hc_]
        all_goals (rw [ih, o_cl_playWithPan (by omega)])
      · rw [if_neg hc_]
        all_goals (rw [ih, o_cl_playWithPan (by omega)])
    · rw [if_neg hc_]
      all_goals (show v rk = _)
      all_goals rfl
theorem o_cl_boy_26 {rk : Nat} {f : Nat} {v : VS} {s : Int} {h : Int} {g : Int} {m : Int} {j : Int} (hk : (rk < 67 ∨ 78 < rk) ∧ (rk < 91 ∨ 102 < rk)) : (cl_boy_26 f v s h g m j).2 rk = v rk := of_cl_boy_26 hk f

theorem w_cl_boy {X : PX} {d b : Nat} {v : VS} {s : Int} {h : Int} (hX : XI v) (hp_a : R32 s) (hp_b : R32 h) {Q : Option PV → Nat → VS → Prop} (hQ : XI (cl_boy v s h).2 → Q (some (.inl (cl_boy v s h).1)) b (cl_boy v s h).2) : WV X (d + 1 + 1 + 1 + 1 + 1 + 1 + 1) 127 0 [some (.inr (.inr (some 0))), some (.inl s), some (.inl h), none, none, none, none] [] b v Q := by
  rw [cl_boy] at hQ
  refine r_ex 2 (pc' := 2) (lo' := [some (.inr (.inr (some 0))), some (.inl s), some (.inl h), none, none, none, none]) (st' := [.inl s, .inr (.inr (some 0))]) rfl ?_
  have hp_1 : R32 s := (by first | assumption | omega | (unfold R32 at *; omega) | (unfold R64 at *; omega) | (simp only [R32, R64] at *; omega))
  have hb_2 : 0 ≤ v 33 1 ∧ v 33 1 ≤ 300 := hX 33 1
  refine r_callb (P := 0 ≤ s ∧ s < v 33 1) (m := 67) (args := [.inr (.inr (some 0)), .inl s]) (n' := 127) (pc' := 5) (lo' := [some (.inr (.inr (some 0))), some (.inl s), some (.inl h), none, none, none, none]) (st' := []) (I := .invokevirtual 67) (pc0 := 2) (len := 3) rfl rfl rfl (e_cl_isSecond hX hp_1) (fun h_2 => ?_) (fun h_2 => ?_)
  · show WV _ _ _ 5 _ _ _ _ _
    rw [if_pos h_2] at hQ
    refine r_ex 2 (pc' := 9) (lo' := [some (.inr (.inr (some 0))), some (.inl s), some (.inl h), none, none, none, none]) (st' := [.inl h]) rfl ?_
    have hp_3 : R32 h := (by first | assumption | omega | (unfold R32 at *; omega) | (unfold R64 at *; omega) | (simp only [R32, R64] at *; omega))
    refine r_callb (P := 1 ≤ h ∧ h ≤ 99) (m := 98) (args := [.inl h]) (n' := 127) (pc' := 12) (lo' := [some (.inr (.inr (some 0))), some (.inl s), some (.inl h), none, none, none, none]) (st' := []) (I := .invokestatic 98) (pc0 := 9) (len := 3) rfl rfl rfl (e_cl_isHour hX hp_3) (fun h_9 => ?_) (fun h_9 => ?_)
    · show WV _ _ _ 12 _ _ _ _ _
      rw [if_pos h_9] at hQ
      refine r_ex 7 (pc' := 26) (lo' := [some (.inr (.inr (some 0))), some (.inl s), some (.inl h), some (.inl 0), some (.inl (-1)), some (.inl 0), none]) (st' := []) rfl ?_
      refine l_cl_boy_26 10 v s h 0 (-1) 0 _ hX (by first | assumption | omega | (unfold R32 at *; omega) | (unfold R64 at *; omega) | (simp only [R32, R64] at *; omega)) (by first | assumption | omega | (unfold R32 at *; omega) | (unfold R64 at *; omega) | (simp only [R32, R64] at *; omega)) (by first | assumption | omega | (unfold R32 at *; omega) | (unfold R64 at *; omega) | (simp only [R32, R64] at *; omega)) (by first | assumption | omega | (unfold R32 at *; omega) | (unfold R64 at *; omega) | (simp only [R32, R64] at *; omega)) (by first | assumption | omega | (unfold R32 at *; omega) | (unfold R64 at *; omega) | (simp only [R32, R64] at *; omega)) (by first | assumption | omega | (unfold R32 at *; omega) | (unfold R64 at *; omega) | (simp only [R32, R64] at *; omega)) (fun o0_10 o1_10 o2_10 o4_10 o5_10 o6_10 hX_10 hv_10_0 => ?_)
      show WV _ _ _ 68 _ _ _ _ _
      refine r_ex 1 (pc' := 69) (lo' := [o0_10, o1_10, o2_10, some (.inl ((cl_boy_26 10 v s h 0 (-1) 0).1)), o4_10, o5_10, o6_10]) (st' := [.inl ((cl_boy_26 10 v s h 0 (-1) 0).1)]) rfl ?_
      refine r_ret (rr := some (.inl ((cl_boy_26 10 v s h 0 (-1) 0).1))) (I := .ireturn) (pc0 := 69) (len := 1) rfl rfl ?_
      exact hQ hX_10 
    · show WV _ _ _ 12 _ _ _ _ _
      rw [if_neg h_9] at hQ
      refine r_ex 2 (pc' := 17) (lo' := [some (.inr (.inr (some 0))), some (.inl s), some (.inl h), none, none, none, none]) (st' := [.inl (-2)]) rfl ?_
      refine r_ret (rr := some (.inl (-2))) (I := .ireturn) (pc0 := 17) (len := 1) rfl rfl ?_
      exact hQ hX 
  · show WV _ _ _ 5 _ _ _ _ _
    rw [if_neg h_2] at hQ
    refine r_ex 2 (pc' := 17) (lo' := [some (.inr (.inr (some 0))), some (.inl s), some (.inl h), none, none, none, none]) (st' := [.inl (-2)]) rfl ?_
    refine r_ret (rr := some (.inl (-2))) (I := .ireturn) (pc0 := 17) (len := 1) rfl rfl ?_
    exact hQ hX 

theorem e_cl_boy {X : PX} {d b : Nat} {v : VS} {s : Int} {h : Int} (hX : XI v) (hp_a : R32 s) (hp_b : R32 h) : EvV X (d + 1 + 1 + 1 + 1 + 1 + 1 + 1) 127 [.inr (.inr (some 0)), .inl s, .inl h] b v (some (.inl (cl_boy v s h).1)) b ((cl_boy v s h).2) := EvV.of (w_cl_boy hX hp_a hp_b (fun _ => ⟨rfl, rfl, rfl⟩))

theorem i_cl_boy {v : VS} {s : Int} {h : Int} (hX : XI v) (hp_a : R32 s) (hp_b : R32 h) : XI ((cl_boy v s h).2) := by
  have q : WV (0, fun _ => 0, none) (0 + 1 + 1 + 1 + 1 + 1 + 1 + 1) 127 0 [some (.inr (.inr (some 0))), some (.inl s), some (.inl h), none, none, none, none] [] 1 v (fun _ _ _ => XI ((cl_boy v s h).2)) := w_cl_boy (X := (0, fun _ => 0, none)) (d := 0) (b := 1) hX hp_a hp_b (fun q => q)
  obtain ⟨_, _, _, _, _, _, _, q⟩ := q
  exact q

theorem o_cl_boy {rk : Nat} {v : VS} {s : Int} {h : Int} (hk : (rk < 67 ∨ 78 < rk) ∧ (rk < 91 ∨ 102 < rk)) : (cl_boy v s h).2 rk = v rk := by
  unfold cl_boy
  by_cases hc_ : 0 ≤ s ∧ s < v 33 1
  · rw [if_pos hc_]
    by_cases hc_ : 1 ≤ h ∧ h ≤ 99
    · rw [if_pos hc_]
      all_goals (show ((cl_boy_26 10 v s h 0 (-1) 0).2) rk = _)
      all_goals (rw [o_cl_boy_26 (by omega)])
    · rw [if_neg hc_]
      all_goals (show v rk = _)
      all_goals rfl
  · rw [if_neg hc_]
    all_goals (show v rk = _)
    all_goals rfl

def cl_gained (v : VS) (i : Int) (n : Int) : Int × VS :=
  (if i = (-1) then ((-2000000), v) else (if (cl_allStruckBy91 (xplay 91 (jf_72 (cl_asTold v) n)) ((xplay 91 (jf_72 (cl_asTold v) n)) 33 0)) = (-1) then ((-2000000), (xplay 91 (jf_72 (cl_asTold v) n))) else ((i - (cl_allStruckBy91 (xplay 91 (jf_72 (cl_asTold v) n)) ((xplay 91 (jf_72 (cl_asTold v) n)) 33 0))), (xplay 91 (jf_72 (cl_asTold v) n)))))
theorem w_cl_gained {X : PX} {d b : Nat} {v : VS} {i : Int} {n : Int} (hX : XI v) (hp_a : -1 ≤ i ∧ i ≤ 299) (hp_b : -20 ≤ n ∧ n ≤ 20) {Q : Option PV → Nat → VS → Prop} (hQ : XI (cl_gained v i n).2 → (-2000000 ≤ (cl_gained v i n).1 ∧ (cl_gained v i n).1 ≤ 300) → Q (some (.inl (cl_gained v i n).1)) b (cl_gained v i n).2) : WV X (d + 1 + 1 + 1 + 1 + 1 + 1) 130 0 [some (.inr (.inr (some 0))), some (.inl i), some (.inl n), none] [] b v Q := by
  rw [cl_gained] at hQ
  refine r_ex 2 (pc' := 2) (lo' := [some (.inr (.inr (some 0))), some (.inl i), some (.inl n), none]) (st' := [.inl (-1), .inl i]) rfl ?_
  refine n_ic_ne (pc0 := 2) (len := 3) (t := 8) rfl (by first | assumption | omega | (unfold R32 at *; omega) | (unfold R64 at *; omega) | (simp only [R32, R64] at *; omega)) (by first | assumption | omega | (unfold R32 at *; omega) | (unfold R64 at *; omega) | (simp only [R32, R64] at *; omega)) (fun h_2 => ?_) (fun h_2 => ?_)
  · show WV _ _ _ 8 _ _ _ _ _
    rw [if_neg h_2] at hQ
    refine r_ex 4 (pc' := 16) (lo' := [some (.inr (.inr (some 0))), some (.inl i), some (.inl n), none]) (st' := [.inr (.inr (some 33)), .inr (.inr (some 67))]) rfl ?_
    refine r_call (m := 73) (args := [.inr (.inr (some 67)), .inr (.inr (some 33))]) (n' := 130) (pc' := 19) (lo' := [some (.inr (.inr (some 0))), some (.inl i), some (.inl n), none]) (st' := []) (I := .invokevirtual 73) (pc0 := 16) (len := 3) rfl rfl rfl (e_cl_asTold hX) ?_
    show WV _ _ _ 19 _ [] _ (cl_asTold v) _
    have hX_1 : XI (cl_asTold v) := i_cl_asTold (v := v) hX
    refine r_ex 4 (pc' := 27) (lo' := [some (.inr (.inr (some 0))), some (.inl i), some (.inl n), none]) (st' := [.inl n, .inr (.inr (some 72))]) rfl ?_
    have hp_2 : -20 ≤ n ∧ n ≤ 20 := (by first | assumption | omega | (unfold R32 at *; omega) | (unfold R64 at *; omega) | (simp only [R32, R64] at *; omega))
    refine r_call (m := 20) (args := [.inr (.inr (some 72)), .inl n]) (n' := 130) (pc' := 30) (lo' := [some (.inr (.inr (some 0))), some (.inl i), some (.inl n), none]) (st' := []) (I := .invokestatic 20) (pc0 := 27) (len := 3) rfl rfl rfl (e_jf_72 hX_1 hp_2) ?_
    show WV _ _ _ 30 _ [] _ (jf_72 (cl_asTold v) n) _
    have hX_3 : XI (jf_72 (cl_asTold v) n) := i_jf_72 (v := (cl_asTold v)) (x := n) hX_1 hp_2
    refine r_ex 2 (pc' := 34) (lo' := [some (.inr (.inr (some 0))), some (.inl i), some (.inl n), none]) (st' := [.inr (.inr (some 91))]) rfl ?_
    refine r_call (m := 74) (args := [.inr (.inr (some 91))]) (n' := 130) (pc' := 37) (lo' := [some (.inr (.inr (some 0))), some (.inl i), some (.inl n), none]) (st' := []) (I := .invokevirtual 74) (pc0 := 34) (len := 3) rfl rfl rfl (x_play91 hX_3) ?_
    show WV _ _ _ 37 _ [] _ (xplay 91 (jf_72 (cl_asTold v) n)) _
    have hX_4 : XI (xplay 91 (jf_72 (cl_asTold v) n)) := XI_play91 (v := (jf_72 (cl_asTold v) n)) hX_3
    refine r_ex 5 (pc' := 48) (lo' := [some (.inr (.inr (some 0))), some (.inl i), some (.inl n), none]) (st' := [.inl ((xplay 91 (jf_72 (cl_asTold v) n)) 33 0), .inr (.inr (some 91))]) rfl ?_
    have hb_5 : 0 ≤ ((xplay 91 (jf_72 (cl_asTold v) n)) 33 0) ∧ ((xplay 91 (jf_72 (cl_asTold v) n)) 33 0) ≤ 9 := hX_4 33 0
    have hp_6 : 0 ≤ ((xplay 91 (jf_72 (cl_asTold v) n)) 33 0) ∧ ((xplay 91 (jf_72 (cl_asTold v) n)) 33 0) ≤ 9 := (by first | assumption | omega | (unfold R32 at *; omega) | (unfold R64 at *; omega) | (simp only [R32, R64] at *; omega))
    refine r_call (m := 129) (args := [.inr (.inr (some 91)), .inl ((xplay 91 (jf_72 (cl_asTold v) n)) 33 0)]) (n' := 130) (pc' := 51) (lo' := [some (.inr (.inr (some 0))), some (.inl i), some (.inl n), none]) (st' := []) (I := .invokevirtual 129) (pc0 := 48) (len := 3) rfl rfl rfl (e_cl_allStruckBy91 hX_4 hp_6) ?_
    show WV _ _ _ 51 _ [.inl (cl_allStruckBy91 (xplay 91 (jf_72 (cl_asTold v) n)) ((xplay 91 (jf_72 (cl_asTold v) n)) 33 0))] _ _ _
    have hb_7 := n_cl_allStruckBy91 (v := (xplay 91 (jf_72 (cl_asTold v) n))) (n := ((xplay 91 (jf_72 (cl_asTold v) n)) 33 0)) hX_4 hp_6
    refine r_ex 3 (pc' := 54) (lo' := [some (.inr (.inr (some 0))), some (.inl i), some (.inl n), some (.inl (cl_allStruckBy91 (xplay 91 (jf_72 (cl_asTold v) n)) ((xplay 91 (jf_72 (cl_asTold v) n)) 33 0)))]) (st' := [.inl (-1), .inl (cl_allStruckBy91 (xplay 91 (jf_72 (cl_asTold v) n)) ((xplay 91 (jf_72 (cl_asTold v) n)) 33 0))]) rfl ?_
    refine n_ic_ne (pc0 := 54) (len := 3) (t := 62) rfl (by first | assumption | omega | (unfold R32 at *; omega) | (unfold R64 at *; omega) | (simp only [R32, R64] at *; omega)) (by first | assumption | omega | (unfold R32 at *; omega) | (unfold R64 at *; omega) | (simp only [R32, R64] at *; omega)) (fun h_54 => ?_) (fun h_54 => ?_)
    · show WV _ _ _ 62 _ _ _ _ _
      rw [if_neg h_54] at hQ
      refine r_ex 3 (pc' := 65) (lo' := [some (.inr (.inr (some 0))), some (.inl i), some (.inl n), some (.inl (cl_allStruckBy91 (xplay 91 (jf_72 (cl_asTold v) n)) ((xplay 91 (jf_72 (cl_asTold v) n)) 33 0)))]) (st' := [.inl (i - (cl_allStruckBy91 (xplay 91 (jf_72 (cl_asTold v) n)) ((xplay 91 (jf_72 (cl_asTold v) n)) 33 0)))]) rfl ?_
      refine r_ret (rr := some (.inl (i - (cl_allStruckBy91 (xplay 91 (jf_72 (cl_asTold v) n)) ((xplay 91 (jf_72 (cl_asTold v) n)) 33 0))))) (I := .ireturn) (pc0 := 65) (len := 1) rfl rfl ?_
      exact hQ hX_4 (by first | assumption | omega | (unfold R32 at *; omega) | (unfold R64 at *; omega) | (simp only [R32, R64] at *; omega))
    · show WV _ _ _ 57 _ _ _ _ _
      rw [if_pos h_54] at hQ
      refine r_ex 2 (pc' := 65) (lo' := [some (.inr (.inr (some 0))), some (.inl i), some (.inl n), some (.inl (cl_allStruckBy91 (xplay 91 (jf_72 (cl_asTold v) n)) ((xplay 91 (jf_72 (cl_asTold v) n)) 33 0)))]) (st' := [.inl (-2000000)]) rfl ?_
      refine r_ret (rr := some (.inl (-2000000))) (I := .ireturn) (pc0 := 65) (len := 1) rfl rfl ?_
      exact hQ hX_4 (by first | assumption | omega | (unfold R32 at *; omega) | (unfold R64 at *; omega) | (simp only [R32, R64] at *; omega))
  · show WV _ _ _ 5 _ _ _ _ _
    rw [if_pos h_2] at hQ
    refine r_ex 1 (pc' := 7) (lo' := [some (.inr (.inr (some 0))), some (.inl i), some (.inl n), none]) (st' := [.inl (-2000000)]) rfl ?_
    refine r_ret (rr := some (.inl (-2000000))) (I := .ireturn) (pc0 := 7) (len := 1) rfl rfl ?_
    exact hQ hX (by first | assumption | omega | (unfold R32 at *; omega) | (unfold R64 at *; omega) | (simp only [R32, R64] at *; omega))

theorem e_cl_gained {X : PX} {d b : Nat} {v : VS} {i : Int} {n : Int} (hX : XI v) (hp_a : -1 ≤ i ∧ i ≤ 299) (hp_b : -20 ≤ n ∧ n ≤ 20) : EvV X (d + 1 + 1 + 1 + 1 + 1 + 1) 130 [.inr (.inr (some 0)), .inl i, .inl n] b v (some (.inl (cl_gained v i n).1)) b ((cl_gained v i n).2) := EvV.of (w_cl_gained hX hp_a hp_b (fun _ _ => ⟨rfl, rfl, rfl⟩))

theorem i_cl_gained {v : VS} {i : Int} {n : Int} (hX : XI v) (hp_a : -1 ≤ i ∧ i ≤ 299) (hp_b : -20 ≤ n ∧ n ≤ 20) : XI ((cl_gained v i n).2) := by
  have q : WV (0, fun _ => 0, none) (0 + 1 + 1 + 1 + 1 + 1 + 1) 130 0 [some (.inr (.inr (some 0))), some (.inl i), some (.inl n), none] [] 1 v (fun _ _ _ => XI ((cl_gained v i n).2)) := w_cl_gained (X := (0, fun _ => 0, none)) (d := 0) (b := 1) hX hp_a hp_b (fun q _ => q)
  obtain ⟨_, _, _, _, _, _, _, q⟩ := q
  exact q

theorem n_cl_gained {v : VS} {i : Int} {n : Int} (hX : XI v) (hp_a : -1 ≤ i ∧ i ≤ 299) (hp_b : -20 ≤ n ∧ n ≤ 20) : -2000000 ≤ (cl_gained v i n).1 ∧ (cl_gained v i n).1 ≤ 300 := by
  have q : WV (0, fun _ => 0, none) (0 + 1 + 1 + 1 + 1 + 1 + 1) 130 0 [some (.inr (.inr (some 0))), some (.inl i), some (.inl n), none] [] 1 v (fun _ _ _ => -2000000 ≤ (cl_gained v i n).1 ∧ (cl_gained v i n).1 ≤ 300) := w_cl_gained (X := (0, fun _ => 0, none)) (d := 0) (b := 1) hX hp_a hp_b (fun _ q => q)
  obtain ⟨_, _, _, _, _, _, _, q⟩ := q
  exact q

theorem o_cl_gained {rk : Nat} {v : VS} {i : Int} {n : Int} (hk : (rk < 67 ∨ 78 < rk) ∧ (rk < 91 ∨ 102 < rk)) : (cl_gained v i n).2 rk = v rk := by
  unfold cl_gained
  by_cases hc_ : i = (-1)
  · rw [if_pos hc_]
    all_goals (show v rk = _)
    all_goals rfl
  · rw [if_neg hc_]
    by_cases hc_ : (cl_allStruckBy91 (xplay 91 (jf_72 (cl_asTold v) n)) ((xplay 91 (jf_72 (cl_asTold v) n)) 33 0)) = (-1)
    · rw [if_pos hc_]
      all_goals (show (xplay 91 (jf_72 (cl_asTold v) n)) rk = _)
      all_goals (rw [o_xplay91 (by omega), o_jf_72 (by omega), o_cl_asTold (by omega)])
    · rw [if_neg hc_]
      all_goals (show (xplay 91 (jf_72 (cl_asTold v) n)) rk = _)
      all_goals (rw [o_xplay91 (by omega), o_jf_72 (by omega), o_cl_asTold (by omega)])

def cl_gain (v : VS) (n : Int) : Int × VS :=
  (if 0 < v 33 2 then (if n < (-20) then ((-2000000), v) else (if 20 < n then ((-2000000), v) else ((cl_gained (cl_asItIs v) (cl_allStruckBy79 (cl_asItIs v) ((cl_asItIs v) 33 0)) n).1, (cl_gained (cl_asItIs v) (cl_allStruckBy79 (cl_asItIs v) ((cl_asItIs v) 33 0)) n).2))) else ((-2000000), v))
theorem w_cl_gain {X : PX} {d b : Nat} {v : VS} {n : Int} (hX : XI v) (hp_a : R32 n) {Q : Option PV → Nat → VS → Prop} (hQ : XI (cl_gain v n).2 → Q (some (.inl (cl_gain v n).1)) b (cl_gain v n).2) : WV X (d + 1 + 1 + 1 + 1 + 1 + 1 + 1) 128 0 [some (.inr (.inr (some 0))), some (.inl n)] [] b v Q := by
  rw [cl_gain] at hQ
  refine r_ex 1 (pc' := 1) (lo' := [some (.inr (.inr (some 0))), some (.inl n)]) (st' := [.inr (.inr (some 0))]) rfl ?_
  have hb_1 : 0 ≤ v 33 2 ∧ v 33 2 ≤ 2001 := hX 33 2
  refine r_callb (P := 0 < v 33 2) (m := 71) (args := [.inr (.inr (some 0))]) (n' := 128) (pc' := 4) (lo' := [some (.inr (.inr (some 0))), some (.inl n)]) (st' := []) (I := .invokevirtual 71) (pc0 := 1) (len := 3) rfl rfl rfl (e_cl_hasBay hX) (fun h_1 => ?_) (fun h_1 => ?_)
  · show WV _ _ _ 4 _ _ _ _ _
    rw [if_pos h_1] at hQ
    refine r_ex 3 (pc' := 10) (lo' := [some (.inr (.inr (some 0))), some (.inl n)]) (st' := [.inl (-20), .inl n]) rfl ?_
    refine n_ic_lt (pc0 := 10) (len := 3) (t := 19) rfl (by first | assumption | omega | (unfold R32 at *; omega) | (unfold R64 at *; omega) | (simp only [R32, R64] at *; omega)) (by first | assumption | omega | (unfold R32 at *; omega) | (unfold R64 at *; omega) | (simp only [R32, R64] at *; omega)) (fun h_10 => ?_) (fun h_10 => ?_)
    · show WV _ _ _ 19 _ _ _ _ _
      rw [if_pos h_10] at hQ
      refine r_ex 1 (pc' := 21) (lo' := [some (.inr (.inr (some 0))), some (.inl n)]) (st' := [.inl (-2000000)]) rfl ?_
      refine r_ret (rr := some (.inl (-2000000))) (I := .ireturn) (pc0 := 21) (len := 1) rfl rfl ?_
      exact hQ hX 
    · show WV _ _ _ 13 _ _ _ _ _
      rw [if_neg h_10] at hQ
      refine r_ex 2 (pc' := 16) (lo' := [some (.inr (.inr (some 0))), some (.inl n)]) (st' := [.inl 20, .inl n]) rfl ?_
      refine n_ic_le (pc0 := 16) (len := 3) (t := 22) rfl (by first | assumption | omega | (unfold R32 at *; omega) | (unfold R64 at *; omega) | (simp only [R32, R64] at *; omega)) (by first | assumption | omega | (unfold R32 at *; omega) | (unfold R64 at *; omega) | (simp only [R32, R64] at *; omega)) (fun h_16 => ?_) (fun h_16 => ?_)
      · show WV _ _ _ 22 _ _ _ _ _
        rw [if_neg h_16] at hQ
        refine r_ex 2 (pc' := 24) (lo' := [some (.inr (.inr (some 0))), some (.inl n)]) (st' := [.inr (.inr (some 0)), .inr (.inr (some 0))]) rfl ?_
        refine r_call (m := 72) (args := [.inr (.inr (some 0))]) (n' := 128) (pc' := 27) (lo' := [some (.inr (.inr (some 0))), some (.inl n)]) (st' := [.inr (.inr (some 0))]) (I := .invokevirtual 72) (pc0 := 24) (len := 3) rfl rfl rfl (e_cl_asItIs hX) ?_
        show WV _ _ _ 27 _ [.inr (.inr (some 79)), .inr (.inr (some 0))] _ (cl_asItIs v) _
        have hX_2 : XI (cl_asItIs v) := i_cl_asItIs (v := v) hX
        refine r_ex 3 (pc' := 34) (lo' := [some (.inr (.inr (some 0))), some (.inl n)]) (st' := [.inl ((cl_asItIs v) 33 0), .inr (.inr (some 79)), .inr (.inr (some 0))]) rfl ?_
        have hb_3 : 0 ≤ ((cl_asItIs v) 33 0) ∧ ((cl_asItIs v) 33 0) ≤ 9 := hX_2 33 0
        have hp_4 : 0 ≤ ((cl_asItIs v) 33 0) ∧ ((cl_asItIs v) 33 0) ≤ 9 := (by first | assumption | omega | (unfold R32 at *; omega) | (unfold R64 at *; omega) | (simp only [R32, R64] at *; omega))
        refine r_call (m := 129) (args := [.inr (.inr (some 79)), .inl ((cl_asItIs v) 33 0)]) (n' := 128) (pc' := 37) (lo' := [some (.inr (.inr (some 0))), some (.inl n)]) (st' := [.inr (.inr (some 0))]) (I := .invokevirtual 129) (pc0 := 34) (len := 3) rfl rfl rfl (e_cl_allStruckBy79 hX_2 hp_4) ?_
        show WV _ _ _ 37 _ [.inl (cl_allStruckBy79 (cl_asItIs v) ((cl_asItIs v) 33 0)), .inr (.inr (some 0))] _ _ _
        have hb_5 := n_cl_allStruckBy79 (v := (cl_asItIs v)) (n := ((cl_asItIs v) 33 0)) hX_2 hp_4
        refine r_ex 1 (pc' := 38) (lo' := [some (.inr (.inr (some 0))), some (.inl n)]) (st' := [.inl n, .inl (cl_allStruckBy79 (cl_asItIs v) ((cl_asItIs v) 33 0)), .inr (.inr (some 0))]) rfl ?_
        have hp_6 : -1 ≤ (cl_allStruckBy79 (cl_asItIs v) ((cl_asItIs v) 33 0)) ∧ (cl_allStruckBy79 (cl_asItIs v) ((cl_asItIs v) 33 0)) ≤ 299 := (by first | assumption | omega | (unfold R32 at *; omega) | (unfold R64 at *; omega) | (simp only [R32, R64] at *; omega))
        have hp_7 : -20 ≤ n ∧ n ≤ 20 := (by first | assumption | omega | (unfold R32 at *; omega) | (unfold R64 at *; omega) | (simp only [R32, R64] at *; omega))
        refine r_call (m := 130) (args := [.inr (.inr (some 0)), .inl (cl_allStruckBy79 (cl_asItIs v) ((cl_asItIs v) 33 0)), .inl n]) (n' := 128) (pc' := 41) (lo' := [some (.inr (.inr (some 0))), some (.inl n)]) (st' := []) (I := .invokevirtual 130) (pc0 := 38) (len := 3) rfl rfl rfl (e_cl_gained hX_2 hp_6 hp_7) ?_
        show WV _ _ _ 41 _ [.inl ((cl_gained (cl_asItIs v) (cl_allStruckBy79 (cl_asItIs v) ((cl_asItIs v) 33 0)) n).1)] _ (cl_gained (cl_asItIs v) (cl_allStruckBy79 (cl_asItIs v) ((cl_asItIs v) 33 0)) n).2 _
        have hX_8 : XI (cl_gained (cl_asItIs v) (cl_allStruckBy79 (cl_asItIs v) ((cl_asItIs v) 33 0)) n).2 := i_cl_gained (v := (cl_asItIs v)) (i := (cl_allStruckBy79 (cl_asItIs v) ((cl_asItIs v) 33 0))) (n := n) hX_2 hp_6 hp_7
        have hb_9 := n_cl_gained (v := (cl_asItIs v)) (i := (cl_allStruckBy79 (cl_asItIs v) ((cl_asItIs v) 33 0))) (n := n) hX_2 hp_6 hp_7
        refine r_ret (rr := some (.inl ((cl_gained (cl_asItIs v) (cl_allStruckBy79 (cl_asItIs v) ((cl_asItIs v) 33 0)) n).1))) (I := .ireturn) (pc0 := 41) (len := 1) rfl rfl ?_
        exact hQ hX_8 
      · show WV _ _ _ 19 _ _ _ _ _
        rw [if_pos h_16] at hQ
        refine r_ex 1 (pc' := 21) (lo' := [some (.inr (.inr (some 0))), some (.inl n)]) (st' := [.inl (-2000000)]) rfl ?_
        refine r_ret (rr := some (.inl (-2000000))) (I := .ireturn) (pc0 := 21) (len := 1) rfl rfl ?_
        exact hQ hX 
  · show WV _ _ _ 4 _ _ _ _ _
    rw [if_neg h_1] at hQ
    refine r_ex 2 (pc' := 21) (lo' := [some (.inr (.inr (some 0))), some (.inl n)]) (st' := [.inl (-2000000)]) rfl ?_
    refine r_ret (rr := some (.inl (-2000000))) (I := .ireturn) (pc0 := 21) (len := 1) rfl rfl ?_
    exact hQ hX 

theorem e_cl_gain {X : PX} {d b : Nat} {v : VS} {n : Int} (hX : XI v) (hp_a : R32 n) : EvV X (d + 1 + 1 + 1 + 1 + 1 + 1 + 1) 128 [.inr (.inr (some 0)), .inl n] b v (some (.inl (cl_gain v n).1)) b ((cl_gain v n).2) := EvV.of (w_cl_gain hX hp_a (fun _ => ⟨rfl, rfl, rfl⟩))

theorem i_cl_gain {v : VS} {n : Int} (hX : XI v) (hp_a : R32 n) : XI ((cl_gain v n).2) := by
  have q : WV (0, fun _ => 0, none) (0 + 1 + 1 + 1 + 1 + 1 + 1 + 1) 128 0 [some (.inr (.inr (some 0))), some (.inl n)] [] 1 v (fun _ _ _ => XI ((cl_gain v n).2)) := w_cl_gain (X := (0, fun _ => 0, none)) (d := 0) (b := 1) hX hp_a (fun q => q)
  obtain ⟨_, _, _, _, _, _, _, q⟩ := q
  exact q

theorem o_cl_gain {rk : Nat} {v : VS} {n : Int} (hk : (rk < 0 ∨ 0 < rk) ∧ (rk < 67 ∨ 102 < rk) ∧ (rk < 105 ∨ 105 < rk)) : (cl_gain v n).2 rk = v rk := by
  unfold cl_gain
  by_cases hc_ : 0 < v 33 2
  · rw [if_pos hc_]
    by_cases hc_ : n < (-20)
    · rw [if_pos hc_]
      all_goals (show v rk = _)
      all_goals rfl
    · rw [if_neg hc_]
      by_cases hc_ : 20 < n
      · rw [if_pos hc_]
        all_goals (show v rk = _)
        all_goals rfl
      · rw [if_neg hc_]
        all_goals (show ((cl_gained (cl_asItIs v) (cl_allStruckBy79 (cl_asItIs v) ((cl_asItIs v) 33 0)) n).2) rk = _)
        all_goals (rw [o_cl_gained (by omega), o_cl_asItIs (by omega)])
  · rw [if_neg hc_]
    all_goals (show v rk = _)
    all_goals rfl

def cl_wise_35 : Nat → VS → Int → Int → Int → Int → Int × VS
  | 0, v, i, g, m, n => (0, v)
  | f + 1, v, i, g, m, n => (if 20 < n then (g, v) else (if m < (cl_gained v i n).1 then (cl_wise_35 f ((cl_gained v i n).2) i n ((cl_gained v i n).1) (n + 1)) else (cl_wise_35 f ((cl_gained v i n).2) i g m (n + 1))))
def cl_wise (v : VS)  : Int × VS :=
  (if 0 < v 33 2 then ((cl_wise_35 42 (cl_asItIs v) (cl_allStruckBy79 (cl_asItIs v) ((cl_asItIs v) 33 0)) (-2000000) (-2000000) (-20)).1, (cl_wise_35 42 (cl_asItIs v) (cl_allStruckBy79 (cl_asItIs v) ((cl_asItIs v) 33 0)) (-2000000) (-2000000) (-20)).2) else ((-2000000), v))
theorem l_cl_wise_35 {X : PX} {d b : Nat} {Q : Option PV → Nat → VS → Prop}  : ∀ (f : Nat) (v : VS) (i : Int) (g : Int) (m : Int) (n : Int) (o5 : Option PV), XI v → (-20 ≤ n ∧ n ≤ 21) → (-1 ≤ i ∧ i ≤ 299) → (-2000000 ≤ g ∧ g ≤ 20) → (-2000000 ≤ m ∧ m ≤ 300) → (21 < n + f) → (∀ qx0 : Option PV, ∀ qx1 : Option PV, ∀ qx3 : Option PV, ∀ qx4 : Option PV, ∀ qx5 : Option PV, XI ((cl_wise_35 f v i g m n).2) → (-2000000 ≤ (cl_wise_35 f v i g m n).1 ∧ (cl_wise_35 f v i g m n).1 ≤ 20) → WV X (d + 1 + 1 + 1 + 1 + 1 + 1 + 1) 131 69 [qx0, qx1, some (.inl ((cl_wise_35 f v i g m n).1)), qx3, qx4, qx5] [] b (cl_wise_35 f v i g m n).2 Q) → WV X (d + 1 + 1 + 1 + 1 + 1 + 1 + 1) 131 35 [some (.inr (.inr (some 0))), some (.inl i), some (.inl g), some (.inl m), some (.inl n), o5] [] b v Q := by
  intro f
  induction f with
  | zero =>
    intro v i g m n o5 hX hi_0 hi_1 hi_2 hi_3 hf hK
    exfalso
    omega
  | succ f ih =>
    intro v i g m n o5 hX hi_0 hi_1 hi_2 hi_3 hf hK
    rw [cl_wise_35] at hK
    refine r_ex 2 (pc' := 39) (lo' := [some (.inr (.inr (some 0))), some (.inl i), some (.inl g), some (.inl m), some (.inl n), o5]) (st' := [.inl 20, .inl n]) rfl ?_
    refine n_ic_gt (pc0 := 39) (len := 3) (t := 69) rfl (by first | assumption | omega | (unfold R32 at *; omega) | (unfold R64 at *; omega) | (simp only [R32, R64] at *; omega)) (by first | assumption | omega | (unfold R32 at *; omega) | (unfold R64 at *; omega) | (simp only [R32, R64] at *; omega)) (fun h_39 => ?_) (fun h_39 => ?_)
    · show WV _ _ _ 69 _ _ _ _ _
      rw [if_pos h_39] at hK
      exact hK _ _ _ _ _ hX (by first | assumption | omega | (unfold R32 at *; omega) | (unfold R64 at *; omega) | (simp only [R32, R64] at *; omega))
    · show WV _ _ _ 42 _ _ _ _ _
      rw [if_neg h_39] at hK
      refine r_ex 3 (pc' := 46) (lo' := [some (.inr (.inr (some 0))), some (.inl i), some (.inl g), some (.inl m), some (.inl n), o5]) (st' := [.inl n, .inl i, .inr (.inr (some 0))]) rfl ?_
      have hp_6 : -1 ≤ i ∧ i ≤ 299 := (by first | assumption | omega | (unfold R32 at *; omega) | (unfold R64 at *; omega) | (simp only [R32, R64] at *; omega))
      have hp_7 : -20 ≤ n ∧ n ≤ 20 := (by first | assumption | omega | (unfold R32 at *; omega) | (unfold R64 at *; omega) | (simp only [R32, R64] at *; omega))
      refine r_call (m := 130) (args := [.inr (.inr (some 0)), .inl i, .inl n]) (n' := 131) (pc' := 49) (lo' := [some (.inr (.inr (some 0))), some (.inl i), some (.inl g), some (.inl m), some (.inl n), o5]) (st' := []) (I := .invokevirtual 130) (pc0 := 46) (len := 3) rfl rfl rfl (e_cl_gained hX hp_6 hp_7) ?_
      show WV _ _ _ 49 _ [.inl ((cl_gained v i n).1)] _ (cl_gained v i n).2 _
      have hX_8 : XI (cl_gained v i n).2 := i_cl_gained (v := v) (i := i) (n := n) hX hp_6 hp_7
      have hb_9 := n_cl_gained (v := v) (i := i) (n := n) hX hp_6 hp_7
      refine r_ex 3 (pc' := 54) (lo' := [some (.inr (.inr (some 0))), some (.inl i), some (.inl g), some (.inl m), some (.inl n), some (.inl ((cl_gained v i n).1))]) (st' := [.inl m, .inl ((cl_gained v i n).1)]) rfl ?_
      refine n_ic_le (pc0 := 54) (len := 3) (t := 63) rfl (by first | assumption | omega | (unfold R32 at *; omega) | (unfold R64 at *; omega) | (simp only [R32, R64] at *; omega)) (by first | assumption | omega | (unfold R32 at *; omega) | (unfold R64 at *; omega) | (simp only [R32, R64] at *; omega)) (fun h_54 => ?_) (fun h_54 => ?_)
      · show WV _ _ _ 63 _ _ _ _ _
        rw [if_neg h_54] at hK
        refine r_ex 2 (pc' := 35) (lo' := [some (.inr (.inr (some 0))), some (.inl i), some (.inl g), some (.inl m), some (.inl (n + 1)), some (.inl ((cl_gained v i n).1))]) (st' := []) rfl ?_
        refine ih ((cl_gained v i n).2) i g m (n + 1) _ hX_8 (by first | assumption | omega | (unfold R32 at *; omega) | (unfold R64 at *; omega) | (simp only [R32, R64] at *; omega)) (by first | assumption | omega | (unfold R32 at *; omega) | (unfold R64 at *; omega) | (simp only [R32, R64] at *; omega)) (by first | assumption | omega | (unfold R32 at *; omega) | (unfold R64 at *; omega) | (simp only [R32, R64] at *; omega)) (by first | assumption | omega | (unfold R32 at *; omega) | (unfold R64 at *; omega) | (simp only [R32, R64] at *; omega)) (by first | assumption | omega | (unfold R32 at *; omega) | (unfold R64 at *; omega) | (simp only [R32, R64] at *; omega)) hK
      · show WV _ _ _ 57 _ _ _ _ _
        rw [if_pos h_54] at hK
        refine r_ex 6 (pc' := 35) (lo' := [some (.inr (.inr (some 0))), some (.inl i), some (.inl n), some (.inl ((cl_gained v i n).1)), some (.inl (n + 1)), some (.inl ((cl_gained v i n).1))]) (st' := []) rfl ?_
        refine ih ((cl_gained v i n).2) i n ((cl_gained v i n).1) (n + 1) _ hX_8 (by first | assumption | omega | (unfold R32 at *; omega) | (unfold R64 at *; omega) | (simp only [R32, R64] at *; omega)) (by first | assumption | omega | (unfold R32 at *; omega) | (unfold R64 at *; omega) | (simp only [R32, R64] at *; omega)) (by first | assumption | omega | (unfold R32 at *; omega) | (unfold R64 at *; omega) | (simp only [R32, R64] at *; omega)) (by first | assumption | omega | (unfold R32 at *; omega) | (unfold R64 at *; omega) | (simp only [R32, R64] at *; omega)) (by first | assumption | omega | (unfold R32 at *; omega) | (unfold R64 at *; omega) | (simp only [R32, R64] at *; omega)) hK

theorem of_cl_wise_35 {rk : Nat} (hk : (rk < 67 ∨ 78 < rk) ∧ (rk < 91 ∨ 102 < rk)) : ∀ (f : Nat) {v : VS} {i : Int} {g : Int} {m : Int} {n : Int}, (cl_wise_35 f v i g m n).2 rk = v rk := by
  intro f
  induction f with
  | zero => intro v i g m n; rfl
  | succ f ih =>
    intro v i g m n
    rw [cl_wise_35]
    by_cases hc_ : 20 < n
    · rw [if_pos hc_]
      all_goals (show v rk = _)
      all_goals rfl
    · rw [if_neg hc_]
      by_cases hc_ : m < (cl_gained v i n).1
      · rw [if_pos hc_]
        all_goals (rw [ih, o_cl_gained (by omega)])
      · rw [if_neg hc_]
        all_goals (rw [ih, o_cl_gained (by omega)])
theorem o_cl_wise_35 {rk : Nat} {f : Nat} {v : VS} {i : Int} {g : Int} {m : Int} {n : Int} (hk : (rk < 67 ∨ 78 < rk) ∧ (rk < 91 ∨ 102 < rk)) : (cl_wise_35 f v i g m n).2 rk = v rk := of_cl_wise_35 hk f

theorem w_cl_wise {X : PX} {d b : Nat} {v : VS}  (hX : XI v)  {Q : Option PV → Nat → VS → Prop} (hQ : XI (cl_wise v).2 → Q (some (.inl (cl_wise v).1)) b (cl_wise v).2) : WV X (d + 1 + 1 + 1 + 1 + 1 + 1 + 1) 131 0 [some (.inr (.inr (some 0))), none, none, none, none, none] [] b v Q := by
  rw [cl_wise] at hQ
  refine r_ex 1 (pc' := 1) (lo' := [some (.inr (.inr (some 0))), none, none, none, none, none]) (st' := [.inr (.inr (some 0))]) rfl ?_
  have hb_1 : 0 ≤ v 33 2 ∧ v 33 2 ≤ 2001 := hX 33 2
  refine r_callb (P := 0 < v 33 2) (m := 71) (args := [.inr (.inr (some 0))]) (n' := 131) (pc' := 4) (lo' := [some (.inr (.inr (some 0))), none, none, none, none, none]) (st' := []) (I := .invokevirtual 71) (pc0 := 1) (len := 3) rfl rfl rfl (e_cl_hasBay hX) (fun h_1 => ?_) (fun h_1 => ?_)
  · show WV _ _ _ 4 _ _ _ _ _
    rw [if_pos h_1] at hQ
    refine r_ex 2 (pc' := 11) (lo' := [some (.inr (.inr (some 0))), none, none, none, none, none]) (st' := [.inr (.inr (some 0))]) rfl ?_
    refine r_call (m := 72) (args := [.inr (.inr (some 0))]) (n' := 131) (pc' := 14) (lo' := [some (.inr (.inr (some 0))), none, none, none, none, none]) (st' := []) (I := .invokevirtual 72) (pc0 := 11) (len := 3) rfl rfl rfl (e_cl_asItIs hX) ?_
    show WV _ _ _ 14 _ [.inr (.inr (some 79))] _ (cl_asItIs v) _
    have hX_2 : XI (cl_asItIs v) := i_cl_asItIs (v := v) hX
    refine r_ex 3 (pc' := 21) (lo' := [some (.inr (.inr (some 0))), none, none, none, none, none]) (st' := [.inl ((cl_asItIs v) 33 0), .inr (.inr (some 79))]) rfl ?_
    have hb_3 : 0 ≤ ((cl_asItIs v) 33 0) ∧ ((cl_asItIs v) 33 0) ≤ 9 := hX_2 33 0
    have hp_4 : 0 ≤ ((cl_asItIs v) 33 0) ∧ ((cl_asItIs v) 33 0) ≤ 9 := (by first | assumption | omega | (unfold R32 at *; omega) | (unfold R64 at *; omega) | (simp only [R32, R64] at *; omega))
    refine r_call (m := 129) (args := [.inr (.inr (some 79)), .inl ((cl_asItIs v) 33 0)]) (n' := 131) (pc' := 24) (lo' := [some (.inr (.inr (some 0))), none, none, none, none, none]) (st' := []) (I := .invokevirtual 129) (pc0 := 21) (len := 3) rfl rfl rfl (e_cl_allStruckBy79 hX_2 hp_4) ?_
    show WV _ _ _ 24 _ [.inl (cl_allStruckBy79 (cl_asItIs v) ((cl_asItIs v) 33 0))] _ _ _
    have hb_5 := n_cl_allStruckBy79 (v := (cl_asItIs v)) (n := ((cl_asItIs v) 33 0)) hX_2 hp_4
    refine r_ex 7 (pc' := 35) (lo' := [some (.inr (.inr (some 0))), some (.inl (cl_allStruckBy79 (cl_asItIs v) ((cl_asItIs v) 33 0))), some (.inl (-2000000)), some (.inl (-2000000)), some (.inl (-20)), none]) (st' := []) rfl ?_
    refine l_cl_wise_35 42 (cl_asItIs v) (cl_allStruckBy79 (cl_asItIs v) ((cl_asItIs v) 33 0)) (-2000000) (-2000000) (-20) _ hX_2 (by first | assumption | omega | (unfold R32 at *; omega) | (unfold R64 at *; omega) | (simp only [R32, R64] at *; omega)) (by first | assumption | omega | (unfold R32 at *; omega) | (unfold R64 at *; omega) | (simp only [R32, R64] at *; omega)) (by first | assumption | omega | (unfold R32 at *; omega) | (unfold R64 at *; omega) | (simp only [R32, R64] at *; omega)) (by first | assumption | omega | (unfold R32 at *; omega) | (unfold R64 at *; omega) | (simp only [R32, R64] at *; omega)) (by first | assumption | omega | (unfold R32 at *; omega) | (unfold R64 at *; omega) | (simp only [R32, R64] at *; omega)) (fun o0_10 o1_10 o3_10 o4_10 o5_10 hX_10 hv_10_0 => ?_)
    show WV _ _ _ 69 _ _ _ _ _
    refine r_ex 1 (pc' := 70) (lo' := [o0_10, o1_10, some (.inl ((cl_wise_35 42 (cl_asItIs v) (cl_allStruckBy79 (cl_asItIs v) ((cl_asItIs v) 33 0)) (-2000000) (-2000000) (-20)).1)), o3_10, o4_10, o5_10]) (st' := [.inl ((cl_wise_35 42 (cl_asItIs v) (cl_allStruckBy79 (cl_asItIs v) ((cl_asItIs v) 33 0)) (-2000000) (-2000000) (-20)).1)]) rfl ?_
    refine r_ret (rr := some (.inl ((cl_wise_35 42 (cl_asItIs v) (cl_allStruckBy79 (cl_asItIs v) ((cl_asItIs v) 33 0)) (-2000000) (-2000000) (-20)).1))) (I := .ireturn) (pc0 := 70) (len := 1) rfl rfl ?_
    exact hQ hX_10 
  · show WV _ _ _ 4 _ _ _ _ _
    rw [if_neg h_1] at hQ
    refine r_ex 2 (pc' := 9) (lo' := [some (.inr (.inr (some 0))), none, none, none, none, none]) (st' := [.inl (-2000000)]) rfl ?_
    refine r_ret (rr := some (.inl (-2000000))) (I := .ireturn) (pc0 := 9) (len := 1) rfl rfl ?_
    exact hQ hX 

theorem e_cl_wise {X : PX} {d b : Nat} {v : VS}  (hX : XI v)  : EvV X (d + 1 + 1 + 1 + 1 + 1 + 1 + 1) 131 [.inr (.inr (some 0))] b v (some (.inl (cl_wise v).1)) b ((cl_wise v).2) := EvV.of (w_cl_wise hX  (fun _ => ⟨rfl, rfl, rfl⟩))

theorem i_cl_wise {v : VS}  (hX : XI v)  : XI ((cl_wise v).2) := by
  have q : WV (0, fun _ => 0, none) (0 + 1 + 1 + 1 + 1 + 1 + 1 + 1) 131 0 [some (.inr (.inr (some 0))), none, none, none, none, none] [] 1 v (fun _ _ _ => XI ((cl_wise v).2)) := w_cl_wise (X := (0, fun _ => 0, none)) (d := 0) (b := 1) hX  (fun q => q)
  obtain ⟨_, _, _, _, _, _, _, q⟩ := q
  exact q

theorem o_cl_wise {rk : Nat} {v : VS}  (hk : (rk < 0 ∨ 0 < rk) ∧ (rk < 67 ∨ 102 < rk) ∧ (rk < 105 ∨ 105 < rk)) : (cl_wise v ).2 rk = v rk := by
  unfold cl_wise
  by_cases hc_ : 0 < v 33 2
  · rw [if_pos hc_]
    all_goals (show ((cl_wise_35 42 (cl_asItIs v) (cl_allStruckBy79 (cl_asItIs v) ((cl_asItIs v) 33 0)) (-2000000) (-2000000) (-20)).2) rk = _)
    all_goals (rw [o_cl_wise_35 (by omega), o_cl_asItIs (by omega)])
  · rw [if_neg hc_]
    all_goals (show v rk = _)
    all_goals rfl

def cl_without (v : VS) (w : Int) : Int × VS :=
  (if 0 < v 33 2 then (if w < 0 then ((-2000000), v) else (if 6 < w then ((-2000000), v) else ((((xplay 91 (v2 (cl_asTold (cl_asItIs v)) 67 4 w)) 91 4) - ((cl_asItIs v) 79 4)), (xplay 91 (v2 (cl_asTold (cl_asItIs v)) 67 4 w))))) else ((-2000000), v))
theorem w_cl_without {X : PX} {d b : Nat} {v : VS} {w : Int} (hX : XI v) (hp_a : R32 w) {Q : Option PV → Nat → VS → Prop} (hQ : XI (cl_without v w).2 → Q (some (.inl (cl_without v w).1)) b (cl_without v w).2) : WV X (d + 1 + 1 + 1 + 1 + 1 + 1 + 1) 151 0 [some (.inr (.inr (some 0))), some (.inl w), none] [] b v Q := by
  rw [cl_without] at hQ
  refine r_ex 1 (pc' := 1) (lo' := [some (.inr (.inr (some 0))), some (.inl w), none]) (st' := [.inr (.inr (some 0))]) rfl ?_
  have hb_1 : 0 ≤ v 33 2 ∧ v 33 2 ≤ 2001 := hX 33 2
  refine r_callb (P := 0 < v 33 2) (m := 71) (args := [.inr (.inr (some 0))]) (n' := 151) (pc' := 4) (lo' := [some (.inr (.inr (some 0))), some (.inl w), none]) (st' := []) (I := .invokevirtual 71) (pc0 := 1) (len := 3) rfl rfl rfl (e_cl_hasBay hX) (fun h_1 => ?_) (fun h_1 => ?_)
  · show WV _ _ _ 4 _ _ _ _ _
    rw [if_pos h_1] at hQ
    refine r_ex 2 (pc' := 8) (lo' := [some (.inr (.inr (some 0))), some (.inl w), none]) (st' := [.inl w]) rfl ?_
    refine n_if_lt (pc0 := 8) (len := 3) (t := 17) rfl (by first | assumption | omega | (unfold R32 at *; omega) | (unfold R64 at *; omega) | (simp only [R32, R64] at *; omega)) (fun h_8 => ?_) (fun h_8 => ?_)
    · show WV _ _ _ 17 _ _ _ _ _
      rw [if_pos h_8] at hQ
      refine r_ex 1 (pc' := 19) (lo' := [some (.inr (.inr (some 0))), some (.inl w), none]) (st' := [.inl (-2000000)]) rfl ?_
      refine r_ret (rr := some (.inl (-2000000))) (I := .ireturn) (pc0 := 19) (len := 1) rfl rfl ?_
      exact hQ hX 
    · show WV _ _ _ 11 _ _ _ _ _
      rw [if_neg h_8] at hQ
      refine r_ex 2 (pc' := 14) (lo' := [some (.inr (.inr (some 0))), some (.inl w), none]) (st' := [.inl 6, .inl w]) rfl ?_
      refine n_ic_le (pc0 := 14) (len := 3) (t := 20) rfl (by first | assumption | omega | (unfold R32 at *; omega) | (unfold R64 at *; omega) | (simp only [R32, R64] at *; omega)) (by first | assumption | omega | (unfold R32 at *; omega) | (unfold R64 at *; omega) | (simp only [R32, R64] at *; omega)) (fun h_14 => ?_) (fun h_14 => ?_)
      · show WV _ _ _ 20 _ _ _ _ _
        rw [if_neg h_14] at hQ
        refine r_ex 1 (pc' := 21) (lo' := [some (.inr (.inr (some 0))), some (.inl w), none]) (st' := [.inr (.inr (some 0))]) rfl ?_
        refine r_call (m := 72) (args := [.inr (.inr (some 0))]) (n' := 151) (pc' := 24) (lo' := [some (.inr (.inr (some 0))), some (.inl w), none]) (st' := []) (I := .invokevirtual 72) (pc0 := 21) (len := 3) rfl rfl rfl (e_cl_asItIs hX) ?_
        show WV _ _ _ 24 _ [.inr (.inr (some 79))] _ (cl_asItIs v) _
        have hX_2 : XI (cl_asItIs v) := i_cl_asItIs (v := v) hX
        refine r_ex 6 (pc' := 36) (lo' := [some (.inr (.inr (some 0))), some (.inl w), some (.inl ((cl_asItIs v) 79 4))]) (st' := [.inr (.inr (some 33)), .inr (.inr (some 67))]) rfl ?_
        have hb_3 : 0 ≤ ((cl_asItIs v) 79 4) ∧ ((cl_asItIs v) 79 4) ≤ 300 := hX_2 79 4
        refine r_call (m := 73) (args := [.inr (.inr (some 67)), .inr (.inr (some 33))]) (n' := 151) (pc' := 39) (lo' := [some (.inr (.inr (some 0))), some (.inl w), some (.inl ((cl_asItIs v) 79 4))]) (st' := []) (I := .invokevirtual 73) (pc0 := 36) (len := 3) rfl rfl rfl (e_cl_asTold hX_2) ?_
        show WV _ _ _ 39 _ [] _ (cl_asTold (cl_asItIs v)) _
        have hX_4 : XI (cl_asTold (cl_asItIs v)) := i_cl_asTold (v := (cl_asItIs v)) hX_2
        refine r_ex 3 (pc' := 44) (lo' := [some (.inr (.inr (some 0))), some (.inl w), some (.inl ((cl_asItIs v) 79 4))]) (st' := [.inl w, .inr (.inr (some 67))]) rfl ?_
        refine r_puti2 (j := 4) (pc' := 47) (pc0 := 44) (len := 3) rfl (s_67 _) rfl rfl rfl (Or.inl rfl) rfl rfl ?_
        have hX_5 : XI (v2 (cl_asTold (cl_asItIs v)) 67 4 w) := XI.put hX_4 (show -1 ≤ w ∧ w ≤ 6 from (by first | assumption | omega | (unfold R32 at *; omega) | (unfold R64 at *; omega) | (simp only [R32, R64] at *; omega)))
        refine r_ex 2 (pc' := 51) (lo' := [some (.inr (.inr (some 0))), some (.inl w), some (.inl ((cl_asItIs v) 79 4))]) (st' := [.inr (.inr (some 91))]) rfl ?_
        refine r_call (m := 74) (args := [.inr (.inr (some 91))]) (n' := 151) (pc' := 54) (lo' := [some (.inr (.inr (some 0))), some (.inl w), some (.inl ((cl_asItIs v) 79 4))]) (st' := []) (I := .invokevirtual 74) (pc0 := 51) (len := 3) rfl rfl rfl (x_play91 hX_5) ?_
        show WV _ _ _ 54 _ [] _ (xplay 91 (v2 (cl_asTold (cl_asItIs v)) 67 4 w)) _
        have hX_6 : XI (xplay 91 (v2 (cl_asTold (cl_asItIs v)) 67 4 w)) := XI_play91 (v := (v2 (cl_asTold (cl_asItIs v)) 67 4 w)) hX_5
        refine r_ex 5 (pc' := 63) (lo' := [some (.inr (.inr (some 0))), some (.inl w), some (.inl ((cl_asItIs v) 79 4))]) (st' := [.inl (((xplay 91 (v2 (cl_asTold (cl_asItIs v)) 67 4 w)) 91 4) - ((cl_asItIs v) 79 4))]) rfl ?_
        have hb_7 : 0 ≤ ((xplay 91 (v2 (cl_asTold (cl_asItIs v)) 67 4 w)) 91 4) ∧ ((xplay 91 (v2 (cl_asTold (cl_asItIs v)) 67 4 w)) 91 4) ≤ 300 := hX_6 91 4
        refine r_ret (rr := some (.inl (((xplay 91 (v2 (cl_asTold (cl_asItIs v)) 67 4 w)) 91 4) - ((cl_asItIs v) 79 4)))) (I := .ireturn) (pc0 := 63) (len := 1) rfl rfl ?_
        exact hQ hX_6 
      · show WV _ _ _ 17 _ _ _ _ _
        rw [if_pos h_14] at hQ
        refine r_ex 1 (pc' := 19) (lo' := [some (.inr (.inr (some 0))), some (.inl w), none]) (st' := [.inl (-2000000)]) rfl ?_
        refine r_ret (rr := some (.inl (-2000000))) (I := .ireturn) (pc0 := 19) (len := 1) rfl rfl ?_
        exact hQ hX 
  · show WV _ _ _ 4 _ _ _ _ _
    rw [if_neg h_1] at hQ
    refine r_ex 2 (pc' := 19) (lo' := [some (.inr (.inr (some 0))), some (.inl w), none]) (st' := [.inl (-2000000)]) rfl ?_
    refine r_ret (rr := some (.inl (-2000000))) (I := .ireturn) (pc0 := 19) (len := 1) rfl rfl ?_
    exact hQ hX 

theorem e_cl_without {X : PX} {d b : Nat} {v : VS} {w : Int} (hX : XI v) (hp_a : R32 w) : EvV X (d + 1 + 1 + 1 + 1 + 1 + 1 + 1) 151 [.inr (.inr (some 0)), .inl w] b v (some (.inl (cl_without v w).1)) b ((cl_without v w).2) := EvV.of (w_cl_without hX hp_a (fun _ => ⟨rfl, rfl, rfl⟩))

theorem i_cl_without {v : VS} {w : Int} (hX : XI v) (hp_a : R32 w) : XI ((cl_without v w).2) := by
  have q : WV (0, fun _ => 0, none) (0 + 1 + 1 + 1 + 1 + 1 + 1 + 1) 151 0 [some (.inr (.inr (some 0))), some (.inl w), none] [] 1 v (fun _ _ _ => XI ((cl_without v w).2)) := w_cl_without (X := (0, fun _ => 0, none)) (d := 0) (b := 1) hX hp_a (fun q => q)
  obtain ⟨_, _, _, _, _, _, _, q⟩ := q
  exact q

theorem o_cl_without {rk : Nat} {v : VS} {w : Int} (hk : (rk < 0 ∨ 0 < rk) ∧ (rk < 67 ∨ 102 < rk) ∧ (rk < 105 ∨ 105 < rk)) : (cl_without v w).2 rk = v rk := by
  unfold cl_without
  by_cases hc_ : 0 < v 33 2
  · rw [if_pos hc_]
    by_cases hc_ : w < 0
    · rw [if_pos hc_]
      all_goals (show v rk = _)
      all_goals rfl
    · rw [if_neg hc_]
      by_cases hc_ : 6 < w
      · rw [if_pos hc_]
        all_goals (show v rk = _)
        all_goals rfl
      · rw [if_neg hc_]
        all_goals (show (xplay 91 (v2 (cl_asTold (cl_asItIs v)) 67 4 w)) rk = _)
        all_goals (rw [o_xplay91 (by omega), v2_row (by omega), o_cl_asTold (by omega), o_cl_asItIs (by omega)])
  · rw [if_neg hc_]
    all_goals (show v rk = _)
    all_goals rfl

def cl_playUnheard (v : VS) (i : Int) : Int × VS :=
  (((xplay 91 (v2 (cl_asTold v) 67 5 i)) 91 4), (xplay 91 (v2 (cl_asTold v) 67 5 i)))
theorem w_cl_playUnheard {X : PX} {d b : Nat} {v : VS} {i : Int} (hX : XI v) (hp_a : 0 ≤ i ∧ i ≤ 299) {Q : Option PV → Nat → VS → Prop} (hQ : XI (cl_playUnheard v i).2 → (0 ≤ (cl_playUnheard v i).1 ∧ (cl_playUnheard v i).1 ≤ 300) → Q (some (.inl (cl_playUnheard v i).1)) b (cl_playUnheard v i).2) : WV X (d + 1 + 1 + 1 + 1 + 1 + 1) 153 0 [some (.inr (.inr (some 0))), some (.inl i)] [] b v Q := by
  rw [cl_playUnheard] at hQ
  refine r_ex 4 (pc' := 8) (lo' := [some (.inr (.inr (some 0))), some (.inl i)]) (st' := [.inr (.inr (some 33)), .inr (.inr (some 67))]) rfl ?_
  refine r_call (m := 73) (args := [.inr (.inr (some 67)), .inr (.inr (some 33))]) (n' := 153) (pc' := 11) (lo' := [some (.inr (.inr (some 0))), some (.inl i)]) (st' := []) (I := .invokevirtual 73) (pc0 := 8) (len := 3) rfl rfl rfl (e_cl_asTold hX) ?_
  show WV _ _ _ 11 _ [] _ (cl_asTold v) _
  have hX_1 : XI (cl_asTold v) := i_cl_asTold (v := v) hX
  refine r_ex 3 (pc' := 16) (lo' := [some (.inr (.inr (some 0))), some (.inl i)]) (st' := [.inl i, .inr (.inr (some 67))]) rfl ?_
  refine r_puti2 (j := 5) (pc' := 19) (pc0 := 16) (len := 3) rfl (s_67 _) rfl rfl rfl (Or.inl rfl) rfl rfl ?_
  have hX_2 : XI (v2 (cl_asTold v) 67 5 i) := XI.put hX_1 (show -1 ≤ i ∧ i ≤ 299 from (by first | assumption | omega | (unfold R32 at *; omega) | (unfold R64 at *; omega) | (simp only [R32, R64] at *; omega)))
  refine r_ex 2 (pc' := 23) (lo' := [some (.inr (.inr (some 0))), some (.inl i)]) (st' := [.inr (.inr (some 91))]) rfl ?_
  refine r_call (m := 74) (args := [.inr (.inr (some 91))]) (n' := 153) (pc' := 26) (lo' := [some (.inr (.inr (some 0))), some (.inl i)]) (st' := []) (I := .invokevirtual 74) (pc0 := 23) (len := 3) rfl rfl rfl (x_play91 hX_2) ?_
  show WV _ _ _ 26 _ [] _ (xplay 91 (v2 (cl_asTold v) 67 5 i)) _
  have hX_3 : XI (xplay 91 (v2 (cl_asTold v) 67 5 i)) := XI_play91 (v := (v2 (cl_asTold v) 67 5 i)) hX_2
  refine r_ex 3 (pc' := 33) (lo' := [some (.inr (.inr (some 0))), some (.inl i)]) (st' := [.inl ((xplay 91 (v2 (cl_asTold v) 67 5 i)) 91 4)]) rfl ?_
  have hb_4 : 0 ≤ ((xplay 91 (v2 (cl_asTold v) 67 5 i)) 91 4) ∧ ((xplay 91 (v2 (cl_asTold v) 67 5 i)) 91 4) ≤ 300 := hX_3 91 4
  refine r_ret (rr := some (.inl ((xplay 91 (v2 (cl_asTold v) 67 5 i)) 91 4))) (I := .ireturn) (pc0 := 33) (len := 1) rfl rfl ?_
  exact hQ hX_3 (by first | assumption | omega | (unfold R32 at *; omega) | (unfold R64 at *; omega) | (simp only [R32, R64] at *; omega))

theorem e_cl_playUnheard {X : PX} {d b : Nat} {v : VS} {i : Int} (hX : XI v) (hp_a : 0 ≤ i ∧ i ≤ 299) : EvV X (d + 1 + 1 + 1 + 1 + 1 + 1) 153 [.inr (.inr (some 0)), .inl i] b v (some (.inl (cl_playUnheard v i).1)) b ((cl_playUnheard v i).2) := EvV.of (w_cl_playUnheard hX hp_a (fun _ _ => ⟨rfl, rfl, rfl⟩))

theorem i_cl_playUnheard {v : VS} {i : Int} (hX : XI v) (hp_a : 0 ≤ i ∧ i ≤ 299) : XI ((cl_playUnheard v i).2) := by
  have q : WV (0, fun _ => 0, none) (0 + 1 + 1 + 1 + 1 + 1 + 1) 153 0 [some (.inr (.inr (some 0))), some (.inl i)] [] 1 v (fun _ _ _ => XI ((cl_playUnheard v i).2)) := w_cl_playUnheard (X := (0, fun _ => 0, none)) (d := 0) (b := 1) hX hp_a (fun q _ => q)
  obtain ⟨_, _, _, _, _, _, _, q⟩ := q
  exact q

theorem n_cl_playUnheard {v : VS} {i : Int} (hX : XI v) (hp_a : 0 ≤ i ∧ i ≤ 299) : 0 ≤ (cl_playUnheard v i).1 ∧ (cl_playUnheard v i).1 ≤ 300 := by
  have q : WV (0, fun _ => 0, none) (0 + 1 + 1 + 1 + 1 + 1 + 1) 153 0 [some (.inr (.inr (some 0))), some (.inl i)] [] 1 v (fun _ _ _ => 0 ≤ (cl_playUnheard v i).1 ∧ (cl_playUnheard v i).1 ≤ 300) := w_cl_playUnheard (X := (0, fun _ => 0, none)) (d := 0) (b := 1) hX hp_a (fun _ q => q)
  obtain ⟨_, _, _, _, _, _, _, q⟩ := q
  exact q

theorem o_cl_playUnheard {rk : Nat} {v : VS} {i : Int} (hk : (rk < 67 ∨ 78 < rk) ∧ (rk < 91 ∨ 102 < rk)) : (cl_playUnheard v i).2 rk = v rk := by
  unfold cl_playUnheard
  all_goals (show (xplay 91 (v2 (cl_asTold v) 67 5 i)) rk = _)
  all_goals (rw [o_xplay91 (by omega), v2_row (by omega), o_cl_asTold (by omega)])

def cl_unheard (v : VS) (i : Int) : Int × VS :=
  (if 0 < v 33 2 then (if 0 ≤ i ∧ i < (cl_asItIs v) 79 4 then ((((cl_asItIs v) 79 4) - (cl_playUnheard (cl_asItIs v) i).1), (cl_playUnheard (cl_asItIs v) i).2) else ((-2000000), (cl_asItIs v))) else ((-2000000), v))
theorem w_cl_unheard {X : PX} {d b : Nat} {v : VS} {i : Int} (hX : XI v) (hp_a : R32 i) {Q : Option PV → Nat → VS → Prop} (hQ : XI (cl_unheard v i).2 → Q (some (.inl (cl_unheard v i).1)) b (cl_unheard v i).2) : WV X (d + 1 + 1 + 1 + 1 + 1 + 1 + 1) 152 0 [some (.inr (.inr (some 0))), some (.inl i)] [] b v Q := by
  rw [cl_unheard] at hQ
  refine r_ex 1 (pc' := 1) (lo' := [some (.inr (.inr (some 0))), some (.inl i)]) (st' := [.inr (.inr (some 0))]) rfl ?_
  have hb_1 : 0 ≤ v 33 2 ∧ v 33 2 ≤ 2001 := hX 33 2
  refine r_callb (P := 0 < v 33 2) (m := 71) (args := [.inr (.inr (some 0))]) (n' := 152) (pc' := 4) (lo' := [some (.inr (.inr (some 0))), some (.inl i)]) (st' := []) (I := .invokevirtual 71) (pc0 := 1) (len := 3) rfl rfl rfl (e_cl_hasBay hX) (fun h_1 => ?_) (fun h_1 => ?_)
  · show WV _ _ _ 4 _ _ _ _ _
    rw [if_pos h_1] at hQ
    refine r_ex 2 (pc' := 8) (lo' := [some (.inr (.inr (some 0))), some (.inl i)]) (st' := [.inr (.inr (some 0))]) rfl ?_
    refine r_call (m := 72) (args := [.inr (.inr (some 0))]) (n' := 152) (pc' := 11) (lo' := [some (.inr (.inr (some 0))), some (.inl i)]) (st' := []) (I := .invokevirtual 72) (pc0 := 8) (len := 3) rfl rfl rfl (e_cl_asItIs hX) ?_
    show WV _ _ _ 11 _ [.inr (.inr (some 79))] _ (cl_asItIs v) _
    have hX_2 : XI (cl_asItIs v) := i_cl_asItIs (v := v) hX
    refine r_ex 1 (pc' := 12) (lo' := [some (.inr (.inr (some 0))), some (.inl i)]) (st' := [.inl i, .inr (.inr (some 79))]) rfl ?_
    have hp_3 : R32 i := (by first | assumption | omega | (unfold R32 at *; omega) | (unfold R64 at *; omega) | (simp only [R32, R64] at *; omega))
    have hb_4 : 0 ≤ (cl_asItIs v) 79 4 ∧ (cl_asItIs v) 79 4 ≤ 300 := hX_2 79 4
    refine r_callb (P := 0 ≤ i ∧ i < (cl_asItIs v) 79 4) (m := 87) (args := [.inr (.inr (some 79)), .inl i]) (n' := 152) (pc' := 15) (lo' := [some (.inr (.inr (some 0))), some (.inl i)]) (st' := []) (I := .invokevirtual 87) (pc0 := 12) (len := 3) rfl rfl rfl (e_cl_has79 hX_2 hp_3) (fun h_12 => ?_) (fun h_12 => ?_)
    · show WV _ _ _ 15 _ _ _ _ _
      rw [if_pos h_12] at hQ
      refine r_ex 6 (pc' := 30) (lo' := [some (.inr (.inr (some 0))), some (.inl i)]) (st' := [.inl i, .inr (.inr (some 0)), .inl ((cl_asItIs v) 79 4)]) rfl ?_
      have hb_5 : 0 ≤ ((cl_asItIs v) 79 4) ∧ ((cl_asItIs v) 79 4) ≤ 300 := hX_2 79 4
      have hp_6 : 0 ≤ i ∧ i ≤ 299 := (by first | assumption | omega | (unfold R32 at *; omega) | (unfold R64 at *; omega) | (simp only [R32, R64] at *; omega))
      refine r_call (m := 153) (args := [.inr (.inr (some 0)), .inl i]) (n' := 152) (pc' := 33) (lo' := [some (.inr (.inr (some 0))), some (.inl i)]) (st' := [.inl ((cl_asItIs v) 79 4)]) (I := .invokevirtual 153) (pc0 := 30) (len := 3) rfl rfl rfl (e_cl_playUnheard hX_2 hp_6) ?_
      show WV _ _ _ 33 _ [.inl ((cl_playUnheard (cl_asItIs v) i).1), .inl ((cl_asItIs v) 79 4)] _ (cl_playUnheard (cl_asItIs v) i).2 _
      have hX_7 : XI (cl_playUnheard (cl_asItIs v) i).2 := i_cl_playUnheard (v := (cl_asItIs v)) (i := i) hX_2 hp_6
      have hb_8 := n_cl_playUnheard (v := (cl_asItIs v)) (i := i) hX_2 hp_6
      refine r_ex 1 (pc' := 34) (lo' := [some (.inr (.inr (some 0))), some (.inl i)]) (st' := [.inl (((cl_asItIs v) 79 4) - (cl_playUnheard (cl_asItIs v) i).1)]) rfl ?_
      refine r_ret (rr := some (.inl (((cl_asItIs v) 79 4) - (cl_playUnheard (cl_asItIs v) i).1))) (I := .ireturn) (pc0 := 34) (len := 1) rfl rfl ?_
      exact hQ hX_7 
    · show WV _ _ _ 15 _ _ _ _ _
      rw [if_neg h_12] at hQ
      refine r_ex 2 (pc' := 20) (lo' := [some (.inr (.inr (some 0))), some (.inl i)]) (st' := [.inl (-2000000)]) rfl ?_
      refine r_ret (rr := some (.inl (-2000000))) (I := .ireturn) (pc0 := 20) (len := 1) rfl rfl ?_
      exact hQ hX_2 
  · show WV _ _ _ 4 _ _ _ _ _
    rw [if_neg h_1] at hQ
    refine r_ex 2 (pc' := 20) (lo' := [some (.inr (.inr (some 0))), some (.inl i)]) (st' := [.inl (-2000000)]) rfl ?_
    refine r_ret (rr := some (.inl (-2000000))) (I := .ireturn) (pc0 := 20) (len := 1) rfl rfl ?_
    exact hQ hX 

theorem e_cl_unheard {X : PX} {d b : Nat} {v : VS} {i : Int} (hX : XI v) (hp_a : R32 i) : EvV X (d + 1 + 1 + 1 + 1 + 1 + 1 + 1) 152 [.inr (.inr (some 0)), .inl i] b v (some (.inl (cl_unheard v i).1)) b ((cl_unheard v i).2) := EvV.of (w_cl_unheard hX hp_a (fun _ => ⟨rfl, rfl, rfl⟩))

theorem i_cl_unheard {v : VS} {i : Int} (hX : XI v) (hp_a : R32 i) : XI ((cl_unheard v i).2) := by
  have q : WV (0, fun _ => 0, none) (0 + 1 + 1 + 1 + 1 + 1 + 1 + 1) 152 0 [some (.inr (.inr (some 0))), some (.inl i)] [] 1 v (fun _ _ _ => XI ((cl_unheard v i).2)) := w_cl_unheard (X := (0, fun _ => 0, none)) (d := 0) (b := 1) hX hp_a (fun q => q)
  obtain ⟨_, _, _, _, _, _, _, q⟩ := q
  exact q

theorem o_cl_unheard {rk : Nat} {v : VS} {i : Int} (hk : (rk < 0 ∨ 0 < rk) ∧ (rk < 67 ∨ 102 < rk) ∧ (rk < 105 ∨ 105 < rk)) : (cl_unheard v i).2 rk = v rk := by
  unfold cl_unheard
  by_cases hc_ : 0 < v 33 2
  · rw [if_pos hc_]
    by_cases hc_ : 0 ≤ i ∧ i < (cl_asItIs v) 79 4
    · rw [if_pos hc_]
      all_goals (show ((cl_playUnheard (cl_asItIs v) i).2) rk = _)
      all_goals (rw [o_cl_playUnheard (by omega), o_cl_asItIs (by omega)])
    · rw [if_neg hc_]
      all_goals (show (cl_asItIs v) rk = _)
      all_goals (rw [o_cl_asItIs (by omega)])
  · rw [if_neg hc_]
    all_goals (show v rk = _)
    all_goals rfl

def cl_key_27 : Nat → VS → Int → Int → Int → Int → Int × VS
  | 0, v, g, m, n, i => (0, v)
  | f + 1, v, g, m, n, i => (if i < n then (if (cl_playUnheard v i).1 < m then (cl_key_27 f ((cl_playUnheard v i).2) i ((cl_playUnheard v i).1) n (i + 1)) else (cl_key_27 f ((cl_playUnheard v i).2) g m n (i + 1))) else (g, v))
def cl_key (v : VS)  : Int × VS :=
  (if 0 < v 33 2 then ((cl_key_27 301 (cl_asItIs v) (-1) 301 ((cl_asItIs v) 79 4) 0).1, (cl_key_27 301 (cl_asItIs v) (-1) 301 ((cl_asItIs v) 79 4) 0).2) else ((-2), v))
theorem l_cl_key_27 {X : PX} {d b : Nat} {Q : Option PV → Nat → VS → Prop}  : ∀ (f : Nat) (v : VS) (g : Int) (m : Int) (n : Int) (i : Int) (o5 : Option PV), XI v → (0 ≤ i ∧ i ≤ 300) → (0 ≤ n ∧ n ≤ 300) → (-1 ≤ g ∧ g ≤ 299) → (0 ≤ m ∧ m ≤ 301) → (300 < i + f) → (∀ qx0 : Option PV, ∀ qx2 : Option PV, ∀ qx3 : Option PV, ∀ qx4 : Option PV, ∀ qx5 : Option PV, XI ((cl_key_27 f v g m n i).2) → (-1 ≤ (cl_key_27 f v g m n i).1 ∧ (cl_key_27 f v g m n i).1 ≤ 299) → WV X (d + 1 + 1 + 1 + 1 + 1 + 1 + 1) 154 59 [qx0, some (.inl ((cl_key_27 f v g m n i).1)), qx2, qx3, qx4, qx5] [] b (cl_key_27 f v g m n i).2 Q) → WV X (d + 1 + 1 + 1 + 1 + 1 + 1 + 1) 154 27 [some (.inr (.inr (some 0))), some (.inl g), some (.inl m), some (.inl n), some (.inl i), o5] [] b v Q := by
  intro f
  induction f with
  | zero =>
    intro v g m n i o5 hX hi_0 hi_1 hi_2 hi_3 hf hK
    exfalso
    omega
  | succ f ih =>
    intro v g m n i o5 hX hi_0 hi_1 hi_2 hi_3 hf hK
    rw [cl_key_27] at hK
    refine r_ex 2 (pc' := 30) (lo' := [some (.inr (.inr (some 0))), some (.inl g), some (.inl m), some (.inl n), some (.inl i), o5]) (st' := [.inl n, .inl i]) rfl ?_
    refine n_ic_ge (pc0 := 30) (len := 3) (t := 59) rfl (by first | assumption | omega | (unfold R32 at *; omega) | (unfold R64 at *; omega) | (simp only [R32, R64] at *; omega)) (by first | assumption | omega | (unfold R32 at *; omega) | (unfold R64 at *; omega) | (simp only [R32, R64] at *; omega)) (fun h_30 => ?_) (fun h_30 => ?_)
    · show WV _ _ _ 59 _ _ _ _ _
      rw [if_neg h_30] at hK
      exact hK _ _ _ _ _ hX (by first | assumption | omega | (unfold R32 at *; omega) | (unfold R64 at *; omega) | (simp only [R32, R64] at *; omega))
    · show WV _ _ _ 33 _ _ _ _ _
      rw [if_pos h_30] at hK
      refine r_ex 2 (pc' := 36) (lo' := [some (.inr (.inr (some 0))), some (.inl g), some (.inl m), some (.inl n), some (.inl i), o5]) (st' := [.inl i, .inr (.inr (some 0))]) rfl ?_
      have hp_4 : 0 ≤ i ∧ i ≤ 299 := (by first | assumption | omega | (unfold R32 at *; omega) | (unfold R64 at *; omega) | (simp only [R32, R64] at *; omega))
      refine r_call (m := 153) (args := [.inr (.inr (some 0)), .inl i]) (n' := 154) (pc' := 39) (lo' := [some (.inr (.inr (some 0))), some (.inl g), some (.inl m), some (.inl n), some (.inl i), o5]) (st' := []) (I := .invokevirtual 153) (pc0 := 36) (len := 3) rfl rfl rfl (e_cl_playUnheard hX hp_4) ?_
      show WV _ _ _ 39 _ [.inl ((cl_playUnheard v i).1)] _ (cl_playUnheard v i).2 _
      have hX_5 : XI (cl_playUnheard v i).2 := i_cl_playUnheard (v := v) (i := i) hX hp_4
      have hb_6 := n_cl_playUnheard (v := v) (i := i) hX hp_4
      refine r_ex 3 (pc' := 44) (lo' := [some (.inr (.inr (some 0))), some (.inl g), some (.inl m), some (.inl n), some (.inl i), some (.inl ((cl_playUnheard v i).1))]) (st' := [.inl m, .inl ((cl_playUnheard v i).1)]) rfl ?_
      refine n_ic_ge (pc0 := 44) (len := 3) (t := 53) rfl (by first | assumption | omega | (unfold R32 at *; omega) | (unfold R64 at *; omega) | (simp only [R32, R64] at *; omega)) (by first | assumption | omega | (unfold R32 at *; omega) | (unfold R64 at *; omega) | (simp only [R32, R64] at *; omega)) (fun h_44 => ?_) (fun h_44 => ?_)
      · show WV _ _ _ 53 _ _ _ _ _
        rw [if_neg h_44] at hK
        refine r_ex 2 (pc' := 27) (lo' := [some (.inr (.inr (some 0))), some (.inl g), some (.inl m), some (.inl n), some (.inl (i + 1)), some (.inl ((cl_playUnheard v i).1))]) (st' := []) rfl ?_
        refine ih ((cl_playUnheard v i).2) g m n (i + 1) _ hX_5 (by first | assumption | omega | (unfold R32 at *; omega) | (unfold R64 at *; omega) | (simp only [R32, R64] at *; omega)) (by first | assumption | omega | (unfold R32 at *; omega) | (unfold R64 at *; omega) | (simp only [R32, R64] at *; omega)) (by first | assumption | omega | (unfold R32 at *; omega) | (unfold R64 at *; omega) | (simp only [R32, R64] at *; omega)) (by first | assumption | omega | (unfold R32 at *; omega) | (unfold R64 at *; omega) | (simp only [R32, R64] at *; omega)) (by first | assumption | omega | (unfold R32 at *; omega) | (unfold R64 at *; omega) | (simp only [R32, R64] at *; omega)) hK
      · show WV _ _ _ 47 _ _ _ _ _
        rw [if_pos h_44] at hK
        refine r_ex 6 (pc' := 27) (lo' := [some (.inr (.inr (some 0))), some (.inl i), some (.inl ((cl_playUnheard v i).1)), some (.inl n), some (.inl (i + 1)), some (.inl ((cl_playUnheard v i).1))]) (st' := []) rfl ?_
        refine ih ((cl_playUnheard v i).2) i ((cl_playUnheard v i).1) n (i + 1) _ hX_5 (by first | assumption | omega | (unfold R32 at *; omega) | (unfold R64 at *; omega) | (simp only [R32, R64] at *; omega)) (by first | assumption | omega | (unfold R32 at *; omega) | (unfold R64 at *; omega) | (simp only [R32, R64] at *; omega)) (by first | assumption | omega | (unfold R32 at *; omega) | (unfold R64 at *; omega) | (simp only [R32, R64] at *; omega)) (by first | assumption | omega | (unfold R32 at *; omega) | (unfold R64 at *; omega) | (simp only [R32, R64] at *; omega)) (by first | assumption | omega | (unfold R32 at *; omega) | (unfold R64 at *; omega) | (simp only [R32, R64] at *; omega)) hK

theorem of_cl_key_27 {rk : Nat} (hk : (rk < 67 ∨ 78 < rk) ∧ (rk < 91 ∨ 102 < rk)) : ∀ (f : Nat) {v : VS} {g : Int} {m : Int} {n : Int} {i : Int}, (cl_key_27 f v g m n i).2 rk = v rk := by
  intro f
  induction f with
  | zero => intro v g m n i; rfl
  | succ f ih =>
    intro v g m n i
    rw [cl_key_27]
    by_cases hc_ : i < n
    · rw [if_pos hc_]
      by_cases hc_ : (cl_playUnheard v i).1 < m
      · rw [if_pos hc_]
        all_goals (rw [ih, o_cl_playUnheard (by omega)])
      · rw [if_neg hc_]
        all_goals (rw [ih, o_cl_playUnheard (by omega)])
    · rw [if_neg hc_]
      all_goals (show v rk = _)
      all_goals rfl
theorem o_cl_key_27 {rk : Nat} {f : Nat} {v : VS} {g : Int} {m : Int} {n : Int} {i : Int} (hk : (rk < 67 ∨ 78 < rk) ∧ (rk < 91 ∨ 102 < rk)) : (cl_key_27 f v g m n i).2 rk = v rk := of_cl_key_27 hk f

theorem w_cl_key {X : PX} {d b : Nat} {v : VS}  (hX : XI v)  {Q : Option PV → Nat → VS → Prop} (hQ : XI (cl_key v).2 → Q (some (.inl (cl_key v).1)) b (cl_key v).2) : WV X (d + 1 + 1 + 1 + 1 + 1 + 1 + 1) 154 0 [some (.inr (.inr (some 0))), none, none, none, none, none] [] b v Q := by
  rw [cl_key] at hQ
  refine r_ex 1 (pc' := 1) (lo' := [some (.inr (.inr (some 0))), none, none, none, none, none]) (st' := [.inr (.inr (some 0))]) rfl ?_
  have hb_1 : 0 ≤ v 33 2 ∧ v 33 2 ≤ 2001 := hX 33 2
  refine r_callb (P := 0 < v 33 2) (m := 71) (args := [.inr (.inr (some 0))]) (n' := 154) (pc' := 4) (lo' := [some (.inr (.inr (some 0))), none, none, none, none, none]) (st' := []) (I := .invokevirtual 71) (pc0 := 1) (len := 3) rfl rfl rfl (e_cl_hasBay hX) (fun h_1 => ?_) (fun h_1 => ?_)
  · show WV _ _ _ 4 _ _ _ _ _
    rw [if_pos h_1] at hQ
    refine r_ex 6 (pc' := 17) (lo' := [some (.inr (.inr (some 0))), some (.inl (-1)), some (.inl 301), none, none, none]) (st' := [.inr (.inr (some 0))]) rfl ?_
    refine r_call (m := 72) (args := [.inr (.inr (some 0))]) (n' := 154) (pc' := 20) (lo' := [some (.inr (.inr (some 0))), some (.inl (-1)), some (.inl 301), none, none, none]) (st' := []) (I := .invokevirtual 72) (pc0 := 17) (len := 3) rfl rfl rfl (e_cl_asItIs hX) ?_
    show WV _ _ _ 20 _ [.inr (.inr (some 79))] _ (cl_asItIs v) _
    have hX_2 : XI (cl_asItIs v) := i_cl_asItIs (v := v) hX
    refine r_ex 4 (pc' := 27) (lo' := [some (.inr (.inr (some 0))), some (.inl (-1)), some (.inl 301), some (.inl ((cl_asItIs v) 79 4)), some (.inl 0), none]) (st' := []) rfl ?_
    have hb_3 : 0 ≤ ((cl_asItIs v) 79 4) ∧ ((cl_asItIs v) 79 4) ≤ 300 := hX_2 79 4
    refine l_cl_key_27 301 (cl_asItIs v) (-1) 301 ((cl_asItIs v) 79 4) 0 _ hX_2 (by first | assumption | omega | (unfold R32 at *; omega) | (unfold R64 at *; omega) | (simp only [R32, R64] at *; omega)) (by first | assumption | omega | (unfold R32 at *; omega) | (unfold R64 at *; omega) | (simp only [R32, R64] at *; omega)) (by first | assumption | omega | (unfold R32 at *; omega) | (unfold R64 at *; omega) | (simp only [R32, R64] at *; omega)) (by first | assumption | omega | (unfold R32 at *; omega) | (unfold R64 at *; omega) | (simp only [R32, R64] at *; omega)) (by first | assumption | omega | (unfold R32 at *; omega) | (unfold R64 at *; omega) | (simp only [R32, R64] at *; omega)) (fun o0_7 o2_7 o3_7 o4_7 o5_7 hX_7 hv_7_0 => ?_)
    show WV _ _ _ 59 _ _ _ _ _
    refine r_ex 1 (pc' := 60) (lo' := [o0_7, some (.inl ((cl_key_27 301 (cl_asItIs v) (-1) 301 ((cl_asItIs v) 79 4) 0).1)), o2_7, o3_7, o4_7, o5_7]) (st' := [.inl ((cl_key_27 301 (cl_asItIs v) (-1) 301 ((cl_asItIs v) 79 4) 0).1)]) rfl ?_
    refine r_ret (rr := some (.inl ((cl_key_27 301 (cl_asItIs v) (-1) 301 ((cl_asItIs v) 79 4) 0).1))) (I := .ireturn) (pc0 := 60) (len := 1) rfl rfl ?_
    exact hQ hX_7 
  · show WV _ _ _ 4 _ _ _ _ _
    rw [if_neg h_1] at hQ
    refine r_ex 2 (pc' := 9) (lo' := [some (.inr (.inr (some 0))), none, none, none, none, none]) (st' := [.inl (-2)]) rfl ?_
    refine r_ret (rr := some (.inl (-2))) (I := .ireturn) (pc0 := 9) (len := 1) rfl rfl ?_
    exact hQ hX 

theorem e_cl_key {X : PX} {d b : Nat} {v : VS}  (hX : XI v)  : EvV X (d + 1 + 1 + 1 + 1 + 1 + 1 + 1) 154 [.inr (.inr (some 0))] b v (some (.inl (cl_key v).1)) b ((cl_key v).2) := EvV.of (w_cl_key hX  (fun _ => ⟨rfl, rfl, rfl⟩))

theorem i_cl_key {v : VS}  (hX : XI v)  : XI ((cl_key v).2) := by
  have q : WV (0, fun _ => 0, none) (0 + 1 + 1 + 1 + 1 + 1 + 1 + 1) 154 0 [some (.inr (.inr (some 0))), none, none, none, none, none] [] 1 v (fun _ _ _ => XI ((cl_key v).2)) := w_cl_key (X := (0, fun _ => 0, none)) (d := 0) (b := 1) hX  (fun q => q)
  obtain ⟨_, _, _, _, _, _, _, q⟩ := q
  exact q

theorem o_cl_key {rk : Nat} {v : VS}  (hk : (rk < 0 ∨ 0 < rk) ∧ (rk < 67 ∨ 102 < rk) ∧ (rk < 105 ∨ 105 < rk)) : (cl_key v ).2 rk = v rk := by
  unfold cl_key
  by_cases hc_ : 0 < v 33 2
  · rw [if_pos hc_]
    all_goals (show ((cl_key_27 301 (cl_asItIs v) (-1) 301 ((cl_asItIs v) 79 4) 0).2) rk = _)
    all_goals (rw [o_cl_key_27 (by omega), o_cl_asItIs (by omega)])
  · rw [if_neg hc_]
    all_goals (show v rk = _)
    all_goals rfl

def cl_soon_29 : Nat → VS → Int → Int → Int → Int → Int × VS
  | 0, v, c, g, m, t => (0, v)
  | f + 1, v, c, g, m, t => (if t < (v 33 1) then (if m < ((xplay 91 (v2 v 70 ((c).toNat) t)) 91 4) then (cl_soon_29 f (xplay 91 (v2 v 70 ((c).toNat) t)) c t ((xplay 91 (v2 v 70 ((c).toNat) t)) 91 4) (t + 1)) else (cl_soon_29 f (xplay 91 (v2 v 70 ((c).toNat) t)) c g m (t + 1))) else (g, v))
def cl_soon (v : VS) (c : Int) : Int × VS :=
  (if 0 ≤ c ∧ c < v 42 0 then ((cl_soon_29 301 (cl_asTold v) c 0 (-1) 0).1, (cl_soon_29 301 (cl_asTold v) c 0 (-1) 0).2) else ((-2), v))
theorem l_cl_soon_29 {X : PX} {d b : Nat} {Q : Option PV → Nat → VS → Prop}  : ∀ (f : Nat) (v : VS) (c : Int) (g : Int) (m : Int) (t : Int), XI v → (0 ≤ t ∧ t ≤ 300) → (0 ≤ c ∧ c ≤ 4) → (0 ≤ g ∧ g ≤ 299) → (-1 ≤ m ∧ m ≤ 300) → (300 < t + f) → (∀ qx0 : Option PV, ∀ qx1 : Option PV, ∀ qx3 : Option PV, ∀ qx4 : Option PV, XI ((cl_soon_29 f v c g m t).2) → (0 ≤ (cl_soon_29 f v c g m t).1 ∧ (cl_soon_29 f v c g m t).1 ≤ 299) → WV X (d + 1 + 1 + 1 + 1 + 1 + 1) 160 90 [qx0, qx1, some (.inl ((cl_soon_29 f v c g m t).1)), qx3, qx4] [] b (cl_soon_29 f v c g m t).2 Q) → WV X (d + 1 + 1 + 1 + 1 + 1 + 1) 160 29 [some (.inr (.inr (some 0))), some (.inl c), some (.inl g), some (.inl m), some (.inl t)] [] b v Q := by
  intro f
  induction f with
  | zero =>
    intro v c g m t hX hi_0 hi_1 hi_2 hi_3 hf hK
    exfalso
    omega
  | succ f ih =>
    intro v c g m t hX hi_0 hi_1 hi_2 hi_3 hf hK
    rw [cl_soon_29] at hK
    refine r_ex 4 (pc' := 38) (lo' := [some (.inr (.inr (some 0))), some (.inl c), some (.inl g), some (.inl m), some (.inl t)]) (st' := [.inl (v 33 1), .inl t]) rfl ?_
    have hb_4 : 0 ≤ (v 33 1) ∧ (v 33 1) ≤ 300 := hX 33 1
    refine n_ic_ge (pc0 := 38) (len := 3) (t := 90) rfl (by first | assumption | omega | (unfold R32 at *; omega) | (unfold R64 at *; omega) | (simp only [R32, R64] at *; omega)) (by first | assumption | omega | (unfold R32 at *; omega) | (unfold R64 at *; omega) | (simp only [R32, R64] at *; omega)) (fun h_38 => ?_) (fun h_38 => ?_)
    · show WV _ _ _ 90 _ _ _ _ _
      rw [if_neg h_38] at hK
      exact hK _ _ _ _ hX (by first | assumption | omega | (unfold R32 at *; omega) | (unfold R64 at *; omega) | (simp only [R32, R64] at *; omega))
    · show WV _ _ _ 41 _ _ _ _ _
      rw [if_pos h_38] at hK
      refine r_ex 6 (pc' := 54) (lo' := [some (.inr (.inr (some 0))), some (.inl c), some (.inl g), some (.inl m), some (.inl t)]) (st' := [.inl t, .inl c, .inr (.inr (some 70))]) rfl ?_
      refine r_iast2 (pc' := 55) (pc0 := 54) (len := 1) rfl (s_70 _) (by first | assumption | omega | (unfold R32 at *; omega) | (unfold R64 at *; omega) | (simp only [R32, R64] at *; omega)) (by decide) rfl ?_
      have hX_5 : XI (v2 v 70 ((c).toNat) t) := XI.put hX (show 0 ≤ t ∧ t ≤ 299 from (by first | assumption | omega | (unfold R32 at *; omega) | (unfold R64 at *; omega) | (simp only [R32, R64] at *; omega)))
      refine r_ex 2 (pc' := 59) (lo' := [some (.inr (.inr (some 0))), some (.inl c), some (.inl g), some (.inl m), some (.inl t)]) (st' := [.inr (.inr (some 91))]) rfl ?_
      refine r_call (m := 74) (args := [.inr (.inr (some 91))]) (n' := 160) (pc' := 62) (lo' := [some (.inr (.inr (some 0))), some (.inl c), some (.inl g), some (.inl m), some (.inl t)]) (st' := []) (I := .invokevirtual 74) (pc0 := 59) (len := 3) rfl rfl rfl (x_play91 hX_5) ?_
      show WV _ _ _ 62 _ [] _ (xplay 91 (v2 v 70 ((c).toNat) t)) _
      have hX_6 : XI (xplay 91 (v2 v 70 ((c).toNat) t)) := XI_play91 (v := (v2 v 70 ((c).toNat) t)) hX_5
      refine r_ex 4 (pc' := 70) (lo' := [some (.inr (.inr (some 0))), some (.inl c), some (.inl g), some (.inl m), some (.inl t)]) (st' := [.inl m, .inl ((xplay 91 (v2 v 70 ((c).toNat) t)) 91 4)]) rfl ?_
      have hb_7 : 0 ≤ ((xplay 91 (v2 v 70 ((c).toNat) t)) 91 4) ∧ ((xplay 91 (v2 v 70 ((c).toNat) t)) 91 4) ≤ 300 := hX_6 91 4
      refine n_ic_le (pc0 := 70) (len := 3) (t := 84) rfl (by first | assumption | omega | (unfold R32 at *; omega) | (unfold R64 at *; omega) | (simp only [R32, R64] at *; omega)) (by first | assumption | omega | (unfold R32 at *; omega) | (unfold R64 at *; omega) | (simp only [R32, R64] at *; omega)) (fun h_70 => ?_) (fun h_70 => ?_)
      · show WV _ _ _ 84 _ _ _ _ _
        rw [if_neg h_70] at hK
        refine r_ex 2 (pc' := 29) (lo' := [some (.inr (.inr (some 0))), some (.inl c), some (.inl g), some (.inl m), some (.inl (t + 1))]) (st' := []) rfl ?_
        refine ih (xplay 91 (v2 v 70 ((c).toNat) t)) c g m (t + 1)  hX_6 (by first | assumption | omega | (unfold R32 at *; omega) | (unfold R64 at *; omega) | (simp only [R32, R64] at *; omega)) (by first | assumption | omega | (unfold R32 at *; omega) | (unfold R64 at *; omega) | (simp only [R32, R64] at *; omega)) (by first | assumption | omega | (unfold R32 at *; omega) | (unfold R64 at *; omega) | (simp only [R32, R64] at *; omega)) (by first | assumption | omega | (unfold R32 at *; omega) | (unfold R64 at *; omega) | (simp only [R32, R64] at *; omega)) (by first | assumption | omega | (unfold R32 at *; omega) | (unfold R64 at *; omega) | (simp only [R32, R64] at *; omega)) hK
      · show WV _ _ _ 73 _ _ _ _ _
        rw [if_pos h_70] at hK
        refine r_ex 8 (pc' := 29) (lo' := [some (.inr (.inr (some 0))), some (.inl c), some (.inl t), some (.inl ((xplay 91 (v2 v 70 ((c).toNat) t)) 91 4)), some (.inl (t + 1))]) (st' := []) rfl ?_
        refine ih (xplay 91 (v2 v 70 ((c).toNat) t)) c t ((xplay 91 (v2 v 70 ((c).toNat) t)) 91 4) (t + 1)  hX_6 (by first | assumption | omega | (unfold R32 at *; omega) | (unfold R64 at *; omega) | (simp only [R32, R64] at *; omega)) (by first | assumption | omega | (unfold R32 at *; omega) | (unfold R64 at *; omega) | (simp only [R32, R64] at *; omega)) (by first | assumption | omega | (unfold R32 at *; omega) | (unfold R64 at *; omega) | (simp only [R32, R64] at *; omega)) (by first | assumption | omega | (unfold R32 at *; omega) | (unfold R64 at *; omega) | (simp only [R32, R64] at *; omega)) (by first | assumption | omega | (unfold R32 at *; omega) | (unfold R64 at *; omega) | (simp only [R32, R64] at *; omega)) hK

theorem of_cl_soon_29 {rk : Nat} (hk : (rk < 70 ∨ 70 < rk) ∧ (rk < 73 ∨ 78 < rk) ∧ (rk < 91 ∨ 102 < rk)) : ∀ (f : Nat) {v : VS} {c : Int} {g : Int} {m : Int} {t : Int}, (cl_soon_29 f v c g m t).2 rk = v rk := by
  intro f
  induction f with
  | zero => intro v c g m t; rfl
  | succ f ih =>
    intro v c g m t
    rw [cl_soon_29]
    by_cases hc_ : t < (v 33 1)
    · rw [if_pos hc_]
      by_cases hc_ : m < ((xplay 91 (v2 v 70 ((c).toNat) t)) 91 4)
      · rw [if_pos hc_]
        all_goals (rw [ih, o_xplay91 (by omega), v2_row (by omega)])
      · rw [if_neg hc_]
        all_goals (rw [ih, o_xplay91 (by omega), v2_row (by omega)])
    · rw [if_neg hc_]
      all_goals (show v rk = _)
      all_goals rfl
theorem o_cl_soon_29 {rk : Nat} {f : Nat} {v : VS} {c : Int} {g : Int} {m : Int} {t : Int} (hk : (rk < 70 ∨ 70 < rk) ∧ (rk < 73 ∨ 78 < rk) ∧ (rk < 91 ∨ 102 < rk)) : (cl_soon_29 f v c g m t).2 rk = v rk := of_cl_soon_29 hk f

theorem w_cl_soon {X : PX} {d b : Nat} {v : VS} {c : Int} (hX : XI v) (hp_a : R32 c) {Q : Option PV → Nat → VS → Prop} (hQ : XI (cl_soon v c).2 → Q (some (.inl (cl_soon v c).1)) b (cl_soon v c).2) : WV X (d + 1 + 1 + 1 + 1 + 1 + 1) 160 0 [some (.inr (.inr (some 0))), some (.inl c), none, none, none] [] b v Q := by
  rw [cl_soon] at hQ
  refine r_ex 2 (pc' := 2) (lo' := [some (.inr (.inr (some 0))), some (.inl c), none, none, none]) (st' := [.inl c, .inr (.inr (some 0))]) rfl ?_
  have hp_1 : R32 c := (by first | assumption | omega | (unfold R32 at *; omega) | (unfold R64 at *; omega) | (simp only [R32, R64] at *; omega))
  have hb_2 : 0 ≤ v 42 0 ∧ v 42 0 ≤ 4 := hX 42 0
  refine r_callb (P := 0 ≤ c ∧ c < v 42 0) (m := 159) (args := [.inr (.inr (some 0)), .inl c]) (n' := 160) (pc' := 5) (lo' := [some (.inr (.inr (some 0))), some (.inl c), none, none, none]) (st' := []) (I := .invokevirtual 159) (pc0 := 2) (len := 3) rfl rfl rfl (e_cl_isStart hX hp_1) (fun h_2 => ?_) (fun h_2 => ?_)
  · show WV _ _ _ 5 _ _ _ _ _
    rw [if_pos h_2] at hQ
    refine r_ex 9 (pc' := 23) (lo' := [some (.inr (.inr (some 0))), some (.inl c), some (.inl 0), some (.inl (-1)), none]) (st' := [.inr (.inr (some 33)), .inr (.inr (some 67))]) rfl ?_
    refine r_call (m := 73) (args := [.inr (.inr (some 67)), .inr (.inr (some 33))]) (n' := 160) (pc' := 26) (lo' := [some (.inr (.inr (some 0))), some (.inl c), some (.inl 0), some (.inl (-1)), none]) (st' := []) (I := .invokevirtual 73) (pc0 := 23) (len := 3) rfl rfl rfl (e_cl_asTold hX) ?_
    show WV _ _ _ 26 _ [] _ (cl_asTold v) _
    have hX_3 : XI (cl_asTold v) := i_cl_asTold (v := v) hX
    refine r_ex 2 (pc' := 29) (lo' := [some (.inr (.inr (some 0))), some (.inl c), some (.inl 0), some (.inl (-1)), some (.inl 0)]) (st' := []) rfl ?_
    refine l_cl_soon_29 301 (cl_asTold v) c 0 (-1) 0  hX_3 (by first | assumption | omega | (unfold R32 at *; omega) | (unfold R64 at *; omega) | (simp only [R32, R64] at *; omega)) (by first | assumption | omega | (unfold R32 at *; omega) | (unfold R64 at *; omega) | (simp only [R32, R64] at *; omega)) (by first | assumption | omega | (unfold R32 at *; omega) | (unfold R64 at *; omega) | (simp only [R32, R64] at *; omega)) (by first | assumption | omega | (unfold R32 at *; omega) | (unfold R64 at *; omega) | (simp only [R32, R64] at *; omega)) (by first | assumption | omega | (unfold R32 at *; omega) | (unfold R64 at *; omega) | (simp only [R32, R64] at *; omega)) (fun o0_8 o1_8 o3_8 o4_8 hX_8 hv_8_0 => ?_)
    show WV _ _ _ 90 _ _ _ _ _
    refine r_ex 1 (pc' := 91) (lo' := [o0_8, o1_8, some (.inl ((cl_soon_29 301 (cl_asTold v) c 0 (-1) 0).1)), o3_8, o4_8]) (st' := [.inl ((cl_soon_29 301 (cl_asTold v) c 0 (-1) 0).1)]) rfl ?_
    refine r_ret (rr := some (.inl ((cl_soon_29 301 (cl_asTold v) c 0 (-1) 0).1))) (I := .ireturn) (pc0 := 91) (len := 1) rfl rfl ?_
    exact hQ hX_8 
  · show WV _ _ _ 5 _ _ _ _ _
    rw [if_neg h_2] at hQ
    refine r_ex 2 (pc' := 10) (lo' := [some (.inr (.inr (some 0))), some (.inl c), none, none, none]) (st' := [.inl (-2)]) rfl ?_
    refine r_ret (rr := some (.inl (-2))) (I := .ireturn) (pc0 := 10) (len := 1) rfl rfl ?_
    exact hQ hX 

theorem e_cl_soon {X : PX} {d b : Nat} {v : VS} {c : Int} (hX : XI v) (hp_a : R32 c) : EvV X (d + 1 + 1 + 1 + 1 + 1 + 1) 160 [.inr (.inr (some 0)), .inl c] b v (some (.inl (cl_soon v c).1)) b ((cl_soon v c).2) := EvV.of (w_cl_soon hX hp_a (fun _ => ⟨rfl, rfl, rfl⟩))

theorem i_cl_soon {v : VS} {c : Int} (hX : XI v) (hp_a : R32 c) : XI ((cl_soon v c).2) := by
  have q : WV (0, fun _ => 0, none) (0 + 1 + 1 + 1 + 1 + 1 + 1) 160 0 [some (.inr (.inr (some 0))), some (.inl c), none, none, none] [] 1 v (fun _ _ _ => XI ((cl_soon v c).2)) := w_cl_soon (X := (0, fun _ => 0, none)) (d := 0) (b := 1) hX hp_a (fun q => q)
  obtain ⟨_, _, _, _, _, _, _, q⟩ := q
  exact q

theorem o_cl_soon {rk : Nat} {v : VS} {c : Int} (hk : (rk < 67 ∨ 78 < rk) ∧ (rk < 91 ∨ 102 < rk)) : (cl_soon v c).2 rk = v rk := by
  unfold cl_soon
  by_cases hc_ : 0 ≤ c ∧ c < v 42 0
  · rw [if_pos hc_]
    all_goals (show ((cl_soon_29 301 (cl_asTold v) c 0 (-1) 0).2) rk = _)
    all_goals (rw [o_cl_soon_29 (by omega), o_cl_asTold (by omega)])
  · rw [if_neg hc_]
    all_goals (show v rk = _)
    all_goals rfl

def cl_draw_6 : Nat → VS → Int → Int → Int → Int → VS
  | 0, v, n, s, x, i => v
  | f + 1, v, n, s, x, i => (if i < 10 then (if (i * 30) < s then (cl_draw_6 f (v2 v 72 ((i).toNat) ((((((1103515245 * x) + 12345) % 2147483648) / 65536) % ((2 * n) + 1)) - n)) n s (((1103515245 * x) + 12345) % 2147483648) (i + 1)) else v) else v)
def cl_draw (v : VS) (y : Int) (n : Int) (s : Int) : VS :=
  (cl_draw_6 11 v n s y 0)
theorem l_cl_draw_6 {X : PX} {d b : Nat} {Q : Option PV → Nat → VS → Prop}  : ∀ (f : Nat) (v : VS) (n : Int) (s : Int) (x : Int) (i : Int) (o1 : Option PV) (o2 : Option PV), XI v → (0 ≤ i ∧ i ≤ 10) → (0 ≤ x ∧ x ≤ 2147483648) → (0 ≤ n ∧ n ≤ 20) → (0 ≤ s ∧ s ≤ 300) → (10 < i + f) → (XI (cl_draw_6 f v n s x i) → Q none b (cl_draw_6 f v n s x i)) → WV X d 182 6 [some (.inr (.inr (some 67))), o1, o2, some (.inl n), some (.inl s), some (.inr (.inl x)), none, some (.inl i)] [] b v Q := by
  intro f
  induction f with
  | zero =>
    intro v n s x i o1 o2 hX hi_0 hi_1 hi_2 hi_3 hf hQ
    exfalso
    omega
  | succ f ih =>
    intro v n s x i o1 o2 hX hi_0 hi_1 hi_2 hi_3 hf hQ
    rw [cl_draw_6] at hQ
    refine r_ex 2 (pc' := 10) (lo' := [some (.inr (.inr (some 67))), o1, o2, some (.inl n), some (.inl s), some (.inr (.inl x)), none, some (.inl i)]) (st' := [.inl 10, .inl i]) rfl ?_
    refine n_ic_ge (pc0 := 10) (len := 3) (t := 70) rfl (by first | assumption | omega | (unfold R32 at *; omega) | (unfold R64 at *; omega) | (simp only [R32, R64] at *; omega)) (by first | assumption | omega | (unfold R32 at *; omega) | (unfold R64 at *; omega) | (simp only [R32, R64] at *; omega)) (fun h_10 => ?_) (fun h_10 => ?_)
    · show WV _ _ _ 70 _ _ _ _ _
      rw [if_neg h_10] at hQ
      refine r_ret (rr := none) (I := .return_) (pc0 := 70) (len := 1) rfl rfl ?_
      exact hQ hX 
    · show WV _ _ _ 13 _ _ _ _ _
      rw [if_pos h_10] at hQ
      refine r_ex 4 (pc' := 20) (lo' := [some (.inr (.inr (some 67))), o1, o2, some (.inl n), some (.inl s), some (.inr (.inl x)), none, some (.inl i)]) (st' := [.inl s, .inl (i * 30)]) rfl ?_
      refine n_ic_ge (pc0 := 20) (len := 3) (t := 70) rfl (by first | assumption | omega | (unfold R32 at *; omega) | (unfold R64 at *; omega) | (simp only [R32, R64] at *; omega)) (by first | assumption | omega | (unfold R32 at *; omega) | (unfold R64 at *; omega) | (simp only [R32, R64] at *; omega)) (fun h_20 => ?_) (fun h_20 => ?_)
      · show WV _ _ _ 70 _ _ _ _ _
        rw [if_neg h_20] at hQ
        refine r_ret (rr := none) (I := .return_) (pc0 := 70) (len := 1) rfl rfl ?_
        exact hQ hX 
      · show WV _ _ _ 23 _ _ _ _ _
        rw [if_pos h_20] at hQ
        refine r_ex 6 (pc' := 36) (lo' := [some (.inr (.inr (some 67))), o1, o2, some (.inl n), some (.inl s), some (.inr (.inl x)), none, some (.inl i)]) (st' := [.inr (.inl 2147483648), .inr (.inl ((1103515245 * x) + 12345))]) rfl ?_
        refine n_lrem (pc' := 37) (pc0 := 36) (len := 1) rfl (by first | assumption | omega | (unfold R32 at *; omega) | (unfold R64 at *; omega) | (simp only [R32, R64] at *; omega)) (by first | assumption | omega | (unfold R32 at *; omega) | (unfold R64 at *; omega) | (simp only [R32, R64] at *; omega)) rfl ?_
        refine r_ex 6 (pc' := 50) (lo' := [some (.inr (.inr (some 67))), o1, o2, some (.inl n), some (.inl s), some (.inr (.inl (((1103515245 * x) + 12345) % 2147483648))), none, some (.inl i)]) (st' := [.inr (.inl 65536), .inr (.inl (((1103515245 * x) + 12345) % 2147483648)), .inl i, .inr (.inr (some 72))]) rfl ?_
        refine n_ldiv (pc' := 51) (pc0 := 50) (len := 1) rfl (by first | assumption | omega | (unfold R32 at *; omega) | (unfold R64 at *; omega) | (simp only [R32, R64] at *; omega)) (by first | assumption | omega | (unfold R32 at *; omega) | (unfold R64 at *; omega) | (simp only [R32, R64] at *; omega)) rfl ?_
        refine r_ex 2 (pc' := 55) (lo' := [some (.inr (.inr (some 67))), o1, o2, some (.inl n), some (.inl s), some (.inr (.inl (((1103515245 * x) + 12345) % 2147483648))), none, some (.inl i)]) (st' := [.inl n, .inr (.inl 2), .inr (.inl ((((1103515245 * x) + 12345) % 2147483648) / 65536)), .inl i, .inr (.inr (some 72))]) rfl ?_
        refine n_i2l (pc' := 56) (pc0 := 55) (len := 1) rfl (by first | assumption | omega | (unfold R32 at *; omega) | (unfold R64 at *; omega) | (simp only [R32, R64] at *; omega)) rfl ?_
        refine r_ex 3 (pc' := 59) (lo' := [some (.inr (.inr (some 67))), o1, o2, some (.inl n), some (.inl s), some (.inr (.inl (((1103515245 * x) + 12345) % 2147483648))), none, some (.inl i)]) (st' := [.inr (.inl ((2 * n) + 1)), .inr (.inl ((((1103515245 * x) + 12345) % 2147483648) / 65536)), .inl i, .inr (.inr (some 72))]) rfl ?_
        refine n_lrem (pc' := 60) (pc0 := 59) (len := 1) rfl (by first | assumption | omega | (unfold R32 at *; omega) | (unfold R64 at *; omega) | (simp only [R32, R64] at *; omega)) (by first | assumption | omega | (unfold R32 at *; omega) | (unfold R64 at *; omega) | (simp only [R32, R64] at *; omega)) rfl ?_
        have hb_1 := mod_bd (x := ((((1103515245 * x) + 12345) % 2147483648) / 65536)) (c := ((2 * n) + 1)) (by first | assumption | omega | (unfold R32 at *; omega) | (unfold R64 at *; omega) | (simp only [R32, R64] at *; omega))
        refine r_ex 3 (pc' := 63) (lo' := [some (.inr (.inr (some 67))), o1, o2, some (.inl n), some (.inl s), some (.inr (.inl (((1103515245 * x) + 12345) % 2147483648))), none, some (.inl i)]) (st' := [.inl ((((((1103515245 * x) + 12345) % 2147483648) / 65536) % ((2 * n) + 1)) - n), .inl i, .inr (.inr (some 72))]) rfl ?_
        refine r_iast2 (pc' := 64) (pc0 := 63) (len := 1) rfl (s_72 _) (by first | assumption | omega | (unfold R32 at *; omega) | (unfold R64 at *; omega) | (simp only [R32, R64] at *; omega)) (by decide) rfl ?_
        have hX_2 : XI (v2 v 72 ((i).toNat) ((((((1103515245 * x) + 12345) % 2147483648) / 65536) % ((2 * n) + 1)) - n)) := XI.put hX (show -20 ≤ ((((((1103515245 * x) + 12345) % 2147483648) / 65536) % ((2 * n) + 1)) - n) ∧ ((((((1103515245 * x) + 12345) % 2147483648) / 65536) % ((2 * n) + 1)) - n) ≤ 20 from (by first | assumption | omega | (unfold R32 at *; omega) | (unfold R64 at *; omega) | (simp only [R32, R64] at *; omega)))
        refine r_ex 2 (pc' := 6) (lo' := [some (.inr (.inr (some 67))), o1, o2, some (.inl n), some (.inl s), some (.inr (.inl (((1103515245 * x) + 12345) % 2147483648))), none, some (.inl (i + 1))]) (st' := []) rfl ?_
        refine ih (v2 v 72 ((i).toNat) ((((((1103515245 * x) + 12345) % 2147483648) / 65536) % ((2 * n) + 1)) - n)) n s (((1103515245 * x) + 12345) % 2147483648) (i + 1) _ _ hX_2 (by first | assumption | omega | (unfold R32 at *; omega) | (unfold R64 at *; omega) | (simp only [R32, R64] at *; omega)) (by first | assumption | omega | (unfold R32 at *; omega) | (unfold R64 at *; omega) | (simp only [R32, R64] at *; omega)) (by first | assumption | omega | (unfold R32 at *; omega) | (unfold R64 at *; omega) | (simp only [R32, R64] at *; omega)) (by first | assumption | omega | (unfold R32 at *; omega) | (unfold R64 at *; omega) | (simp only [R32, R64] at *; omega)) (by first | assumption | omega | (unfold R32 at *; omega) | (unfold R64 at *; omega) | (simp only [R32, R64] at *; omega)) hQ

theorem of_cl_draw_6 {rk : Nat} (hk : (rk < 72 ∨ 72 < rk)) : ∀ (f : Nat) {v : VS} {n : Int} {s : Int} {x : Int} {i : Int}, (cl_draw_6 f v n s x i) rk = v rk := by
  intro f
  induction f with
  | zero => intro v n s x i; rfl
  | succ f ih =>
    intro v n s x i
    rw [cl_draw_6]
    by_cases hc_ : i < 10
    · rw [if_pos hc_]
      by_cases hc_ : (i * 30) < s
      · rw [if_pos hc_]
        all_goals (rw [ih, v2_row (by omega)])
      · rw [if_neg hc_]
        all_goals (show v rk = _)
        all_goals rfl
    · rw [if_neg hc_]
      all_goals (show v rk = _)
      all_goals rfl
theorem o_cl_draw_6 {rk : Nat} {f : Nat} {v : VS} {n : Int} {s : Int} {x : Int} {i : Int} (hk : (rk < 72 ∨ 72 < rk)) : (cl_draw_6 f v n s x i) rk = v rk := of_cl_draw_6 hk f

theorem w_cl_draw {X : PX} {d b : Nat} {v : VS} {y : Int} {n : Int} {s : Int} (hX : XI v) (hp_a : 0 ≤ y ∧ y ≤ 2147483648) (hp_b : 0 ≤ n ∧ n ≤ 20) (hp_c : 0 ≤ s ∧ s ≤ 300) {Q : Option PV → Nat → VS → Prop} (hQ : XI (cl_draw v y n s) → Q none b (cl_draw v y n s)) : WV X d 182 0 [some (.inr (.inr (some 67))), some (.inr (.inl y)), none, some (.inl n), some (.inl s), none, none, none] [] b v Q := by
  rw [cl_draw] at hQ
  refine r_ex 4 (pc' := 6) (lo' := [some (.inr (.inr (some 67))), some (.inr (.inl y)), none, some (.inl n), some (.inl s), some (.inr (.inl y)), none, some (.inl 0)]) (st' := []) rfl ?_
  exact l_cl_draw_6 11 v n s y 0 _ _ hX (by first | assumption | omega | (unfold R32 at *; omega) | (unfold R64 at *; omega) | (simp only [R32, R64] at *; omega)) (by first | assumption | omega | (unfold R32 at *; omega) | (unfold R64 at *; omega) | (simp only [R32, R64] at *; omega)) (by first | assumption | omega | (unfold R32 at *; omega) | (unfold R64 at *; omega) | (simp only [R32, R64] at *; omega)) (by first | assumption | omega | (unfold R32 at *; omega) | (unfold R64 at *; omega) | (simp only [R32, R64] at *; omega)) (by first | assumption | omega | (unfold R32 at *; omega) | (unfold R64 at *; omega) | (simp only [R32, R64] at *; omega)) hQ

theorem e_cl_draw {X : PX} {d b : Nat} {v : VS} {y : Int} {n : Int} {s : Int} (hX : XI v) (hp_a : 0 ≤ y ∧ y ≤ 2147483648) (hp_b : 0 ≤ n ∧ n ≤ 20) (hp_c : 0 ≤ s ∧ s ≤ 300) : EvV X d 182 [.inr (.inr (some 67)), .inr (.inl y), .inl n, .inl s] b v none b (cl_draw v y n s) := EvV.of (w_cl_draw hX hp_a hp_b hp_c (fun _ => ⟨rfl, rfl, rfl⟩))

theorem i_cl_draw {v : VS} {y : Int} {n : Int} {s : Int} (hX : XI v) (hp_a : 0 ≤ y ∧ y ≤ 2147483648) (hp_b : 0 ≤ n ∧ n ≤ 20) (hp_c : 0 ≤ s ∧ s ≤ 300) : XI (cl_draw v y n s) := by
  have q : WV (0, fun _ => 0, none) 0 182 0 [some (.inr (.inr (some 67))), some (.inr (.inl y)), none, some (.inl n), some (.inl s), none, none, none] [] 1 v (fun _ _ _ => XI (cl_draw v y n s)) := w_cl_draw (X := (0, fun _ => 0, none)) (d := 0) (b := 1) hX hp_a hp_b hp_c (fun q => q)
  obtain ⟨_, _, _, _, _, _, _, q⟩ := q
  exact q

theorem o_cl_draw {rk : Nat} {v : VS} {y : Int} {n : Int} {s : Int} (hk : (rk < 72 ∨ 72 < rk)) : (cl_draw v y n s) rk = v rk := by
  unfold cl_draw
  all_goals (rw [o_cl_draw_6 (by omega)])

def cl_playDrawn (v : VS) (y : Int) (n : Int) : VS :=
  (xplay 91 (cl_draw (cl_asTold v) y n ((cl_asTold v) 33 1)))
theorem w_cl_playDrawn {X : PX} {d b : Nat} {v : VS} {y : Int} {n : Int} (hX : XI v) (hp_a : 0 ≤ y ∧ y ≤ 2147483648) (hp_b : 0 ≤ n ∧ n ≤ 20) {Q : Option PV → Nat → VS → Prop} (hQ : XI (cl_playDrawn v y n) → Q none b (cl_playDrawn v y n)) : WV X (d + 1 + 1 + 1 + 1 + 1 + 1) 181 0 [some (.inr (.inr (some 0))), some (.inr (.inl y)), none, some (.inl n)] [] b v Q := by
  rw [cl_playDrawn] at hQ
  refine r_ex 4 (pc' := 8) (lo' := [some (.inr (.inr (some 0))), some (.inr (.inl y)), none, some (.inl n)]) (st' := [.inr (.inr (some 33)), .inr (.inr (some 67))]) rfl ?_
  refine r_call (m := 73) (args := [.inr (.inr (some 67)), .inr (.inr (some 33))]) (n' := 181) (pc' := 11) (lo' := [some (.inr (.inr (some 0))), some (.inr (.inl y)), none, some (.inl n)]) (st' := []) (I := .invokevirtual 73) (pc0 := 8) (len := 3) rfl rfl rfl (e_cl_asTold hX) ?_
  show WV _ _ _ 11 _ [] _ (cl_asTold v) _
  have hX_1 : XI (cl_asTold v) := i_cl_asTold (v := v) hX
  refine r_ex 7 (pc' := 24) (lo' := [some (.inr (.inr (some 0))), some (.inr (.inl y)), none, some (.inl n)]) (st' := [.inl ((cl_asTold v) 33 1), .inl n, .inr (.inl y), .inr (.inr (some 67))]) rfl ?_
  have hb_2 : 0 ≤ ((cl_asTold v) 33 1) ∧ ((cl_asTold v) 33 1) ≤ 300 := hX_1 33 1
  have hp_3 : 0 ≤ y ∧ y ≤ 2147483648 := (by first | assumption | omega | (unfold R32 at *; omega) | (unfold R64 at *; omega) | (simp only [R32, R64] at *; omega))
  have hp_4 : 0 ≤ n ∧ n ≤ 20 := (by first | assumption | omega | (unfold R32 at *; omega) | (unfold R64 at *; omega) | (simp only [R32, R64] at *; omega))
  have hp_5 : 0 ≤ ((cl_asTold v) 33 1) ∧ ((cl_asTold v) 33 1) ≤ 300 := (by first | assumption | omega | (unfold R32 at *; omega) | (unfold R64 at *; omega) | (simp only [R32, R64] at *; omega))
  refine r_call (m := 182) (args := [.inr (.inr (some 67)), .inr (.inl y), .inl n, .inl ((cl_asTold v) 33 1)]) (n' := 181) (pc' := 27) (lo' := [some (.inr (.inr (some 0))), some (.inr (.inl y)), none, some (.inl n)]) (st' := []) (I := .invokevirtual 182) (pc0 := 24) (len := 3) rfl rfl rfl (e_cl_draw hX_1 hp_3 hp_4 hp_5) ?_
  show WV _ _ _ 27 _ [] _ (cl_draw (cl_asTold v) y n ((cl_asTold v) 33 1)) _
  have hX_6 : XI (cl_draw (cl_asTold v) y n ((cl_asTold v) 33 1)) := i_cl_draw (v := (cl_asTold v)) (y := y) (n := n) (s := ((cl_asTold v) 33 1)) hX_1 hp_3 hp_4 hp_5
  refine r_ex 2 (pc' := 31) (lo' := [some (.inr (.inr (some 0))), some (.inr (.inl y)), none, some (.inl n)]) (st' := [.inr (.inr (some 91))]) rfl ?_
  refine r_call (m := 74) (args := [.inr (.inr (some 91))]) (n' := 181) (pc' := 34) (lo' := [some (.inr (.inr (some 0))), some (.inr (.inl y)), none, some (.inl n)]) (st' := []) (I := .invokevirtual 74) (pc0 := 31) (len := 3) rfl rfl rfl (x_play91 hX_6) ?_
  show WV _ _ _ 34 _ [] _ (xplay 91 (cl_draw (cl_asTold v) y n ((cl_asTold v) 33 1))) _
  have hX_7 : XI (xplay 91 (cl_draw (cl_asTold v) y n ((cl_asTold v) 33 1))) := XI_play91 (v := (cl_draw (cl_asTold v) y n ((cl_asTold v) 33 1))) hX_6
  refine r_ret (rr := none) (I := .return_) (pc0 := 34) (len := 1) rfl rfl ?_
  exact hQ hX_7 

theorem e_cl_playDrawn {X : PX} {d b : Nat} {v : VS} {y : Int} {n : Int} (hX : XI v) (hp_a : 0 ≤ y ∧ y ≤ 2147483648) (hp_b : 0 ≤ n ∧ n ≤ 20) : EvV X (d + 1 + 1 + 1 + 1 + 1 + 1) 181 [.inr (.inr (some 0)), .inr (.inl y), .inl n] b v none b (cl_playDrawn v y n) := EvV.of (w_cl_playDrawn hX hp_a hp_b (fun _ => ⟨rfl, rfl, rfl⟩))

theorem i_cl_playDrawn {v : VS} {y : Int} {n : Int} (hX : XI v) (hp_a : 0 ≤ y ∧ y ≤ 2147483648) (hp_b : 0 ≤ n ∧ n ≤ 20) : XI (cl_playDrawn v y n) := by
  have q : WV (0, fun _ => 0, none) (0 + 1 + 1 + 1 + 1 + 1 + 1) 181 0 [some (.inr (.inr (some 0))), some (.inr (.inl y)), none, some (.inl n)] [] 1 v (fun _ _ _ => XI (cl_playDrawn v y n)) := w_cl_playDrawn (X := (0, fun _ => 0, none)) (d := 0) (b := 1) hX hp_a hp_b (fun q => q)
  obtain ⟨_, _, _, _, _, _, _, q⟩ := q
  exact q

theorem o_cl_playDrawn {rk : Nat} {v : VS} {y : Int} {n : Int} (hk : (rk < 67 ∨ 78 < rk) ∧ (rk < 91 ∨ 102 < rk)) : (cl_playDrawn v y n) rk = v rk := by
  unfold cl_playDrawn
  all_goals (show (xplay 91 (cl_draw (cl_asTold v) y n ((cl_asTold v) 33 1))) rk = _)
  all_goals (rw [o_xplay91 (by omega), o_cl_draw (by omega), o_cl_asTold (by omega)])

def cl_drawn (v : VS) (c : Int) (n : Int) (w : Int) : Int × VS :=
  (if 0 < v 33 2 then (if (0 ≤ c ∧ c ≤ 2000000000) ∧ (0 ≤ n ∧ n ≤ 20) then (if w < 0 then ((-2), v) else (if 2 < w then ((-2), v) else (if w = 0 then (((cl_playDrawn v c n) 91 4), (cl_playDrawn v c n)) else (if w = 1 then ((cl_latest91 (cl_playDrawn v c n)), (cl_playDrawn v c n)) else (((cl_playDrawn v c n) 91 16), (cl_playDrawn v c n)))))) else ((-2), v)) else ((-2), v))
theorem w_cl_drawn {X : PX} {d b : Nat} {v : VS} {c : Int} {n : Int} {w : Int} (hX : XI v) (hp_a : R32 c) (hp_b : R32 n) (hp_c : R32 w) {Q : Option PV → Nat → VS → Prop} (hQ : XI (cl_drawn v c n w).2 → Q (some (.inl (cl_drawn v c n w).1)) b (cl_drawn v c n w).2) : WV X (d + 1 + 1 + 1 + 1 + 1 + 1 + 1) 179 0 [some (.inr (.inr (some 0))), some (.inl c), some (.inl n), some (.inl w)] [] b v Q := by
  rw [cl_drawn] at hQ
  refine r_ex 1 (pc' := 1) (lo' := [some (.inr (.inr (some 0))), some (.inl c), some (.inl n), some (.inl w)]) (st' := [.inr (.inr (some 0))]) rfl ?_
  have hb_1 : 0 ≤ v 33 2 ∧ v 33 2 ≤ 2001 := hX 33 2
  refine r_callb (P := 0 < v 33 2) (m := 71) (args := [.inr (.inr (some 0))]) (n' := 179) (pc' := 4) (lo' := [some (.inr (.inr (some 0))), some (.inl c), some (.inl n), some (.inl w)]) (st' := []) (I := .invokevirtual 71) (pc0 := 1) (len := 3) rfl rfl rfl (e_cl_hasBay hX) (fun h_1 => ?_) (fun h_1 => ?_)
  · show WV _ _ _ 4 _ _ _ _ _
    rw [if_pos h_1] at hQ
    refine r_ex 3 (pc' := 9) (lo' := [some (.inr (.inr (some 0))), some (.inl c), some (.inl n), some (.inl w)]) (st' := [.inl n, .inl c]) rfl ?_
    have hp_2 : R32 c := (by first | assumption | omega | (unfold R32 at *; omega) | (unfold R64 at *; omega) | (simp only [R32, R64] at *; omega))
    have hp_3 : R32 n := (by first | assumption | omega | (unfold R32 at *; omega) | (unfold R64 at *; omega) | (simp only [R32, R64] at *; omega))
    refine r_callb (P := (0 ≤ c ∧ c ≤ 2000000000) ∧ (0 ≤ n ∧ n ≤ 20)) (m := 180) (args := [.inl c, .inl n]) (n' := 179) (pc' := 12) (lo' := [some (.inr (.inr (some 0))), some (.inl c), some (.inl n), some (.inl w)]) (st' := []) (I := .invokestatic 180) (pc0 := 9) (len := 3) rfl rfl rfl (e_cl_isDraw hX hp_2 hp_3) (fun h_9 => ?_) (fun h_9 => ?_)
    · show WV _ _ _ 12 _ _ _ _ _
      rw [if_pos h_9] at hQ
      refine r_ex 2 (pc' := 16) (lo' := [some (.inr (.inr (some 0))), some (.inl c), some (.inl n), some (.inl w)]) (st' := [.inl w]) rfl ?_
      refine n_if_lt (pc0 := 16) (len := 3) (t := 24) rfl (by first | assumption | omega | (unfold R32 at *; omega) | (unfold R64 at *; omega) | (simp only [R32, R64] at *; omega)) (fun h_16 => ?_) (fun h_16 => ?_)
      · show WV _ _ _ 24 _ _ _ _ _
        rw [if_pos h_16] at hQ
        refine r_ex 1 (pc' := 26) (lo' := [some (.inr (.inr (some 0))), some (.inl c), some (.inl n), some (.inl w)]) (st' := [.inl (-2)]) rfl ?_
        refine r_ret (rr := some (.inl (-2))) (I := .ireturn) (pc0 := 26) (len := 1) rfl rfl ?_
        exact hQ hX 
      · show WV _ _ _ 19 _ _ _ _ _
        rw [if_neg h_16] at hQ
        refine r_ex 2 (pc' := 21) (lo' := [some (.inr (.inr (some 0))), some (.inl c), some (.inl n), some (.inl w)]) (st' := [.inl 2, .inl w]) rfl ?_
        refine n_ic_le (pc0 := 21) (len := 3) (t := 27) rfl (by first | assumption | omega | (unfold R32 at *; omega) | (unfold R64 at *; omega) | (simp only [R32, R64] at *; omega)) (by first | assumption | omega | (unfold R32 at *; omega) | (unfold R64 at *; omega) | (simp only [R32, R64] at *; omega)) (fun h_21 => ?_) (fun h_21 => ?_)
        · show WV _ _ _ 27 _ _ _ _ _
          rw [if_neg h_21] at hQ
          refine r_ex 2 (pc' := 29) (lo' := [some (.inr (.inr (some 0))), some (.inl c), some (.inl n), some (.inl w)]) (st' := [.inl c, .inr (.inr (some 0))]) rfl ?_
          refine n_i2l (pc' := 30) (pc0 := 29) (len := 1) rfl (by first | assumption | omega | (unfold R32 at *; omega) | (unfold R64 at *; omega) | (simp only [R32, R64] at *; omega)) rfl ?_
          refine r_ex 1 (pc' := 31) (lo' := [some (.inr (.inr (some 0))), some (.inl c), some (.inl n), some (.inl w)]) (st' := [.inl n, .inr (.inl c), .inr (.inr (some 0))]) rfl ?_
          have hp_4 : 0 ≤ c ∧ c ≤ 2147483648 := (by first | assumption | omega | (unfold R32 at *; omega) | (unfold R64 at *; omega) | (simp only [R32, R64] at *; omega))
          have hp_5 : 0 ≤ n ∧ n ≤ 20 := (by first | assumption | omega | (unfold R32 at *; omega) | (unfold R64 at *; omega) | (simp only [R32, R64] at *; omega))
          refine r_call (m := 181) (args := [.inr (.inr (some 0)), .inr (.inl c), .inl n]) (n' := 179) (pc' := 34) (lo' := [some (.inr (.inr (some 0))), some (.inl c), some (.inl n), some (.inl w)]) (st' := []) (I := .invokevirtual 181) (pc0 := 31) (len := 3) rfl rfl rfl (e_cl_playDrawn hX hp_4 hp_5) ?_
          show WV _ _ _ 34 _ [] _ (cl_playDrawn v c n) _
          have hX_6 : XI (cl_playDrawn v c n) := i_cl_playDrawn (v := v) (y := c) (n := n) hX hp_4 hp_5
          refine r_ex 1 (pc' := 35) (lo' := [some (.inr (.inr (some 0))), some (.inl c), some (.inl n), some (.inl w)]) (st' := [.inl w]) rfl ?_
          by_cases h_35_0 : w = 0
          · refine n_ls (pc' := 60) (pc0 := 35) (len := 25) (x := w) (y := 0) rfl h_35_0 rfl ?_
            rw [if_pos h_35_0] at hQ
            refine r_ex 3 (pc' := 67) (lo' := [some (.inr (.inr (some 0))), some (.inl c), some (.inl n), some (.inl w)]) (st' := [.inl ((cl_playDrawn v c n) 91 4)]) rfl ?_
            have hb_8 : 0 ≤ ((cl_playDrawn v c n) 91 4) ∧ ((cl_playDrawn v c n) 91 4) ≤ 300 := hX_6 91 4
            refine r_ret (rr := some (.inl ((cl_playDrawn v c n) 91 4))) (I := .ireturn) (pc0 := 67) (len := 1) rfl rfl ?_
            exact hQ hX_6 
          · rw [if_neg h_35_0] at hQ
            by_cases h_35_1 : w = 1
            · refine n_ls (pc' := 68) (pc0 := 35) (len := 25) (x := w) (y := 1) rfl h_35_1 rfl ?_
              rw [if_pos h_35_1] at hQ
              refine r_ex 2 (pc' := 72) (lo' := [some (.inr (.inr (some 0))), some (.inl c), some (.inl n), some (.inl w)]) (st' := [.inr (.inr (some 91))]) rfl ?_
              refine r_call (m := 105) (args := [.inr (.inr (some 91))]) (n' := 179) (pc' := 75) (lo' := [some (.inr (.inr (some 0))), some (.inl c), some (.inl n), some (.inl w)]) (st' := []) (I := .invokevirtual 105) (pc0 := 72) (len := 3) rfl rfl rfl (e_cl_latest91 hX_6) ?_
              show WV _ _ _ 75 _ [.inl (cl_latest91 (cl_playDrawn v c n))] _ _ _
              have hb_10 := n_cl_latest91 (v := (cl_playDrawn v c n)) hX_6
              refine r_ret (rr := some (.inl (cl_latest91 (cl_playDrawn v c n)))) (I := .ireturn) (pc0 := 75) (len := 1) rfl rfl ?_
              exact hQ hX_6 
            · rw [if_neg h_35_1] at hQ
              refine n_ls_d (pc' := 76) (pc0 := 35) (len := 25) (x := w) rfl (by first | assumption | omega | (unfold R32 at *; omega) | (unfold R64 at *; omega) | (simp only [R32, R64] at *; omega)) ⟨by simp; omega, rfl⟩ ?_
              refine r_ex 3 (pc' := 83) (lo' := [some (.inr (.inr (some 0))), some (.inl c), some (.inl n), some (.inl w)]) (st' := [.inl ((cl_playDrawn v c n) 91 16)]) rfl ?_
              have hb_11 : 0 ≤ ((cl_playDrawn v c n) 91 16) ∧ ((cl_playDrawn v c n) 91 16) ≤ 511 := hX_6 91 16
              refine r_ret (rr := some (.inl ((cl_playDrawn v c n) 91 16))) (I := .ireturn) (pc0 := 83) (len := 1) rfl rfl ?_
              exact hQ hX_6 
        · show WV _ _ _ 24 _ _ _ _ _
          rw [if_pos h_21] at hQ
          refine r_ex 1 (pc' := 26) (lo' := [some (.inr (.inr (some 0))), some (.inl c), some (.inl n), some (.inl w)]) (st' := [.inl (-2)]) rfl ?_
          refine r_ret (rr := some (.inl (-2))) (I := .ireturn) (pc0 := 26) (len := 1) rfl rfl ?_
          exact hQ hX 
    · show WV _ _ _ 12 _ _ _ _ _
      rw [if_neg h_9] at hQ
      refine r_ex 2 (pc' := 26) (lo' := [some (.inr (.inr (some 0))), some (.inl c), some (.inl n), some (.inl w)]) (st' := [.inl (-2)]) rfl ?_
      refine r_ret (rr := some (.inl (-2))) (I := .ireturn) (pc0 := 26) (len := 1) rfl rfl ?_
      exact hQ hX 
  · show WV _ _ _ 4 _ _ _ _ _
    rw [if_neg h_1] at hQ
    refine r_ex 2 (pc' := 26) (lo' := [some (.inr (.inr (some 0))), some (.inl c), some (.inl n), some (.inl w)]) (st' := [.inl (-2)]) rfl ?_
    refine r_ret (rr := some (.inl (-2))) (I := .ireturn) (pc0 := 26) (len := 1) rfl rfl ?_
    exact hQ hX 

theorem e_cl_drawn {X : PX} {d b : Nat} {v : VS} {c : Int} {n : Int} {w : Int} (hX : XI v) (hp_a : R32 c) (hp_b : R32 n) (hp_c : R32 w) : EvV X (d + 1 + 1 + 1 + 1 + 1 + 1 + 1) 179 [.inr (.inr (some 0)), .inl c, .inl n, .inl w] b v (some (.inl (cl_drawn v c n w).1)) b ((cl_drawn v c n w).2) := EvV.of (w_cl_drawn hX hp_a hp_b hp_c (fun _ => ⟨rfl, rfl, rfl⟩))

theorem i_cl_drawn {v : VS} {c : Int} {n : Int} {w : Int} (hX : XI v) (hp_a : R32 c) (hp_b : R32 n) (hp_c : R32 w) : XI ((cl_drawn v c n w).2) := by
  have q : WV (0, fun _ => 0, none) (0 + 1 + 1 + 1 + 1 + 1 + 1 + 1) 179 0 [some (.inr (.inr (some 0))), some (.inl c), some (.inl n), some (.inl w)] [] 1 v (fun _ _ _ => XI ((cl_drawn v c n w).2)) := w_cl_drawn (X := (0, fun _ => 0, none)) (d := 0) (b := 1) hX hp_a hp_b hp_c (fun q => q)
  obtain ⟨_, _, _, _, _, _, _, q⟩ := q
  exact q

theorem o_cl_drawn {rk : Nat} {v : VS} {c : Int} {n : Int} {w : Int} (hk : (rk < 67 ∨ 78 < rk) ∧ (rk < 91 ∨ 102 < rk)) : (cl_drawn v c n w).2 rk = v rk := by
  unfold cl_drawn
  by_cases hc_ : 0 < v 33 2
  · rw [if_pos hc_]
    by_cases hc_ : (0 ≤ c ∧ c ≤ 2000000000) ∧ (0 ≤ n ∧ n ≤ 20)
    · rw [if_pos hc_]
      by_cases hc_ : w < 0
      · rw [if_pos hc_]
        all_goals (show v rk = _)
        all_goals rfl
      · rw [if_neg hc_]
        by_cases hc_ : 2 < w
        · rw [if_pos hc_]
          all_goals (show v rk = _)
          all_goals rfl
        · rw [if_neg hc_]
          by_cases hc_ : w = 0
          · rw [if_pos hc_]
            all_goals (show (cl_playDrawn v c n) rk = _)
            all_goals (rw [o_cl_playDrawn (by omega)])
          · rw [if_neg hc_]
            by_cases hc_ : w = 1
            · rw [if_pos hc_]
              all_goals (show (cl_playDrawn v c n) rk = _)
              all_goals (rw [o_cl_playDrawn (by omega)])
            · rw [if_neg hc_]
              all_goals (show (cl_playDrawn v c n) rk = _)
              all_goals (rw [o_cl_playDrawn (by omega)])
    · rw [if_neg hc_]
      all_goals (show v rk = _)
      all_goals rfl
  · rw [if_neg hc_]
    all_goals (show v rk = _)
    all_goals rfl

def cl_chance_45 : Nat → VS → Int → Int → Int → Int → Int → Int → Int → Int × VS
  | 0, v, s, k, n, c, h, g, i => (0, v)
  | f + 1, v, s, k, n, c, h, g, i => (if i < k then (if (cl_earliestBy91 (cl_playDrawn v (s + i) n) c h) = (-1) then (cl_chance_45 f (cl_playDrawn v (s + i) n) s k n c h g (i + 1)) else (cl_chance_45 f (cl_playDrawn v (s + i) n) s k n c h (g + 1) (i + 1))) else (g, v))
def cl_chance (v : VS) (s : Int) (k : Int) (n : Int) (c : Int) (h : Int) : Int × VS :=
  (if (0 ≤ s ∧ s ≤ 2000000000) ∧ (0 ≤ n ∧ n ≤ 20) then (if k < 1 then ((-2), v) else (if 20 < k then ((-2), v) else (if 0 ≤ c ∧ c < v 33 0 then (if 1 ≤ h ∧ h ≤ 99 then ((cl_chance_45 21 v s k n c h 0 0).1, (cl_chance_45 21 v s k n c h 0 0).2) else ((-2), v)) else ((-2), v)))) else ((-2), v))
theorem l_cl_chance_45 {X : PX} {d b : Nat} {Q : Option PV → Nat → VS → Prop}  : ∀ (f : Nat) (v : VS) (s : Int) (k : Int) (n : Int) (c : Int) (h : Int) (g : Int) (i : Int), XI v → (0 ≤ i ∧ i ≤ 20) → (0 ≤ s ∧ s ≤ 2000000000) → (1 ≤ k ∧ k ≤ 20) → (0 ≤ n ∧ n ≤ 20) → (R32 c) → (R32 h) → (0 ≤ g ∧ g ≤ i) → (20 < i + f) → (∀ qx0 : Option PV, ∀ qx1 : Option PV, ∀ qx2 : Option PV, ∀ qx3 : Option PV, ∀ qx4 : Option PV, ∀ qx5 : Option PV, ∀ qx7 : Option PV, XI ((cl_chance_45 f v s k n c h g i).2) → (0 ≤ (cl_chance_45 f v s k n c h g i).1 ∧ (cl_chance_45 f v s k n c h g i).1 ≤ 20) → WV X (d + 1 + 1 + 1 + 1 + 1 + 1 + 1) 183 86 [qx0, qx1, qx2, qx3, qx4, qx5, some (.inl ((cl_chance_45 f v s k n c h g i).1)), qx7] [] b (cl_chance_45 f v s k n c h g i).2 Q) → WV X (d + 1 + 1 + 1 + 1 + 1 + 1 + 1) 183 45 [some (.inr (.inr (some 0))), some (.inl s), some (.inl k), some (.inl n), some (.inl c), some (.inl h), some (.inl g), some (.inl i)] [] b v Q := by
  intro f
  induction f with
  | zero =>
    intro v s k n c h g i hX hi_0 hi_1 hi_2 hi_3 hi_4 hi_5 hi_6 hf hK
    exfalso
    omega
  | succ f ih =>
    intro v s k n c h g i hX hi_0 hi_1 hi_2 hi_3 hi_4 hi_5 hi_6 hf hK
    rw [cl_chance_45] at hK
    refine r_ex 2 (pc' := 48) (lo' := [some (.inr (.inr (some 0))), some (.inl s), some (.inl k), some (.inl n), some (.inl c), some (.inl h), some (.inl g), some (.inl i)]) (st' := [.inl k, .inl i]) rfl ?_
    refine n_ic_ge (pc0 := 48) (len := 3) (t := 86) rfl (by first | assumption | omega | (unfold R32 at *; omega) | (unfold R64 at *; omega) | (simp only [R32, R64] at *; omega)) (by first | assumption | omega | (unfold R32 at *; omega) | (unfold R64 at *; omega) | (simp only [R32, R64] at *; omega)) (fun h_48 => ?_) (fun h_48 => ?_)
    · show WV _ _ _ 86 _ _ _ _ _
      rw [if_neg h_48] at hK
      exact hK _ _ _ _ _ _ _ hX (by first | assumption | omega | (unfold R32 at *; omega) | (unfold R64 at *; omega) | (simp only [R32, R64] at *; omega))
    · show WV _ _ _ 51 _ _ _ _ _
      rw [if_pos h_48] at hK
      refine r_ex 2 (pc' := 53) (lo' := [some (.inr (.inr (some 0))), some (.inl s), some (.inl k), some (.inl n), some (.inl c), some (.inl h), some (.inl g), some (.inl i)]) (st' := [.inl s, .inr (.inr (some 0))]) rfl ?_
      refine n_i2l (pc' := 54) (pc0 := 53) (len := 1) rfl (by first | assumption | omega | (unfold R32 at *; omega) | (unfold R64 at *; omega) | (simp only [R32, R64] at *; omega)) rfl ?_
      refine r_ex 1 (pc' := 56) (lo' := [some (.inr (.inr (some 0))), some (.inl s), some (.inl k), some (.inl n), some (.inl c), some (.inl h), some (.inl g), some (.inl i)]) (st' := [.inl i, .inr (.inl s), .inr (.inr (some 0))]) rfl ?_
      refine n_i2l (pc' := 57) (pc0 := 56) (len := 1) rfl (by first | assumption | omega | (unfold R32 at *; omega) | (unfold R64 at *; omega) | (simp only [R32, R64] at *; omega)) rfl ?_
      refine r_ex 2 (pc' := 59) (lo' := [some (.inr (.inr (some 0))), some (.inl s), some (.inl k), some (.inl n), some (.inl c), some (.inl h), some (.inl g), some (.inl i)]) (st' := [.inl n, .inr (.inl (s + i)), .inr (.inr (some 0))]) rfl ?_
      have hp_6 : 0 ≤ (s + i) ∧ (s + i) ≤ 2147483648 := (by first | assumption | omega | (unfold R32 at *; omega) | (unfold R64 at *; omega) | (simp only [R32, R64] at *; omega))
      have hp_7 : 0 ≤ n ∧ n ≤ 20 := (by first | assumption | omega | (unfold R32 at *; omega) | (unfold R64 at *; omega) | (simp only [R32, R64] at *; omega))
      refine r_call (m := 181) (args := [.inr (.inr (some 0)), .inr (.inl (s + i)), .inl n]) (n' := 183) (pc' := 62) (lo' := [some (.inr (.inr (some 0))), some (.inl s), some (.inl k), some (.inl n), some (.inl c), some (.inl h), some (.inl g), some (.inl i)]) (st' := []) (I := .invokevirtual 181) (pc0 := 59) (len := 3) rfl rfl rfl (e_cl_playDrawn hX hp_6 hp_7) ?_
      show WV _ _ _ 62 _ [] _ (cl_playDrawn v (s + i) n) _
      have hX_8 : XI (cl_playDrawn v (s + i) n) := i_cl_playDrawn (v := v) (y := (s + i)) (n := n) hX hp_6 hp_7
      refine r_ex 4 (pc' := 70) (lo' := [some (.inr (.inr (some 0))), some (.inl s), some (.inl k), some (.inl n), some (.inl c), some (.inl h), some (.inl g), some (.inl i)]) (st' := [.inl h, .inl c, .inr (.inr (some 91))]) rfl ?_
      have hp_9 : R32 c := (by first | assumption | omega | (unfold R32 at *; omega) | (unfold R64 at *; omega) | (simp only [R32, R64] at *; omega))
      have hp_10 : R32 h := (by first | assumption | omega | (unfold R32 at *; omega) | (unfold R64 at *; omega) | (simp only [R32, R64] at *; omega))
      refine r_call (m := 156) (args := [.inr (.inr (some 91)), .inl c, .inl h]) (n' := 183) (pc' := 73) (lo' := [some (.inr (.inr (some 0))), some (.inl s), some (.inl k), some (.inl n), some (.inl c), some (.inl h), some (.inl g), some (.inl i)]) (st' := []) (I := .invokevirtual 156) (pc0 := 70) (len := 3) rfl rfl rfl (e_cl_earliestBy91 hX_8 hp_9 hp_10) ?_
      show WV _ _ _ 73 _ [.inl (cl_earliestBy91 (cl_playDrawn v (s + i) n) c h)] _ _ _
      have hb_11 := n_cl_earliestBy91 (v := (cl_playDrawn v (s + i) n)) (c := c) (h := h) hX_8 hp_9 hp_10
      refine r_ex 1 (pc' := 74) (lo' := [some (.inr (.inr (some 0))), some (.inl s), some (.inl k), some (.inl n), some (.inl c), some (.inl h), some (.inl g), some (.inl i)]) (st' := [.inl (-1), .inl (cl_earliestBy91 (cl_playDrawn v (s + i) n) c h)]) rfl ?_
      refine n_ic_eq (pc0 := 74) (len := 3) (t := 80) rfl (by first | assumption | omega | (unfold R32 at *; omega) | (unfold R64 at *; omega) | (simp only [R32, R64] at *; omega)) (by first | assumption | omega | (unfold R32 at *; omega) | (unfold R64 at *; omega) | (simp only [R32, R64] at *; omega)) (fun h_74 => ?_) (fun h_74 => ?_)
      · show WV _ _ _ 80 _ _ _ _ _
        rw [if_pos h_74] at hK
        refine r_ex 2 (pc' := 45) (lo' := [some (.inr (.inr (some 0))), some (.inl s), some (.inl k), some (.inl n), some (.inl c), some (.inl h), some (.inl g), some (.inl (i + 1))]) (st' := []) rfl ?_
        refine ih (cl_playDrawn v (s + i) n) s k n c h g (i + 1)  hX_8 (by first | assumption | omega | (unfold R32 at *; omega) | (unfold R64 at *; omega) | (simp only [R32, R64] at *; omega)) (by first | assumption | omega | (unfold R32 at *; omega) | (unfold R64 at *; omega) | (simp only [R32, R64] at *; omega)) (by first | assumption | omega | (unfold R32 at *; omega) | (unfold R64 at *; omega) | (simp only [R32, R64] at *; omega)) (by first | assumption | omega | (unfold R32 at *; omega) | (unfold R64 at *; omega) | (simp only [R32, R64] at *; omega)) (by first | assumption | omega | (unfold R32 at *; omega) | (unfold R64 at *; omega) | (simp only [R32, R64] at *; omega)) (by first | assumption | omega | (unfold R32 at *; omega) | (unfold R64 at *; omega) | (simp only [R32, R64] at *; omega)) (by first | assumption | omega | (unfold R32 at *; omega) | (unfold R64 at *; omega) | (simp only [R32, R64] at *; omega)) (by first | assumption | omega | (unfold R32 at *; omega) | (unfold R64 at *; omega) | (simp only [R32, R64] at *; omega)) hK
      · show WV _ _ _ 77 _ _ _ _ _
        rw [if_neg h_74] at hK
        refine r_ex 3 (pc' := 45) (lo' := [some (.inr (.inr (some 0))), some (.inl s), some (.inl k), some (.inl n), some (.inl c), some (.inl h), some (.inl (g + 1)), some (.inl (i + 1))]) (st' := []) rfl ?_
        refine ih (cl_playDrawn v (s + i) n) s k n c h (g + 1) (i + 1)  hX_8 (by first | assumption | omega | (unfold R32 at *; omega) | (unfold R64 at *; omega) | (simp only [R32, R64] at *; omega)) (by first | assumption | omega | (unfold R32 at *; omega) | (unfold R64 at *; omega) | (simp only [R32, R64] at *; omega)) (by first | assumption | omega | (unfold R32 at *; omega) | (unfold R64 at *; omega) | (simp only [R32, R64] at *; omega)) (by first | assumption | omega | (unfold R32 at *; omega) | (unfold R64 at *; omega) | (simp only [R32, R64] at *; omega)) (by first | assumption | omega | (unfold R32 at *; omega) | (unfold R64 at *; omega) | (simp only [R32, R64] at *; omega)) (by first | assumption | omega | (unfold R32 at *; omega) | (unfold R64 at *; omega) | (simp only [R32, R64] at *; omega)) (by first | assumption | omega | (unfold R32 at *; omega) | (unfold R64 at *; omega) | (simp only [R32, R64] at *; omega)) (by first | assumption | omega | (unfold R32 at *; omega) | (unfold R64 at *; omega) | (simp only [R32, R64] at *; omega)) hK

theorem of_cl_chance_45 {rk : Nat} (hk : (rk < 67 ∨ 78 < rk) ∧ (rk < 91 ∨ 102 < rk)) : ∀ (f : Nat) {v : VS} {s : Int} {k : Int} {n : Int} {c : Int} {h : Int} {g : Int} {i : Int}, (cl_chance_45 f v s k n c h g i).2 rk = v rk := by
  intro f
  induction f with
  | zero => intro v s k n c h g i; rfl
  | succ f ih =>
    intro v s k n c h g i
    rw [cl_chance_45]
    by_cases hc_ : i < k
    · rw [if_pos hc_]
      by_cases hc_ : (cl_earliestBy91 (cl_playDrawn v (s + i) n) c h) = (-1)
      · rw [if_pos hc_]
        all_goals (rw [ih, o_cl_playDrawn (by omega)])
      · rw [if_neg hc_]
        all_goals (rw [ih, o_cl_playDrawn (by omega)])
    · rw [if_neg hc_]
      all_goals (show v rk = _)
      all_goals rfl
theorem o_cl_chance_45 {rk : Nat} {f : Nat} {v : VS} {s : Int} {k : Int} {n : Int} {c : Int} {h : Int} {g : Int} {i : Int} (hk : (rk < 67 ∨ 78 < rk) ∧ (rk < 91 ∨ 102 < rk)) : (cl_chance_45 f v s k n c h g i).2 rk = v rk := of_cl_chance_45 hk f

theorem w_cl_chance {X : PX} {d b : Nat} {v : VS} {s : Int} {k : Int} {n : Int} {c : Int} {h : Int} (hX : XI v) (hp_a : R32 s) (hp_b : R32 k) (hp_c : R32 n) (hp_d : R32 c) (hp_e : R32 h) {Q : Option PV → Nat → VS → Prop} (hQ : XI (cl_chance v s k n c h).2 → Q (some (.inl (cl_chance v s k n c h).1)) b (cl_chance v s k n c h).2) : WV X (d + 1 + 1 + 1 + 1 + 1 + 1 + 1) 183 0 [some (.inr (.inr (some 0))), some (.inl s), some (.inl k), some (.inl n), some (.inl c), some (.inl h), none, none] [] b v Q := by
  rw [cl_chance] at hQ
  refine r_ex 2 (pc' := 2) (lo' := [some (.inr (.inr (some 0))), some (.inl s), some (.inl k), some (.inl n), some (.inl c), some (.inl h), none, none]) (st' := [.inl n, .inl s]) rfl ?_
  have hp_1 : R32 s := (by first | assumption | omega | (unfold R32 at *; omega) | (unfold R64 at *; omega) | (simp only [R32, R64] at *; omega))
  have hp_2 : R32 n := (by first | assumption | omega | (unfold R32 at *; omega) | (unfold R64 at *; omega) | (simp only [R32, R64] at *; omega))
  refine r_callb (P := (0 ≤ s ∧ s ≤ 2000000000) ∧ (0 ≤ n ∧ n ≤ 20)) (m := 180) (args := [.inl s, .inl n]) (n' := 183) (pc' := 5) (lo' := [some (.inr (.inr (some 0))), some (.inl s), some (.inl k), some (.inl n), some (.inl c), some (.inl h), none, none]) (st' := []) (I := .invokestatic 180) (pc0 := 2) (len := 3) rfl rfl rfl (e_cl_isDraw hX hp_1 hp_2) (fun h_2 => ?_) (fun h_2 => ?_)
  · show WV _ _ _ 5 _ _ _ _ _
    rw [if_pos h_2] at hQ
    refine r_ex 3 (pc' := 10) (lo' := [some (.inr (.inr (some 0))), some (.inl s), some (.inl k), some (.inl n), some (.inl c), some (.inl h), none, none]) (st' := [.inl 1, .inl k]) rfl ?_
    refine n_ic_lt (pc0 := 10) (len := 3) (t := 36) rfl (by first | assumption | omega | (unfold R32 at *; omega) | (unfold R64 at *; omega) | (simp only [R32, R64] at *; omega)) (by first | assumption | omega | (unfold R32 at *; omega) | (unfold R64 at *; omega) | (simp only [R32, R64] at *; omega)) (fun h_10 => ?_) (fun h_10 => ?_)
    · show WV _ _ _ 36 _ _ _ _ _
      rw [if_pos h_10] at hQ
      refine r_ex 1 (pc' := 38) (lo' := [some (.inr (.inr (some 0))), some (.inl s), some (.inl k), some (.inl n), some (.inl c), some (.inl h), none, none]) (st' := [.inl (-2)]) rfl ?_
      refine r_ret (rr := some (.inl (-2))) (I := .ireturn) (pc0 := 38) (len := 1) rfl rfl ?_
      exact hQ hX 
    · show WV _ _ _ 13 _ _ _ _ _
      rw [if_neg h_10] at hQ
      refine r_ex 2 (pc' := 16) (lo' := [some (.inr (.inr (some 0))), some (.inl s), some (.inl k), some (.inl n), some (.inl c), some (.inl h), none, none]) (st' := [.inl 20, .inl k]) rfl ?_
      refine n_ic_gt (pc0 := 16) (len := 3) (t := 36) rfl (by first | assumption | omega | (unfold R32 at *; omega) | (unfold R64 at *; omega) | (simp only [R32, R64] at *; omega)) (by first | assumption | omega | (unfold R32 at *; omega) | (unfold R64 at *; omega) | (simp only [R32, R64] at *; omega)) (fun h_16 => ?_) (fun h_16 => ?_)
      · show WV _ _ _ 36 _ _ _ _ _
        rw [if_pos h_16] at hQ
        refine r_ex 1 (pc' := 38) (lo' := [some (.inr (.inr (some 0))), some (.inl s), some (.inl k), some (.inl n), some (.inl c), some (.inl h), none, none]) (st' := [.inl (-2)]) rfl ?_
        refine r_ret (rr := some (.inl (-2))) (I := .ireturn) (pc0 := 38) (len := 1) rfl rfl ?_
        exact hQ hX 
      · show WV _ _ _ 19 _ _ _ _ _
        rw [if_neg h_16] at hQ
        refine r_ex 2 (pc' := 22) (lo' := [some (.inr (.inr (some 0))), some (.inl s), some (.inl k), some (.inl n), some (.inl c), some (.inl h), none, none]) (st' := [.inl c, .inr (.inr (some 0))]) rfl ?_
        have hp_3 : R32 c := (by first | assumption | omega | (unfold R32 at *; omega) | (unfold R64 at *; omega) | (simp only [R32, R64] at *; omega))
        have hb_4 : 0 ≤ v 33 0 ∧ v 33 0 ≤ 9 := hX 33 0
        refine r_callb (P := 0 ≤ c ∧ c < v 33 0) (m := 62) (args := [.inr (.inr (some 0)), .inl c]) (n' := 183) (pc' := 25) (lo' := [some (.inr (.inr (some 0))), some (.inl s), some (.inl k), some (.inl n), some (.inl c), some (.inl h), none, none]) (st' := []) (I := .invokevirtual 62) (pc0 := 22) (len := 3) rfl rfl rfl (e_cl_isChurch hX hp_3) (fun h_22 => ?_) (fun h_22 => ?_)
        · show WV _ _ _ 25 _ _ _ _ _
          rw [if_pos h_22] at hQ
          refine r_ex 2 (pc' := 30) (lo' := [some (.inr (.inr (some 0))), some (.inl s), some (.inl k), some (.inl n), some (.inl c), some (.inl h), none, none]) (st' := [.inl h]) rfl ?_
          have hp_5 : R32 h := (by first | assumption | omega | (unfold R32 at *; omega) | (unfold R64 at *; omega) | (simp only [R32, R64] at *; omega))
          refine r_callb (P := 1 ≤ h ∧ h ≤ 99) (m := 98) (args := [.inl h]) (n' := 183) (pc' := 33) (lo' := [some (.inr (.inr (some 0))), some (.inl s), some (.inl k), some (.inl n), some (.inl c), some (.inl h), none, none]) (st' := []) (I := .invokestatic 98) (pc0 := 30) (len := 3) rfl rfl rfl (e_cl_isHour hX hp_5) (fun h_30 => ?_) (fun h_30 => ?_)
          · show WV _ _ _ 33 _ _ _ _ _
            rw [if_pos h_30] at hQ
            refine r_ex 5 (pc' := 45) (lo' := [some (.inr (.inr (some 0))), some (.inl s), some (.inl k), some (.inl n), some (.inl c), some (.inl h), some (.inl 0), some (.inl 0)]) (st' := []) rfl ?_
            refine l_cl_chance_45 21 v s k n c h 0 0  hX (by first | assumption | omega | (unfold R32 at *; omega) | (unfold R64 at *; omega) | (simp only [R32, R64] at *; omega)) (by first | assumption | omega | (unfold R32 at *; omega) | (unfold R64 at *; omega) | (simp only [R32, R64] at *; omega)) (by first | assumption | omega | (unfold R32 at *; omega) | (unfold R64 at *; omega) | (simp only [R32, R64] at *; omega)) (by first | assumption | omega | (unfold R32 at *; omega) | (unfold R64 at *; omega) | (simp only [R32, R64] at *; omega)) (by first | assumption | omega | (unfold R32 at *; omega) | (unfold R64 at *; omega) | (simp only [R32, R64] at *; omega)) (by first | assumption | omega | (unfold R32 at *; omega) | (unfold R64 at *; omega) | (simp only [R32, R64] at *; omega)) (by first | assumption | omega | (unfold R32 at *; omega) | (unfold R64 at *; omega) | (simp only [R32, R64] at *; omega)) (by first | assumption | omega | (unfold R32 at *; omega) | (unfold R64 at *; omega) | (simp only [R32, R64] at *; omega)) (fun o0_12 o1_12 o2_12 o3_12 o4_12 o5_12 o7_12 hX_12 hv_12_0 => ?_)
            show WV _ _ _ 86 _ _ _ _ _
            refine r_ex 1 (pc' := 88) (lo' := [o0_12, o1_12, o2_12, o3_12, o4_12, o5_12, some (.inl ((cl_chance_45 21 v s k n c h 0 0).1)), o7_12]) (st' := [.inl ((cl_chance_45 21 v s k n c h 0 0).1)]) rfl ?_
            refine r_ret (rr := some (.inl ((cl_chance_45 21 v s k n c h 0 0).1))) (I := .ireturn) (pc0 := 88) (len := 1) rfl rfl ?_
            exact hQ hX_12 
          · show WV _ _ _ 33 _ _ _ _ _
            rw [if_neg h_30] at hQ
            refine r_ex 2 (pc' := 38) (lo' := [some (.inr (.inr (some 0))), some (.inl s), some (.inl k), some (.inl n), some (.inl c), some (.inl h), none, none]) (st' := [.inl (-2)]) rfl ?_
            refine r_ret (rr := some (.inl (-2))) (I := .ireturn) (pc0 := 38) (len := 1) rfl rfl ?_
            exact hQ hX 
        · show WV _ _ _ 25 _ _ _ _ _
          rw [if_neg h_22] at hQ
          refine r_ex 2 (pc' := 38) (lo' := [some (.inr (.inr (some 0))), some (.inl s), some (.inl k), some (.inl n), some (.inl c), some (.inl h), none, none]) (st' := [.inl (-2)]) rfl ?_
          refine r_ret (rr := some (.inl (-2))) (I := .ireturn) (pc0 := 38) (len := 1) rfl rfl ?_
          exact hQ hX 
  · show WV _ _ _ 5 _ _ _ _ _
    rw [if_neg h_2] at hQ
    refine r_ex 2 (pc' := 38) (lo' := [some (.inr (.inr (some 0))), some (.inl s), some (.inl k), some (.inl n), some (.inl c), some (.inl h), none, none]) (st' := [.inl (-2)]) rfl ?_
    refine r_ret (rr := some (.inl (-2))) (I := .ireturn) (pc0 := 38) (len := 1) rfl rfl ?_
    exact hQ hX 

theorem e_cl_chance {X : PX} {d b : Nat} {v : VS} {s : Int} {k : Int} {n : Int} {c : Int} {h : Int} (hX : XI v) (hp_a : R32 s) (hp_b : R32 k) (hp_c : R32 n) (hp_d : R32 c) (hp_e : R32 h) : EvV X (d + 1 + 1 + 1 + 1 + 1 + 1 + 1) 183 [.inr (.inr (some 0)), .inl s, .inl k, .inl n, .inl c, .inl h] b v (some (.inl (cl_chance v s k n c h).1)) b ((cl_chance v s k n c h).2) := EvV.of (w_cl_chance hX hp_a hp_b hp_c hp_d hp_e (fun _ => ⟨rfl, rfl, rfl⟩))

theorem i_cl_chance {v : VS} {s : Int} {k : Int} {n : Int} {c : Int} {h : Int} (hX : XI v) (hp_a : R32 s) (hp_b : R32 k) (hp_c : R32 n) (hp_d : R32 c) (hp_e : R32 h) : XI ((cl_chance v s k n c h).2) := by
  have q : WV (0, fun _ => 0, none) (0 + 1 + 1 + 1 + 1 + 1 + 1 + 1) 183 0 [some (.inr (.inr (some 0))), some (.inl s), some (.inl k), some (.inl n), some (.inl c), some (.inl h), none, none] [] 1 v (fun _ _ _ => XI ((cl_chance v s k n c h).2)) := w_cl_chance (X := (0, fun _ => 0, none)) (d := 0) (b := 1) hX hp_a hp_b hp_c hp_d hp_e (fun q => q)
  obtain ⟨_, _, _, _, _, _, _, q⟩ := q
  exact q

theorem o_cl_chance {rk : Nat} {v : VS} {s : Int} {k : Int} {n : Int} {c : Int} {h : Int} (hk : (rk < 67 ∨ 78 < rk) ∧ (rk < 91 ∨ 102 < rk)) : (cl_chance v s k n c h).2 rk = v rk := by
  unfold cl_chance
  by_cases hc_ : (0 ≤ s ∧ s ≤ 2000000000) ∧ (0 ≤ n ∧ n ≤ 20)
  · rw [if_pos hc_]
    by_cases hc_ : k < 1
    · rw [if_pos hc_]
      all_goals (show v rk = _)
      all_goals rfl
    · rw [if_neg hc_]
      by_cases hc_ : 20 < k
      · rw [if_pos hc_]
        all_goals (show v rk = _)
        all_goals rfl
      · rw [if_neg hc_]
        by_cases hc_ : 0 ≤ c ∧ c < v 33 0
        · rw [if_pos hc_]
          by_cases hc_ : 1 ≤ h ∧ h ≤ 99
          · rw [if_pos hc_]
            all_goals (show ((cl_chance_45 21 v s k n c h 0 0).2) rk = _)
            all_goals (rw [o_cl_chance_45 (by omega)])
          · rw [if_neg hc_]
            all_goals (show v rk = _)
            all_goals rfl
        · rw [if_neg hc_]
          all_goals (show v rk = _)
          all_goals rfl
  · rw [if_neg hc_]
    all_goals (show v rk = _)
    all_goals rfl
