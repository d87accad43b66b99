/-! the run as it is -/
def jf_72 (v : VS) (x : Int) : VS := vfill v 72 10 x
theorem e_jf_72 {X : PX} {d b : Nat} {v : VS} {x : Int} (hX : XI v) (hp_a : -20 ≤ x ∧ x ≤ 20) : EvV X d 20 [.inr (.inr (some 72)), .inl x] b v none b (jf_72 v x) := j_fill (s_72 _) (by decide)
theorem i_jf_72 {v : VS} {x : Int} (hX : XI v) (hp_a : -20 ≤ x ∧ x ≤ 20) : XI (jf_72 v x) := XI_fillN hX (fun j => hp_a)
theorem o_jf_72 {k : Nat} {v : VS} {x : Int} (hk : (k < 72 ∨ 72 < k)) : jf_72 v x k = v k := vfill_row (by omega)

def cl_stTake (v : VS)  : VS :=
  (vcp (vcp (vcp (v2 v 68 0 (v 42 0)) 43 69 0 0 5) 44 70 0 0 5) 45 71 0 0 5)
theorem w_cl_stTake {X : PX} {d b : Nat} {v : VS}  (hX : XI v)  {Q : Option PV → Nat → VS → Prop} (hQ : XI (cl_stTake v) → Q none b (cl_stTake v)) : WV X d 55 0 [some (.inr (.inr (some 68))), some (.inr (.inr (some 42)))] [] b v Q := by
  rw [cl_stTake] at hQ
  refine r_ex 3 (pc' := 5) (lo' := [some (.inr (.inr (some 68))), some (.inr (.inr (some 42)))]) (st' := [.inl (v 42 0), .inr (.inr (some 68))]) rfl ?_
  have hb_1 : 0 ≤ (v 42 0) ∧ (v 42 0) ≤ 4 := hX 42 0
  refine r_puti2 (j := 0) (pc' := 8) (pc0 := 5) (len := 3) rfl (s_68 _) rfl rfl rfl (Or.inl rfl) rfl rfl ?_
  have hX_2 : XI (v2 v 68 0 (v 42 0)) := XI.put hX (show 0 ≤ (v 42 0) ∧ (v 42 0) ≤ 5 from (by first | assumption | omega | (unfold R32 at *; omega) | (unfold R64 at *; omega) | (simp only [R32, R64] at *; omega)))
  refine r_ex 7 (pc' := 19) (lo' := [some (.inr (.inr (some 68))), some (.inr (.inr (some 42)))]) (st' := [.inl 5, .inl 0, .inr (.inr (some 69)), .inl 0, .inr (.inr (some 43))]) rfl ?_
  refine r_copy2 (pc' := 22) (pc0 := 19) (len := 3) rfl (s_43 _) (s_69 _) (Or.inl rfl) (by omega) (by decide) (by decide) rfl ?_
  have hX_3 : XI (vcp (v2 v 68 0 (v 42 0)) 43 69 0 0 5) := XI.cpy hX_2 (fun x h j => Exists.elim h (fun _ h => h))
  show WV _ _ _ 22 _ _ _ (vcp (v2 v 68 0 (v 42 0)) 43 69 0 0 5) _
  refine r_ex 7 (pc' := 33) (lo' := [some (.inr (.inr (some 68))), some (.inr (.inr (some 42)))]) (st' := [.inl 5, .inl 0, .inr (.inr (some 70)), .inl 0, .inr (.inr (some 44))]) rfl ?_
  refine r_copy2 (pc' := 36) (pc0 := 33) (len := 3) rfl (s_44 _) (s_70 _) (Or.inl rfl) (by omega) (by decide) (by decide) rfl ?_
  have hX_4 : XI (vcp (vcp (v2 v 68 0 (v 42 0)) 43 69 0 0 5) 44 70 0 0 5) := XI.cpy hX_3 (fun x h j => Exists.elim h (fun _ h => h))
  show WV _ _ _ 36 _ _ _ (vcp (vcp (v2 v 68 0 (v 42 0)) 43 69 0 0 5) 44 70 0 0 5) _
  refine r_ex 7 (pc' := 47) (lo' := [some (.inr (.inr (some 68))), some (.inr (.inr (some 42)))]) (st' := [.inl 5, .inl 0, .inr (.inr (some 71)), .inl 0, .inr (.inr (some 45))]) rfl ?_
  refine r_copy2 (pc' := 50) (pc0 := 47) (len := 3) rfl (s_45 _) (s_71 _) (Or.inl rfl) (by omega) (by decide) (by decide) rfl ?_
  have hX_5 : XI (vcp (vcp (vcp (v2 v 68 0 (v 42 0)) 43 69 0 0 5) 44 70 0 0 5) 45 71 0 0 5) := XI.cpy hX_4 (fun x h j => Exists.elim h (fun _ h => h))
  show WV _ _ _ 50 _ _ _ (vcp (vcp (vcp (v2 v 68 0 (v 42 0)) 43 69 0 0 5) 44 70 0 0 5) 45 71 0 0 5) _
  refine r_ret (rr := none) (I := .return_) (pc0 := 50) (len := 1) rfl rfl ?_
  exact hQ hX_5 

theorem e_cl_stTake {X : PX} {d b : Nat} {v : VS}  (hX : XI v)  : EvV X d 55 [.inr (.inr (some 68)), .inr (.inr (some 42))] b v none b (cl_stTake v) := EvV.of (w_cl_stTake hX  (fun _ => ⟨rfl, rfl, rfl⟩))

theorem i_cl_stTake {v : VS}  (hX : XI v)  : XI (cl_stTake v) := by
  have q : WV (0, fun _ => 0, none) 0 55 0 [some (.inr (.inr (some 68))), some (.inr (.inr (some 42)))] [] 1 v (fun _ _ _ => XI (cl_stTake v)) := w_cl_stTake (X := (0, fun _ => 0, none)) (d := 0) (b := 1) hX  (fun q => q)
  obtain ⟨_, _, _, _, _, _, _, q⟩ := q
  exact q

theorem o_cl_stTake {rk : Nat} {v : VS}  (hk : (rk < 68 ∨ 71 < rk)) : (cl_stTake v ) rk = v rk := by
  unfold cl_stTake
  all_goals (show (vcp (vcp (vcp (v2 v 68 0 (v 42 0)) 43 69 0 0 5) 44 70 0 0 5) 45 71 0 0 5) rk = _)
  all_goals (rw [vcp_row (by omega), vcp_row (by omega), vcp_row (by omega), v2_row (by omega)])

def cl_asTold (v : VS)  : VS :=
  (v2 (v2 (v2 (v2 (v2 (v2 (jf_72 (cl_stTake (v2 (v2 v 67 0 (v 33 4)) 67 1 (v 33 5))) 0) 67 4 (-1)) 67 5 (-1)) 67 6 (((jf_72 (cl_stTake (v2 (v2 v 67 0 (v 33 4)) 67 1 (v 33 5))) 0) 33 1) - 1)) 67 7 (-1)) 67 8 300) 67 9 300)
theorem w_cl_asTold {X : PX} {d b : Nat} {v : VS}  (hX : XI v)  {Q : Option PV → Nat → VS → Prop} (hQ : XI (cl_asTold v) → Q none b (cl_asTold v)) : WV X (d + 1) 73 0 [some (.inr (.inr (some 67))), some (.inr (.inr (some 33)))] [] b v Q := by
  rw [cl_asTold] at hQ
  refine r_ex 3 (pc' := 5) (lo' := [some (.inr (.inr (some 67))), some (.inr (.inr (some 33)))]) (st' := [.inl (v 33 4), .inr (.inr (some 67))]) rfl ?_
  have hb_1 : 0 ≤ (v 33 4) ∧ (v 33 4) ≤ 511 := hX 33 4
  refine r_puti2 (j := 0) (pc' := 8) (pc0 := 5) (len := 3) rfl (s_67 _) rfl rfl rfl (Or.inl rfl) rfl rfl ?_
  have hX_2 : XI (v2 v 67 0 (v 33 4)) := XI.put hX (show 0 ≤ (v 33 4) ∧ (v 33 4) ≤ 511 from (by first | assumption | omega | (unfold R32 at *; omega) | (unfold R64 at *; omega) | (simp only [R32, R64] at *; omega)))
  refine r_ex 3 (pc' := 13) (lo' := [some (.inr (.inr (some 67))), some (.inr (.inr (some 33)))]) (st' := [.inl (v 33 5), .inr (.inr (some 67))]) rfl ?_
  have hb_3 : 0 ≤ (v 33 5) ∧ (v 33 5) ≤ 4095 := hX_2 33 5
  refine r_puti2 (j := 1) (pc' := 16) (pc0 := 13) (len := 3) rfl (s_67 _) rfl rfl rfl (Or.inl rfl) rfl rfl ?_
  have hX_4 : XI (v2 (v2 v 67 0 (v 33 4)) 67 1 (v 33 5)) := XI.put hX_2 (show 0 ≤ (v 33 5) ∧ (v 33 5) ≤ 4095 from (by first | assumption | omega | (unfold R32 at *; omega) | (unfold R64 at *; omega) | (simp only [R32, R64] at *; omega)))
  refine r_ex 4 (pc' := 24) (lo' := [some (.inr (.inr (some 67))), some (.inr (.inr (some 33)))]) (st' := [.inr (.inr (some 42)), .inr (.inr (some 68))]) rfl ?_
  refine r_call (m := 55) (args := [.inr (.inr (some 68)), .inr (.inr (some 42))]) (n' := 73) (pc' := 27) (lo' := [some (.inr (.inr (some 67))), some (.inr (.inr (some 33)))]) (st' := []) (I := .invokevirtual 55) (pc0 := 24) (len := 3) rfl rfl rfl (e_cl_stTake hX_4) ?_
  show WV _ _ _ 27 _ [] _ (cl_stTake (v2 (v2 v 67 0 (v 33 4)) 67 1 (v 33 5))) _
  have hX_5 : XI (cl_stTake (v2 (v2 v 67 0 (v 33 4)) 67 1 (v 33 5))) := i_cl_stTake (v := (v2 (v2 v 67 0 (v 33 4)) 67 1 (v 33 5))) hX_4
  refine r_ex 3 (pc' := 32) (lo' := [some (.inr (.inr (some 67))), some (.inr (.inr (some 33)))]) (st' := [.inl 0, .inr (.inr (some 72))]) rfl ?_
  have hp_6 : -20 ≤ (0 : Int) ∧ (0 : Int) ≤ 20 := (by first | assumption | omega | (unfold R32 at *; omega) | (unfold R64 at *; omega) | (simp only [R32, R64] at *; omega))
  refine r_call (m := 20) (args := [.inr (.inr (some 72)), .inl 0]) (n' := 73) (pc' := 35) (lo' := [some (.inr (.inr (some 67))), some (.inr (.inr (some 33)))]) (st' := []) (I := .invokestatic 20) (pc0 := 32) (len := 3) rfl rfl rfl (e_jf_72 hX_5 hp_6) ?_
  show WV _ _ _ 35 _ [] _ (jf_72 (cl_stTake (v2 (v2 v 67 0 (v 33 4)) 67 1 (v 33 5))) 0) _
  have hX_7 : XI (jf_72 (cl_stTake (v2 (v2 v 67 0 (v 33 4)) 67 1 (v 33 5))) 0) := i_jf_72 (v := (cl_stTake (v2 (v2 v 67 0 (v 33 4)) 67 1 (v 33 5)))) (x := 0) hX_5 hp_6
  refine r_ex 2 (pc' := 37) (lo' := [some (.inr (.inr (some 67))), some (.inr (.inr (some 33)))]) (st' := [.inl (-1), .inr (.inr (some 67))]) rfl ?_
  refine r_puti2 (j := 4) (pc' := 40) (pc0 := 37) (len := 3) rfl (s_67 _) rfl rfl rfl (Or.inl rfl) rfl rfl ?_
  have hX_8 : XI (v2 (jf_72 (cl_stTake (v2 (v2 v 67 0 (v 33 4)) 67 1 (v 33 5))) 0) 67 4 (-1)) := XI.put hX_7 (show -1 ≤ (-1) ∧ (-1) ≤ 6 from (by first | assumption | omega | (unfold R32 at *; omega) | (unfold R64 at *; omega) | (simp only [R32, R64] at *; omega)))
  refine r_ex 2 (pc' := 42) (lo' := [some (.inr (.inr (some 67))), some (.inr (.inr (some 33)))]) (st' := [.inl (-1), .inr (.inr (some 67))]) rfl ?_
  refine r_puti2 (j := 5) (pc' := 45) (pc0 := 42) (len := 3) rfl (s_67 _) rfl rfl rfl (Or.inl rfl) rfl rfl ?_
  have hX_9 : XI (v2 (v2 (jf_72 (cl_stTake (v2 (v2 v 67 0 (v 33 4)) 67 1 (v 33 5))) 0) 67 4 (-1)) 67 5 (-1)) := XI.put hX_8 (show -1 ≤ (-1) ∧ (-1) ≤ 299 from (by first | assumption | omega | (unfold R32 at *; omega) | (unfold R64 at *; omega) | (simp only [R32, R64] at *; omega)))
  refine r_ex 5 (pc' := 52) (lo' := [some (.inr (.inr (some 67))), some (.inr (.inr (some 33)))]) (st' := [.inl (((jf_72 (cl_stTake (v2 (v2 v 67 0 (v 33 4)) 67 1 (v 33 5))) 0) 33 1) - 1), .inr (.inr (some 67))]) rfl ?_
  have hb_10 : 0 ≤ ((jf_72 (cl_stTake (v2 (v2 v 67 0 (v 33 4)) 67 1 (v 33 5))) 0) 33 1) ∧ ((jf_72 (cl_stTake (v2 (v2 v 67 0 (v 33 4)) 67 1 (v 33 5))) 0) 33 1) ≤ 300 := hX_9 33 1
  refine r_puti2 (j := 6) (pc' := 55) (pc0 := 52) (len := 3) rfl (s_67 _) rfl rfl rfl (Or.inl rfl) rfl rfl ?_
  have hX_11 : XI (v2 (v2 (v2 (jf_72 (cl_stTake (v2 (v2 v 67 0 (v 33 4)) 67 1 (v 33 5))) 0) 67 4 (-1)) 67 5 (-1)) 67 6 (((jf_72 (cl_stTake (v2 (v2 v 67 0 (v 33 4)) 67 1 (v 33 5))) 0) 33 1) - 1)) := XI.put hX_9 (show -1 ≤ (((jf_72 (cl_stTake (v2 (v2 v 67 0 (v 33 4)) 67 1 (v 33 5))) 0) 33 1) - 1) ∧ (((jf_72 (cl_stTake (v2 (v2 v 67 0 (v 33 4)) 67 1 (v 33 5))) 0) 33 1) - 1) ≤ 299 from (by first | assumption | omega | (unfold R32 at *; omega) | (unfold R64 at *; omega) | (simp only [R32, R64] at *; omega)))
  refine r_ex 2 (pc' := 57) (lo' := [some (.inr (.inr (some 67))), some (.inr (.inr (some 33)))]) (st' := [.inl (-1), .inr (.inr (some 67))]) rfl ?_
  refine r_puti2 (j := 7) (pc' := 60) (pc0 := 57) (len := 3) rfl (s_67 _) rfl rfl rfl (Or.inl rfl) rfl rfl ?_
  have hX_12 : XI (v2 (v2 (v2 (v2 (jf_72 (cl_stTake (v2 (v2 v 67 0 (v 33 4)) 67 1 (v 33 5))) 0) 67 4 (-1)) 67 5 (-1)) 67 6 (((jf_72 (cl_stTake (v2 (v2 v 67 0 (v 33 4)) 67 1 (v 33 5))) 0) 33 1) - 1)) 67 7 (-1)) := XI.put hX_11 (show -1 ≤ (-1) ∧ (-1) ≤ 8 from (by first | assumption | omega | (unfold R32 at *; omega) | (unfold R64 at *; omega) | (simp only [R32, R64] at *; omega)))
  refine r_ex 2 (pc' := 64) (lo' := [some (.inr (.inr (some 67))), some (.inr (.inr (some 33)))]) (st' := [.inl 300, .inr (.inr (some 67))]) rfl ?_
  refine r_puti2 (j := 8) (pc' := 67) (pc0 := 64) (len := 3) rfl (s_67 _) rfl rfl rfl (Or.inl rfl) rfl rfl ?_
  have hX_13 : XI (v2 (v2 (v2 (v2 (v2 (jf_72 (cl_stTake (v2 (v2 v 67 0 (v 33 4)) 67 1 (v 33 5))) 0) 67 4 (-1)) 67 5 (-1)) 67 6 (((jf_72 (cl_stTake (v2 (v2 v 67 0 (v 33 4)) 67 1 (v 33 5))) 0) 33 1) - 1)) 67 7 (-1)) 67 8 300) := XI.put hX_12 (show 0 ≤ 300 ∧ 300 ≤ 300 from (by first | assumption | omega | (unfold R32 at *; omega) | (unfold R64 at *; omega) | (simp only [R32, R64] at *; omega)))
  refine r_ex 2 (pc' := 71) (lo' := [some (.inr (.inr (some 67))), some (.inr (.inr (some 33)))]) (st' := [.inl 300, .inr (.inr (some 67))]) rfl ?_
  refine r_puti2 (j := 9) (pc' := 74) (pc0 := 71) (len := 3) rfl (s_67 _) rfl rfl rfl (Or.inl rfl) rfl rfl ?_
  have hX_14 : XI (v2 (v2 (v2 (v2 (v2 (v2 (jf_72 (cl_stTake (v2 (v2 v 67 0 (v 33 4)) 67 1 (v 33 5))) 0) 67 4 (-1)) 67 5 (-1)) 67 6 (((jf_72 (cl_stTake (v2 (v2 v 67 0 (v 33 4)) 67 1 (v 33 5))) 0) 33 1) - 1)) 67 7 (-1)) 67 8 300) 67 9 300) := XI.put hX_13 (show 0 ≤ 300 ∧ 300 ≤ 300 from (by first | assumption | omega | (unfold R32 at *; omega) | (unfold R64 at *; omega) | (simp only [R32, R64] at *; omega)))
  refine r_ret (rr := none) (I := .return_) (pc0 := 74) (len := 1) rfl rfl ?_
  exact hQ hX_14 

theorem e_cl_asTold {X : PX} {d b : Nat} {v : VS}  (hX : XI v)  : EvV X (d + 1) 73 [.inr (.inr (some 67)), .inr (.inr (some 33))] b v none b (cl_asTold v) := EvV.of (w_cl_asTold hX  (fun _ => ⟨rfl, rfl, rfl⟩))

theorem i_cl_asTold {v : VS}  (hX : XI v)  : XI (cl_asTold v) := by
  have q : WV (0, fun _ => 0, none) (0 + 1) 73 0 [some (.inr (.inr (some 67))), some (.inr (.inr (some 33)))] [] 1 v (fun _ _ _ => XI (cl_asTold v)) := w_cl_asTold (X := (0, fun _ => 0, none)) (d := 0) (b := 1) hX  (fun q => q)
  obtain ⟨_, _, _, _, _, _, _, q⟩ := q
  exact q

theorem o_cl_asTold {rk : Nat} {v : VS}  (hk : (rk < 67 ∨ 72 < rk)) : (cl_asTold v ) rk = v rk := by
  unfold cl_asTold
  all_goals (show (v2 (v2 (v2 (v2 (v2 (v2 (jf_72 (cl_stTake (v2 (v2 v 67 0 (v 33 4)) 67 1 (v 33 5))) 0) 67 4 (-1)) 67 5 (-1)) 67 6 (((jf_72 (cl_stTake (v2 (v2 v 67 0 (v 33 4)) 67 1 (v 33 5))) 0) 33 1) - 1)) 67 7 (-1)) 67 8 300) 67 9 300) rk = _)
  all_goals (rw [v2_row (by omega), v2_row (by omega), v2_row (by omega), v2_row (by omega), v2_row (by omega), v2_row (by omega), o_jf_72 (by omega), o_cl_stTake (by omega), v2_row (by omega), v2_row (by omega)])

def cl_fillChart_17 : Nat → VS → Int → Int → Int → VS
  | 0, v, i, s, c => v
  | f + 1, v, i, s, c => (if c < (v 33 0) then (if s = 0 then (cl_fillChart_17 f (v2 v 105 ((((s * 9) + c)).toNat) 0) i s (c + 1)) else (cl_fillChart_17 f (v2 v 105 ((((s * 9) + c)).toNat) (v 105 (((((s * 9) + c) - 9)).toNat))) i s (c + 1))) else v)
def cl_fillChart_67 : Nat → VS → Int → Int → Int × VS
  | 0, v, i, s => (0, v)
  | f + 1, v, i, s => (if i < (v 79 4) then (if (v 80 ((i).toNat)) = s then (cl_fillChart_67 f (v2 v 105 ((((s * 9) + (v 81 ((i).toNat)))).toNat) (v 82 ((i).toNat))) (i + 1) s) else (i, v)) else (i, v))
def cl_fillChart_4 : Nat → VS → Int → Int → VS
  | 0, v, i, s => v
  | f + 1, v, i, s => (if s < (v 33 1) then (cl_fillChart_4 f ((cl_fillChart_67 301 (cl_fillChart_17 10 v i s 0) i s).2) ((cl_fillChart_67 301 (cl_fillChart_17 10 v i s 0) i s).1) (s + 1)) else v)
def cl_fillChart (v : VS)  : VS :=
  (cl_fillChart_4 301 v 0 0)
theorem l_cl_fillChart_17 {X : PX} {d b : Nat} {Q : Option PV → Nat → VS → Prop}  : ∀ (f : Nat) (v : VS) (i : Int) (s : Int) (c : Int) (o4 : Option PV), XI v → (0 ≤ i ∧ i ≤ 300) → (0 ≤ s ∧ s < 300) → (0 ≤ c ∧ c ≤ 9) → (9 < c + f) → (∀ qx3 : Option PV, ∀ qx4 : Option PV, XI (cl_fillChart_17 f v i s c) → WV X d 85 67 [some (.inr (.inr (some 0))), some (.inl i), some (.inl s), qx3, qx4] [] b (cl_fillChart_17 f v i s c) Q) → WV X d 85 17 [some (.inr (.inr (some 0))), some (.inl i), some (.inl s), some (.inl c), o4] [] b v Q := by
  intro f
  induction f with
  | zero =>
    intro v i s c o4 hX hi_0 hi_1 hi_2 hf hK
    exfalso
    omega
  | succ f ih =>
    intro v i s c o4 hX hi_0 hi_1 hi_2 hf hK
    rw [cl_fillChart_17] at hK
    refine r_ex 4 (pc' := 25) (lo' := [some (.inr (.inr (some 0))), some (.inl i), some (.inl s), some (.inl c), o4]) (st' := [.inl (v 33 0), .inl c]) rfl ?_
    have hb_2 : 0 ≤ (v 33 0) ∧ (v 33 0) ≤ 9 := hX 33 0
    refine n_ic_ge (pc0 := 25) (len := 3) (t := 67) rfl (by first | assumption | omega | (unfold R32 at *; omega) | (unfold R64 at *; omega) | (simp only [R32, R64] at *; omega)) (by first | assumption | omega | (unfold R32 at *; omega) | (unfold R64 at *; omega) | (simp only [R32, R64] at *; omega)) (fun h_25 => ?_) (fun h_25 => ?_)
    · show WV _ _ _ 67 _ _ _ _ _
      rw [if_neg h_25] at hK
      exact hK _ _ hX 
    · show WV _ _ _ 28 _ _ _ _ _
      rw [if_pos h_25] at hK
      refine r_ex 10 (pc' := 43) (lo' := [some (.inr (.inr (some 0))), some (.inl i), some (.inl s), some (.inl c), some (.inl ((s * 9) + c))]) (st' := [.inl s, .inl ((s * 9) + c), .inr (.inr (some 105))]) rfl ?_
      refine n_if_ne (pc0 := 43) (len := 3) (t := 50) rfl (by first | assumption | omega | (unfold R32 at *; omega) | (unfold R64 at *; omega) | (simp only [R32, R64] at *; omega)) (fun h_43 => ?_) (fun h_43 => ?_)
      · show WV _ _ _ 50 _ _ _ _ _
        rw [if_neg h_43] at hK
        refine r_ex 5 (pc' := 59) (lo' := [some (.inr (.inr (some 0))), some (.inl i), some (.inl s), some (.inl c), some (.inl ((s * 9) + c))]) (st' := [.inl (((s * 9) + c) - 9), .inr (.inr (some 105)), .inl ((s * 9) + c), .inr (.inr (some 105))]) rfl ?_
        refine r_iald2 (j := 0) (x := (v 105 (((((s * 9) + c) - 9)).toNat))) (pc' := 60) (pc0 := 59) (len := 1) rfl (s_105 _) (by first | assumption | omega | (unfold R32 at *; omega) | (unfold R64 at *; omega) | (simp only [R32, R64] at *; omega)) (by decide) rfl rfl ?_
        have hb_3 : 0 ≤ (v 105 (((((s * 9) + c) - 9)).toNat)) ∧ (v 105 (((((s * 9) + c) - 9)).toNat)) ≤ 99 := hX 105 (((((s * 9) + c) - 9)).toNat)
        refine r_iast2 (pc' := 61) (pc0 := 60) (len := 1) rfl (s_105 _) (by first | assumption | omega | (unfold R32 at *; omega) | (unfold R64 at *; omega) | (simp only [R32, R64] at *; omega)) (by decide) rfl ?_
        have hX_4 : XI (v2 v 105 ((((s * 9) + c)).toNat) (v 105 (((((s * 9) + c) - 9)).toNat))) := XI.put hX (show 0 ≤ (v 105 (((((s * 9) + c) - 9)).toNat)) ∧ (v 105 (((((s * 9) + c) - 9)).toNat)) ≤ 99 from (by first | assumption | omega | (unfold R32 at *; omega) | (unfold R64 at *; omega) | (simp only [R32, R64] at *; omega)))
        refine r_ex 2 (pc' := 17) (lo' := [some (.inr (.inr (some 0))), some (.inl i), some (.inl s), some (.inl (c + 1)), some (.inl ((s * 9) + c))]) (st' := []) rfl ?_
        refine ih (v2 v 105 ((((s * 9) + c)).toNat) (v 105 (((((s * 9) + c) - 9)).toNat))) i s (c + 1) _ hX_4 (by first | assumption | omega | (unfold R32 at *; omega) | (unfold R64 at *; omega) | (simp only [R32, R64] at *; omega)) (by first | assumption | omega | (unfold R32 at *; omega) | (unfold R64 at *; omega) | (simp only [R32, R64] at *; omega)) (by first | assumption | omega | (unfold R32 at *; omega) | (unfold R64 at *; omega) | (simp only [R32, R64] at *; omega)) (by first | assumption | omega | (unfold R32 at *; omega) | (unfold R64 at *; omega) | (simp only [R32, R64] at *; omega)) hK
      · show WV _ _ _ 46 _ _ _ _ _
        rw [if_pos h_43] at hK
        refine r_ex 2 (pc' := 60) (lo' := [some (.inr (.inr (some 0))), some (.inl i), some (.inl s), some (.inl c), some (.inl ((s * 9) + c))]) (st' := [.inl 0, .inl ((s * 9) + c), .inr (.inr (some 105))]) rfl ?_
        refine r_iast2 (pc' := 61) (pc0 := 60) (len := 1) rfl (s_105 _) (by first | assumption | omega | (unfold R32 at *; omega) | (unfold R64 at *; omega) | (simp only [R32, R64] at *; omega)) (by decide) rfl ?_
        have hX_5 : XI (v2 v 105 ((((s * 9) + c)).toNat) 0) := XI.put hX (show 0 ≤ 0 ∧ 0 ≤ 99 from (by first | assumption | omega | (unfold R32 at *; omega) | (unfold R64 at *; omega) | (simp only [R32, R64] at *; omega)))
        refine r_ex 2 (pc' := 17) (lo' := [some (.inr (.inr (some 0))), some (.inl i), some (.inl s), some (.inl (c + 1)), some (.inl ((s * 9) + c))]) (st' := []) rfl ?_
        refine ih (v2 v 105 ((((s * 9) + c)).toNat) 0) i s (c + 1) _ hX_5 (by first | assumption | omega | (unfold R32 at *; omega) | (unfold R64 at *; omega) | (simp only [R32, R64] at *; omega)) (by first | assumption | omega | (unfold R32 at *; omega) | (unfold R64 at *; omega) | (simp only [R32, R64] at *; omega)) (by first | assumption | omega | (unfold R32 at *; omega) | (unfold R64 at *; omega) | (simp only [R32, R64] at *; omega)) (by first | assumption | omega | (unfold R32 at *; omega) | (unfold R64 at *; omega) | (simp only [R32, R64] at *; omega)) hK

theorem of_cl_fillChart_17 {rk : Nat} (hk : (rk < 105 ∨ 105 < rk)) : ∀ (f : Nat) {v : VS} {i : Int} {s : Int} {c : Int}, (cl_fillChart_17 f v i s c) rk = v rk := by
  intro f
  induction f with
  | zero => intro v i s c; rfl
  | succ f ih =>
    intro v i s c
    rw [cl_fillChart_17]
    by_cases hc_ : c < (v 33 0)
    · rw [if_pos hc_]
      by_cases hc_ : s = 0
      · rw [if_pos hc_]
        all_goals (rw [ih, v2_row (by omega)])
      · rw [if_neg hc_]
        all_goals (rw [ih, v2_row (by omega)])
    · rw [if_neg hc_]
      all_goals (show v rk = _)
      all_goals rfl
theorem o_cl_fillChart_17 {rk : Nat} {f : Nat} {v : VS} {i : Int} {s : Int} {c : Int} (hk : (rk < 105 ∨ 105 < rk)) : (cl_fillChart_17 f v i s c) rk = v rk := of_cl_fillChart_17 hk f

theorem l_cl_fillChart_67 {X : PX} {d b : Nat} {Q : Option PV → Nat → VS → Prop}  : ∀ (f : Nat) (v : VS) (i : Int) (s : Int) (o3 : Option PV) (o4 : Option PV), XI v → (0 ≤ i ∧ i ≤ 300) → (0 ≤ s ∧ s < 300) → (300 < i + f) → (∀ qx3 : Option PV, ∀ qx4 : Option PV, XI ((cl_fillChart_67 f v i s).2) → (0 ≤ (cl_fillChart_67 f v i s).1 ∧ (cl_fillChart_67 f v i s).1 ≤ 300) → WV X d 85 125 [some (.inr (.inr (some 0))), some (.inl ((cl_fillChart_67 f v i s).1)), some (.inl s), qx3, qx4] [] b (cl_fillChart_67 f v i s).2 Q) → WV X d 85 67 [some (.inr (.inr (some 0))), some (.inl i), some (.inl s), o3, o4] [] b v Q := by
  intro f
  induction f with
  | zero =>
    intro v i s o3 o4 hX hi_0 hi_1 hf hK
    exfalso
    omega
  | succ f ih =>
    intro v i s o3 o4 hX hi_0 hi_1 hf hK
    rw [cl_fillChart_67] at hK
    refine r_ex 4 (pc' := 75) (lo' := [some (.inr (.inr (some 0))), some (.inl i), some (.inl s), o3, o4]) (st' := [.inl (v 79 4), .inl i]) rfl ?_
    have hb_7 : 0 ≤ (v 79 4) ∧ (v 79 4) ≤ 300 := hX 79 4
    refine n_ic_ge (pc0 := 75) (len := 3) (t := 125) rfl (by first | assumption | omega | (unfold R32 at *; omega) | (unfold R64 at *; omega) | (simp only [R32, R64] at *; omega)) (by first | assumption | omega | (unfold R32 at *; omega) | (unfold R64 at *; omega) | (simp only [R32, R64] at *; omega)) (fun h_75 => ?_) (fun h_75 => ?_)
    · show WV _ _ _ 125 _ _ _ _ _
      rw [if_neg h_75] at hK
      exact hK _ _ hX (by first | assumption | omega | (unfold R32 at *; omega) | (unfold R64 at *; omega) | (simp only [R32, R64] at *; omega))
    · show WV _ _ _ 78 _ _ _ _ _
      rw [if_pos h_75] at hK
      refine r_ex 4 (pc' := 86) (lo' := [some (.inr (.inr (some 0))), some (.inl i), some (.inl s), o3, o4]) (st' := [.inl i, .inr (.inr (some 80))]) rfl ?_
      refine r_iald2 (j := 0) (x := (v 80 ((i).toNat))) (pc' := 87) (pc0 := 86) (len := 1) rfl (s_80 _) (by first | assumption | omega | (unfold R32 at *; omega) | (unfold R64 at *; omega) | (simp only [R32, R64] at *; omega)) (by decide) rfl rfl ?_
      have hb_8 : 0 ≤ (v 80 ((i).toNat)) ∧ (v 80 ((i).toNat)) ≤ 299 := hX 80 ((i).toNat)
      refine r_ex 1 (pc' := 88) (lo' := [some (.inr (.inr (some 0))), some (.inl i), some (.inl s), o3, o4]) (st' := [.inl s, .inl (v 80 ((i).toNat))]) rfl ?_
      refine n_ic_ne (pc0 := 88) (len := 3) (t := 125) rfl (by first | assumption | omega | (unfold R32 at *; omega) | (unfold R64 at *; omega) | (simp only [R32, R64] at *; omega)) (by first | assumption | omega | (unfold R32 at *; omega) | (unfold R64 at *; omega) | (simp only [R32, R64] at *; omega)) (fun h_88 => ?_) (fun h_88 => ?_)
      · show WV _ _ _ 125 _ _ _ _ _
        rw [if_neg h_88] at hK
        exact hK _ _ hX (by first | assumption | omega | (unfold R32 at *; omega) | (unfold R64 at *; omega) | (simp only [R32, R64] at *; omega))
      · show WV _ _ _ 91 _ _ _ _ _
        rw [if_pos h_88] at hK
        refine r_ex 9 (pc' := 107) (lo' := [some (.inr (.inr (some 0))), some (.inl i), some (.inl s), o3, o4]) (st' := [.inl i, .inr (.inr (some 81)), .inl (s * 9), .inr (.inr (some 105))]) rfl ?_
        refine r_iald2 (j := 0) (x := (v 81 ((i).toNat))) (pc' := 108) (pc0 := 107) (len := 1) rfl (s_81 _) (by first | assumption | omega | (unfold R32 at *; omega) | (unfold R64 at *; omega) | (simp only [R32, R64] at *; omega)) (by decide) rfl rfl ?_
        have hb_9 : 0 ≤ (v 81 ((i).toNat)) ∧ (v 81 ((i).toNat)) ≤ 8 := hX 81 ((i).toNat)
        refine r_ex 5 (pc' := 117) (lo' := [some (.inr (.inr (some 0))), some (.inl i), some (.inl s), o3, o4]) (st' := [.inl i, .inr (.inr (some 82)), .inl ((s * 9) + (v 81 ((i).toNat))), .inr (.inr (some 105))]) rfl ?_
        refine r_iald2 (j := 0) (x := (v 82 ((i).toNat))) (pc' := 118) (pc0 := 117) (len := 1) rfl (s_82 _) (by first | assumption | omega | (unfold R32 at *; omega) | (unfold R64 at *; omega) | (simp only [R32, R64] at *; omega)) (by decide) rfl rfl ?_
        have hb_10 : 0 ≤ (v 82 ((i).toNat)) ∧ (v 82 ((i).toNat)) ≤ 99 := hX 82 ((i).toNat)
        refine r_iast2 (pc' := 119) (pc0 := 118) (len := 1) rfl (s_105 _) (by first | assumption | omega | (unfold R32 at *; omega) | (unfold R64 at *; omega) | (simp only [R32, R64] at *; omega)) (by decide) rfl ?_
        have hX_11 : XI (v2 v 105 ((((s * 9) + (v 81 ((i).toNat)))).toNat) (v 82 ((i).toNat))) := XI.put hX (show 0 ≤ (v 82 ((i).toNat)) ∧ (v 82 ((i).toNat)) ≤ 99 from (by first | assumption | omega | (unfold R32 at *; omega) | (unfold R64 at *; omega) | (simp only [R32, R64] at *; omega)))
        refine r_ex 2 (pc' := 67) (lo' := [some (.inr (.inr (some 0))), some (.inl (i + 1)), some (.inl s), o3, o4]) (st' := []) rfl ?_
        refine ih (v2 v 105 ((((s * 9) + (v 81 ((i).toNat)))).toNat) (v 82 ((i).toNat))) (i + 1) s _ _ hX_11 (by first | assumption | omega | (unfold R32 at *; omega) | (unfold R64 at *; omega) | (simp only [R32, R64] at *; omega)) (by first | assumption | omega | (unfold R32 at *; omega) | (unfold R64 at *; omega) | (simp only [R32, R64] at *; omega)) (by first | assumption | omega | (unfold R32 at *; omega) | (unfold R64 at *; omega) | (simp only [R32, R64] at *; omega)) hK

theorem of_cl_fillChart_67 {rk : Nat} (hk : (rk < 105 ∨ 105 < rk)) : ∀ (f : Nat) {v : VS} {i : Int} {s : Int}, (cl_fillChart_67 f v i s).2 rk = v rk := by
  intro f
  induction f with
  | zero => intro v i s; rfl
  | succ f ih =>
    intro v i s
    rw [cl_fillChart_67]
    by_cases hc_ : i < (v 79 4)
    · rw [if_pos hc_]
      by_cases hc_ : (v 80 ((i).toNat)) = s
      · rw [if_pos hc_]
        all_goals (rw [ih, v2_row (by omega)])
      · rw [if_neg hc_]
        all_goals (show v rk = _)
        all_goals rfl
    · rw [if_neg hc_]
      all_goals (show v rk = _)
      all_goals rfl
theorem o_cl_fillChart_67 {rk : Nat} {f : Nat} {v : VS} {i : Int} {s : Int} (hk : (rk < 105 ∨ 105 < rk)) : (cl_fillChart_67 f v i s).2 rk = v rk := of_cl_fillChart_67 hk f

theorem l_cl_fillChart_4 {X : PX} {d b : Nat} {Q : Option PV → Nat → VS → Prop}  : ∀ (f : Nat) (v : VS) (i : Int) (s : Int) (o3 : Option PV) (o4 : Option PV), XI v → (0 ≤ i ∧ i ≤ 300) → (0 ≤ s ∧ s ≤ 300) → (300 < s + f) → (XI (cl_fillChart_4 f v i s) → Q none b (cl_fillChart_4 f v i s)) → WV X d 85 4 [some (.inr (.inr (some 0))), some (.inl i), some (.inl s), o3, o4] [] b v Q := by
  intro f
  induction f with
  | zero =>
    intro v i s o3 o4 hX hi_0 hi_1 hf hQ
    exfalso
    omega
  | succ f ih =>
    intro v i s o3 o4 hX hi_0 hi_1 hf hQ
    rw [cl_fillChart_4] at hQ
    refine r_ex 4 (pc' := 12) (lo' := [some (.inr (.inr (some 0))), some (.inl i), some (.inl s), o3, o4]) (st' := [.inl (v 33 1), .inl s]) rfl ?_
    have hb_1 : 0 ≤ (v 33 1) ∧ (v 33 1) ≤ 300 := hX 33 1
    refine n_ic_ge (pc0 := 12) (len := 3) (t := 131) rfl (by first | assumption | omega | (unfold R32 at *; omega) | (unfold R64 at *; omega) | (simp only [R32, R64] at *; omega)) (by first | assumption | omega | (unfold R32 at *; omega) | (unfold R64 at *; omega) | (simp only [R32, R64] at *; omega)) (fun h_12 => ?_) (fun h_12 => ?_)
    · show WV _ _ _ 131 _ _ _ _ _
      rw [if_neg h_12] at hQ
      refine r_ret (rr := none) (I := .return_) (pc0 := 131) (len := 1) rfl rfl ?_
      exact hQ hX 
    · show WV _ _ _ 15 _ _ _ _ _
      rw [if_pos h_12] at hQ
      refine r_ex 2 (pc' := 17) (lo' := [some (.inr (.inr (some 0))), some (.inl i), some (.inl s), some (.inl 0), o4]) (st' := []) rfl ?_
      refine l_cl_fillChart_17 10 v i s 0 _ hX (by first | assumption | omega | (unfold R32 at *; omega) | (unfold R64 at *; omega) | (simp only [R32, R64] at *; omega)) (by first | assumption | omega | (unfold R32 at *; omega) | (unfold R64 at *; omega) | (simp only [R32, R64] at *; omega)) (by first | assumption | omega | (unfold R32 at *; omega) | (unfold R64 at *; omega) | (simp only [R32, R64] at *; omega)) (by first | assumption | omega | (unfold R32 at *; omega) | (unfold R64 at *; omega) | (simp only [R32, R64] at *; omega)) (fun o3_6 o4_6 hX_6  => ?_)
      show WV _ _ _ 67 _ _ _ _ _
      refine l_cl_fillChart_67 301 (cl_fillChart_17 10 v i s 0) i s _ _ hX_6 (by first | assumption | omega | (unfold R32 at *; omega) | (unfold R64 at *; omega) | (simp only [R32, R64] at *; omega)) (by first | assumption | omega | (unfold R32 at *; omega) | (unfold R64 at *; omega) | (simp only [R32, R64] at *; omega)) (by first | assumption | omega | (unfold R32 at *; omega) | (unfold R64 at *; omega) | (simp only [R32, R64] at *; omega)) (fun o3_12 o4_12 hX_12 hv_12_0 => ?_)
      show WV _ _ _ 125 _ _ _ _ _
      refine r_ex 2 (pc' := 4) (lo' := [some (.inr (.inr (some 0))), some (.inl ((cl_fillChart_67 301 (cl_fillChart_17 10 v i s 0) i s).1)), some (.inl (s + 1)), o3_12, o4_12]) (st' := []) rfl ?_
      refine ih ((cl_fillChart_67 301 (cl_fillChart_17 10 v i s 0) i s).2) ((cl_fillChart_67 301 (cl_fillChart_17 10 v i s 0) i s).1) (s + 1) _ _ hX_12 (by first | assumption | omega | (unfold R32 at *; omega) | (unfold R64 at *; omega) | (simp only [R32, R64] at *; omega)) (by first | assumption | omega | (unfold R32 at *; omega) | (unfold R64 at *; omega) | (simp only [R32, R64] at *; omega)) (by first | assumption | omega | (unfold R32 at *; omega) | (unfold R64 at *; omega) | (simp only [R32, R64] at *; omega)) hQ

theorem of_cl_fillChart_4 {rk : Nat} (hk : (rk < 105 ∨ 105 < rk)) : ∀ (f : Nat) {v : VS} {i : Int} {s : Int}, (cl_fillChart_4 f v i s) rk = v rk := by
  intro f
  induction f with
  | zero => intro v i s; rfl
  | succ f ih =>
    intro v i s
    rw [cl_fillChart_4]
    by_cases hc_ : s < (v 33 1)
    · rw [if_pos hc_]
      all_goals (rw [ih, o_cl_fillChart_67 (by omega), o_cl_fillChart_17 (by omega)])
    · rw [if_neg hc_]
      all_goals (show v rk = _)
      all_goals rfl
theorem o_cl_fillChart_4 {rk : Nat} {f : Nat} {v : VS} {i : Int} {s : Int} (hk : (rk < 105 ∨ 105 < rk)) : (cl_fillChart_4 f v i s) rk = v rk := of_cl_fillChart_4 hk f

theorem w_cl_fillChart {X : PX} {d b : Nat} {v : VS}  (hX : XI v)  {Q : Option PV → Nat → VS → Prop} (hQ : XI (cl_fillChart v) → Q none b (cl_fillChart v)) : WV X d 85 0 [some (.inr (.inr (some 0))), none, none, none, none] [] b v Q := by
  rw [cl_fillChart] at hQ
  refine r_ex 4 (pc' := 4) (lo' := [some (.inr (.inr (some 0))), some (.inl 0), some (.inl 0), none, none]) (st' := []) rfl ?_
  exact l_cl_fillChart_4 301 v 0 0 _ _ hX (by first | assumption | omega | (unfold R32 at *; omega) | (unfold R64 at *; omega) | (simp only [R32, R64] at *; omega)) (by first | assumption | omega | (unfold R32 at *; omega) | (unfold R64 at *; omega) | (simp only [R32, R64] at *; omega)) (by first | assumption | omega | (unfold R32 at *; omega) | (unfold R64 at *; omega) | (simp only [R32, R64] at *; omega)) hQ

theorem e_cl_fillChart {X : PX} {d b : Nat} {v : VS}  (hX : XI v)  : EvV X d 85 [.inr (.inr (some 0))] b v none b (cl_fillChart v) := EvV.of (w_cl_fillChart hX  (fun _ => ⟨rfl, rfl, rfl⟩))

theorem i_cl_fillChart {v : VS}  (hX : XI v)  : XI (cl_fillChart v) := by
  have q : WV (0, fun _ => 0, none) 0 85 0 [some (.inr (.inr (some 0))), none, none, none, none] [] 1 v (fun _ _ _ => XI (cl_fillChart v)) := w_cl_fillChart (X := (0, fun _ => 0, none)) (d := 0) (b := 1) hX  (fun q => q)
  obtain ⟨_, _, _, _, _, _, _, q⟩ := q
  exact q

theorem o_cl_fillChart {rk : Nat} {v : VS}  (hk : (rk < 105 ∨ 105 < rk)) : (cl_fillChart v ) rk = v rk := by
  unfold cl_fillChart
  all_goals (rw [o_cl_fillChart_4 (by omega)])

def cl_asItIs (v : VS)  : VS :=
  (if (v 0 10) = 0 then v else (v2 (cl_fillChart (xplay 79 (cl_asTold v))) 0 10 0))
theorem w_cl_asItIs {X : PX} {d b : Nat} {v : VS}  (hX : XI v)  {Q : Option PV → Nat → VS → Prop} (hQ : XI (cl_asItIs v) → Q (some (.inr (.inr (some 79)))) b (cl_asItIs v)) : WV X (d + 1 + 1 + 1 + 1 + 1 + 1) 72 0 [some (.inr (.inr (some 0)))] [] b v Q := by
  rw [cl_asItIs] at hQ
  refine r_ex 2 (pc' := 4) (lo' := [some (.inr (.inr (some 0)))]) (st' := [.inl (v 0 10)]) rfl ?_
  have hb_1 : 0 ≤ (v 0 10) ∧ (v 0 10) ≤ 1 := hX 0 10
  refine n_if_eq (pc0 := 4) (len := 3) (t := 34) rfl (by first | assumption | omega | (unfold R32 at *; omega) | (unfold R64 at *; omega) | (simp only [R32, R64] at *; omega)) (fun h_4 => ?_) (fun h_4 => ?_)
  · show WV _ _ _ 34 _ _ _ _ _
    rw [if_pos h_4] at hQ
    refine r_ex 2 (pc' := 38) (lo' := [some (.inr (.inr (some 0)))]) (st' := [.inr (.inr (some 79))]) rfl ?_
    refine r_ret (rr := some (.inr (.inr (some 79)))) (I := .areturn) (pc0 := 38) (len := 1) rfl rfl ?_
    exact hQ hX 
  · show WV _ _ _ 7 _ _ _ _ _
    rw [if_neg h_4] at hQ
    refine r_ex 4 (pc' := 15) (lo' := [some (.inr (.inr (some 0)))]) (st' := [.inr (.inr (some 33)), .inr (.inr (some 67))]) rfl ?_
    refine r_call (m := 73) (args := [.inr (.inr (some 67)), .inr (.inr (some 33))]) (n' := 72) (pc' := 18) (lo' := [some (.inr (.inr (some 0)))]) (st' := []) (I := .invokevirtual 73) (pc0 := 15) (len := 3) rfl rfl rfl (e_cl_asTold hX) ?_
    show WV _ _ _ 18 _ [] _ (cl_asTold v) _
    have hX_2 : XI (cl_asTold v) := i_cl_asTold (v := v) hX
    refine r_ex 2 (pc' := 22) (lo' := [some (.inr (.inr (some 0)))]) (st' := [.inr (.inr (some 79))]) rfl ?_
    refine r_call (m := 74) (args := [.inr (.inr (some 79))]) (n' := 72) (pc' := 25) (lo' := [some (.inr (.inr (some 0)))]) (st' := []) (I := .invokevirtual 74) (pc0 := 22) (len := 3) rfl rfl rfl (x_play79 hX_2) ?_
    show WV _ _ _ 25 _ [] _ (xplay 79 (cl_asTold v)) _
    have hX_3 : XI (xplay 79 (cl_asTold v)) := XI_play79 (v := (cl_asTold v)) hX_2
    refine r_ex 1 (pc' := 26) (lo' := [some (.inr (.inr (some 0)))]) (st' := [.inr (.inr (some 0))]) rfl ?_
    refine r_call (m := 85) (args := [.inr (.inr (some 0))]) (n' := 72) (pc' := 29) (lo' := [some (.inr (.inr (some 0)))]) (st' := []) (I := .invokevirtual 85) (pc0 := 26) (len := 3) rfl rfl rfl (e_cl_fillChart hX_3) ?_
    show WV _ _ _ 29 _ [] _ (cl_fillChart (xplay 79 (cl_asTold v))) _
    have hX_4 : XI (cl_fillChart (xplay 79 (cl_asTold v))) := i_cl_fillChart (v := (xplay 79 (cl_asTold v))) hX_3
    refine r_ex 2 (pc' := 31) (lo' := [some (.inr (.inr (some 0)))]) (st' := [.inl 0, .inr (.inr (some 0))]) rfl ?_
    refine r_puti2 (j := 10) (pc' := 34) (pc0 := 31) (len := 3) rfl (s_0 _) rfl rfl rfl (Or.inr rfl) rfl rfl ?_
    have hX_5 : XI (v2 (cl_fillChart (xplay 79 (cl_asTold v))) 0 10 0) := XI.put hX_4 (show 0 ≤ 0 ∧ 0 ≤ 1 from (by first | assumption | omega | (unfold R32 at *; omega) | (unfold R64 at *; omega) | (simp only [R32, R64] at *; omega)))
    refine r_ex 2 (pc' := 38) (lo' := [some (.inr (.inr (some 0)))]) (st' := [.inr (.inr (some 79))]) rfl ?_
    refine r_ret (rr := some (.inr (.inr (some 79)))) (I := .areturn) (pc0 := 38) (len := 1) rfl rfl ?_
    exact hQ hX_5 

theorem e_cl_asItIs {X : PX} {d b : Nat} {v : VS}  (hX : XI v)  : EvV X (d + 1 + 1 + 1 + 1 + 1 + 1) 72 [.inr (.inr (some 0))] b v (some (.inr (.inr (some 79)))) b (cl_asItIs v) := EvV.of (w_cl_asItIs hX  (fun _ => ⟨rfl, rfl, rfl⟩))

theorem i_cl_asItIs {v : VS}  (hX : XI v)  : XI (cl_asItIs v) := by
  have q : WV (0, fun _ => 0, none) (0 + 1 + 1 + 1 + 1 + 1 + 1) 72 0 [some (.inr (.inr (some 0)))] [] 1 v (fun _ _ _ => XI (cl_asItIs v)) := w_cl_asItIs (X := (0, fun _ => 0, none)) (d := 0) (b := 1) hX  (fun q => q)
  obtain ⟨_, _, _, _, _, _, _, q⟩ := q
  exact q

theorem o_cl_asItIs {rk : Nat} {v : VS}  (hk : (rk < 0 ∨ 0 < rk) ∧ (rk < 67 ∨ 90 < rk) ∧ (rk < 105 ∨ 105 < rk)) : (cl_asItIs v ) rk = v rk := by
  unfold cl_asItIs
  by_cases hc_ : (v 0 10) = 0
  · rw [if_pos hc_]
    all_goals (show v rk = _)
    all_goals rfl
  · rw [if_neg hc_]
    all_goals (show (v2 (cl_fillChart (xplay 79 (cl_asTold v))) 0 10 0) rk = _)
    all_goals (rw [v2_row (by omega), o_cl_fillChart (by omega), o_xplay79 (by omega), o_cl_asTold (by omega)])

def cl_struckLast (v : VS) (c : Int) (s : Int) : Int :=
  (if 0 ≤ c ∧ c < v 33 0 then (if 0 ≤ s ∧ s < v 33 1 then (v 105 ((((s * 9) + c)).toNat)) else 0) else 0)
theorem w_cl_struckLast {X : PX} {d b : Nat} {v : VS} {c : Int} {s : Int} (hX : XI v) (hp_a : R32 c) (hp_b : R32 s) {Q : Option PV → Nat → VS → Prop} (hQ : (0 ≤ (cl_struckLast v c s) ∧ (cl_struckLast v c s) ≤ 99) → Q (some (.inl (cl_struckLast v c s))) b v) : WV X (d + 1) 90 0 [some (.inr (.inr (some 0))), some (.inl c), some (.inl s)] [] b v Q := by
  rw [cl_struckLast] at hQ
  refine r_ex 2 (pc' := 2) (lo' := [some (.inr (.inr (some 0))), some (.inl c), some (.inl s)]) (st' := [.inl c, .inr (.inr (some 0))]) rfl ?_
  have hp_1 : R32 c := (by first | assumption | omega | (unfold R32 at *; omega) | (unfold R64 at *; omega) | (simp only [R32, R64] at *; omega))
  have hb_2 : 0 ≤ v 33 0 ∧ v 33 0 ≤ 9 := hX 33 0
  refine r_callb (P := 0 ≤ c ∧ c < v 33 0) (m := 62) (args := [.inr (.inr (some 0)), .inl c]) (n' := 90) (pc' := 5) (lo' := [some (.inr (.inr (some 0))), some (.inl c), some (.inl s)]) (st' := []) (I := .invokevirtual 62) (pc0 := 2) (len := 3) rfl rfl rfl (e_cl_isChurch hX hp_1) (fun h_2 => ?_) (fun h_2 => ?_)
  · show WV _ _ _ 5 _ _ _ _ _
    rw [if_pos h_2] at hQ
    refine r_ex 3 (pc' := 10) (lo' := [some (.inr (.inr (some 0))), some (.inl c), some (.inl s)]) (st' := [.inl s, .inr (.inr (some 0))]) rfl ?_
    have hp_3 : R32 s := (by first | assumption | omega | (unfold R32 at *; omega) | (unfold R64 at *; omega) | (simp only [R32, R64] at *; omega))
    have hb_4 : 0 ≤ v 33 1 ∧ v 33 1 ≤ 300 := hX 33 1
    refine r_callb (P := 0 ≤ s ∧ s < v 33 1) (m := 67) (args := [.inr (.inr (some 0)), .inl s]) (n' := 90) (pc' := 13) (lo' := [some (.inr (.inr (some 0))), some (.inl c), some (.inl s)]) (st' := []) (I := .invokevirtual 67) (pc0 := 10) (len := 3) rfl rfl rfl (e_cl_isSecond hX hp_3) (fun h_10 => ?_) (fun h_10 => ?_)
    · show WV _ _ _ 13 _ _ _ _ _
      rw [if_pos h_10] at hQ
      refine r_ex 8 (pc' := 26) (lo' := [some (.inr (.inr (some 0))), some (.inl c), some (.inl s)]) (st' := [.inl ((s * 9) + c), .inr (.inr (some 105))]) rfl ?_
      refine r_iald2 (j := 0) (x := (v 105 ((((s * 9) + c)).toNat))) (pc' := 27) (pc0 := 26) (len := 1) rfl (s_105 _) (by first | assumption | omega | (unfold R32 at *; omega) | (unfold R64 at *; omega) | (simp only [R32, R64] at *; omega)) (by decide) rfl rfl ?_
      have hb_5 : 0 ≤ (v 105 ((((s * 9) + c)).toNat)) ∧ (v 105 ((((s * 9) + c)).toNat)) ≤ 99 := hX 105 ((((s * 9) + c)).toNat)
      refine r_ex 1 (pc' := 31) (lo' := [some (.inr (.inr (some 0))), some (.inl c), some (.inl s)]) (st' := [.inl (v 105 ((((s * 9) + c)).toNat))]) rfl ?_
      refine r_ret (rr := some (.inl (v 105 ((((s * 9) + c)).toNat)))) (I := .ireturn) (pc0 := 31) (len := 1) rfl rfl ?_
      exact hQ (by first | assumption | omega | (unfold R32 at *; omega) | (unfold R64 at *; omega) | (simp only [R32, R64] at *; omega))
    · show WV _ _ _ 13 _ _ _ _ _
      rw [if_neg h_10] at hQ
      refine r_ex 2 (pc' := 31) (lo' := [some (.inr (.inr (some 0))), some (.inl c), some (.inl s)]) (st' := [.inl 0]) rfl ?_
      refine r_ret (rr := some (.inl 0)) (I := .ireturn) (pc0 := 31) (len := 1) rfl rfl ?_
      exact hQ (by first | assumption | omega | (unfold R32 at *; omega) | (unfold R64 at *; omega) | (simp only [R32, R64] at *; omega))
  · show WV _ _ _ 5 _ _ _ _ _
    rw [if_neg h_2] at hQ
    refine r_ex 2 (pc' := 31) (lo' := [some (.inr (.inr (some 0))), some (.inl c), some (.inl s)]) (st' := [.inl 0]) rfl ?_
    refine r_ret (rr := some (.inl 0)) (I := .ireturn) (pc0 := 31) (len := 1) rfl rfl ?_
    exact hQ (by first | assumption | omega | (unfold R32 at *; omega) | (unfold R64 at *; omega) | (simp only [R32, R64] at *; omega))

theorem e_cl_struckLast {X : PX} {d b : Nat} {v : VS} {c : Int} {s : Int} (hX : XI v) (hp_a : R32 c) (hp_b : R32 s) : EvV X (d + 1) 90 [.inr (.inr (some 0)), .inl c, .inl s] b v (some (.inl (cl_struckLast v c s))) b v := EvV.of (w_cl_struckLast hX hp_a hp_b (fun _ => ⟨rfl, rfl, rfl⟩))

theorem n_cl_struckLast {v : VS} {c : Int} {s : Int} (hX : XI v) (hp_a : R32 c) (hp_b : R32 s) : 0 ≤ (cl_struckLast v c s) ∧ (cl_struckLast v c s) ≤ 99 := by
  have q : WV (0, fun _ => 0, none) (0 + 1) 90 0 [some (.inr (.inr (some 0))), some (.inl c), some (.inl s)] [] 1 v (fun _ _ _ => 0 ≤ (cl_struckLast v c s) ∧ (cl_struckLast v c s) ≤ 99) := w_cl_struckLast (X := (0, fun _ => 0, none)) (d := 0) (b := 1) hX hp_a hp_b (fun q => q)
  obtain ⟨_, _, _, _, _, _, _, q⟩ := q
  exact q
