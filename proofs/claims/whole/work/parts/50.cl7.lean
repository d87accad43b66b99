/-! the search -/
def cl_bitCount (v : VS) (s : Int) : Int :=
  (pm_and (((pm_and (((pm_and (s - (pm_and (pm_ushr s 1) 1431655765)) 858993459) + (pm_and (pm_ushr (s - (pm_and (pm_ushr s 1) 1431655765)) 2) 858993459)) + (pm_ushr ((pm_and (s - (pm_and (pm_ushr s 1) 1431655765)) 858993459) + (pm_and (pm_ushr (s - (pm_and (pm_ushr s 1) 1431655765)) 2) 858993459)) 4)) 252645135) + (pm_ushr (pm_and (((pm_and (s - (pm_and (pm_ushr s 1) 1431655765)) 858993459) + (pm_and (pm_ushr (s - (pm_and (pm_ushr s 1) 1431655765)) 2) 858993459)) + (pm_ushr ((pm_and (s - (pm_and (pm_ushr s 1) 1431655765)) 858993459) + (pm_and (pm_ushr (s - (pm_and (pm_ushr s 1) 1431655765)) 2) 858993459)) 4)) 252645135) 8)) + (pm_ushr ((pm_and (((pm_and (s - (pm_and (pm_ushr s 1) 1431655765)) 858993459) + (pm_and (pm_ushr (s - (pm_and (pm_ushr s 1) 1431655765)) 2) 858993459)) + (pm_ushr ((pm_and (s - (pm_and (pm_ushr s 1) 1431655765)) 858993459) + (pm_and (pm_ushr (s - (pm_and (pm_ushr s 1) 1431655765)) 2) 858993459)) 4)) 252645135) + (pm_ushr (pm_and (((pm_and (s - (pm_and (pm_ushr s 1) 1431655765)) 858993459) + (pm_and (pm_ushr (s - (pm_and (pm_ushr s 1) 1431655765)) 2) 858993459)) + (pm_ushr ((pm_and (s - (pm_and (pm_ushr s 1) 1431655765)) 858993459) + (pm_and (pm_ushr (s - (pm_and (pm_ushr s 1) 1431655765)) 2) 858993459)) 4)) 252645135) 8)) 16)) 63)
theorem w_cl_bitCount {X : PX} {d b : Nat} {v : VS} {s : Int} (hX : XI v) (hp_a : 0 ≤ s ∧ s < 4096) {Q : Option PV → Nat → VS → Prop} (hQ : Q (some (.inl (cl_bitCount v s))) b v) : WV X d 115 0 [some (.inl s)] [] b v Q := by
  rw [cl_bitCount] at hQ
  refine r_ex 41 (pc' := 52) (lo' := [some (.inl (((pm_and (((pm_and (s - (pm_and (pm_ushr s 1) 1431655765)) 858993459) + (pm_and (pm_ushr (s - (pm_and (pm_ushr s 1) 1431655765)) 2) 858993459)) + (pm_ushr ((pm_and (s - (pm_and (pm_ushr s 1) 1431655765)) 858993459) + (pm_and (pm_ushr (s - (pm_and (pm_ushr s 1) 1431655765)) 2) 858993459)) 4)) 252645135) + (pm_ushr (pm_and (((pm_and (s - (pm_and (pm_ushr s 1) 1431655765)) 858993459) + (pm_and (pm_ushr (s - (pm_and (pm_ushr s 1) 1431655765)) 2) 858993459)) + (pm_ushr ((pm_and (s - (pm_and (pm_ushr s 1) 1431655765)) 858993459) + (pm_and (pm_ushr (s - (pm_and (pm_ushr s 1) 1431655765)) 2) 858993459)) 4)) 252645135) 8)) + (pm_ushr ((pm_and (((pm_and (s - (pm_and (pm_ushr s 1) 1431655765)) 858993459) + (pm_and (pm_ushr (s - (pm_and (pm_ushr s 1) 1431655765)) 2) 858993459)) + (pm_ushr ((pm_and (s - (pm_and (pm_ushr s 1) 1431655765)) 858993459) + (pm_and (pm_ushr (s - (pm_and (pm_ushr s 1) 1431655765)) 2) 858993459)) 4)) 252645135) + (pm_ushr (pm_and (((pm_and (s - (pm_and (pm_ushr s 1) 1431655765)) 858993459) + (pm_and (pm_ushr (s - (pm_and (pm_ushr s 1) 1431655765)) 2) 858993459)) + (pm_ushr ((pm_and (s - (pm_and (pm_ushr s 1) 1431655765)) 858993459) + (pm_and (pm_ushr (s - (pm_and (pm_ushr s 1) 1431655765)) 2) 858993459)) 4)) 252645135) 8)) 16)))]) (st' := [.inl (pm_and (((pm_and (((pm_and (s - (pm_and (pm_ushr s 1) 1431655765)) 858993459) + (pm_and (pm_ushr (s - (pm_and (pm_ushr s 1) 1431655765)) 2) 858993459)) + (pm_ushr ((pm_and (s - (pm_and (pm_ushr s 1) 1431655765)) 858993459) + (pm_and (pm_ushr (s - (pm_and (pm_ushr s 1) 1431655765)) 2) 858993459)) 4)) 252645135) + (pm_ushr (pm_and (((pm_and (s - (pm_and (pm_ushr s 1) 1431655765)) 858993459) + (pm_and (pm_ushr (s - (pm_and (pm_ushr s 1) 1431655765)) 2) 858993459)) + (pm_ushr ((pm_and (s - (pm_and (pm_ushr s 1) 1431655765)) 858993459) + (pm_and (pm_ushr (s - (pm_and (pm_ushr s 1) 1431655765)) 2) 858993459)) 4)) 252645135) 8)) + (pm_ushr ((pm_and (((pm_and (s - (pm_and (pm_ushr s 1) 1431655765)) 858993459) + (pm_and (pm_ushr (s - (pm_and (pm_ushr s 1) 1431655765)) 2) 858993459)) + (pm_ushr ((pm_and (s - (pm_and (pm_ushr s 1) 1431655765)) 858993459) + (pm_and (pm_ushr (s - (pm_and (pm_ushr s 1) 1431655765)) 2) 858993459)) 4)) 252645135) + (pm_ushr (pm_and (((pm_and (s - (pm_and (pm_ushr s 1) 1431655765)) 858993459) + (pm_and (pm_ushr (s - (pm_and (pm_ushr s 1) 1431655765)) 2) 858993459)) + (pm_ushr ((pm_and (s - (pm_and (pm_ushr s 1) 1431655765)) 858993459) + (pm_and (pm_ushr (s - (pm_and (pm_ushr s 1) 1431655765)) 2) 858993459)) 4)) 252645135) 8)) 16)) 63)]) rfl ?_
  refine r_ret (rr := some (.inl (pm_and (((pm_and (((pm_and (s - (pm_and (pm_ushr s 1) 1431655765)) 858993459) + (pm_and (pm_ushr (s - (pm_and (pm_ushr s 1) 1431655765)) 2) 858993459)) + (pm_ushr ((pm_and (s - (pm_and (pm_ushr s 1) 1431655765)) 858993459) + (pm_and (pm_ushr (s - (pm_and (pm_ushr s 1) 1431655765)) 2) 858993459)) 4)) 252645135) + (pm_ushr (pm_and (((pm_and (s - (pm_and (pm_ushr s 1) 1431655765)) 858993459) + (pm_and (pm_ushr (s - (pm_and (pm_ushr s 1) 1431655765)) 2) 858993459)) + (pm_ushr ((pm_and (s - (pm_and (pm_ushr s 1) 1431655765)) 858993459) + (pm_and (pm_ushr (s - (pm_and (pm_ushr s 1) 1431655765)) 2) 858993459)) 4)) 252645135) 8)) + (pm_ushr ((pm_and (((pm_and (s - (pm_and (pm_ushr s 1) 1431655765)) 858993459) + (pm_and (pm_ushr (s - (pm_and (pm_ushr s 1) 1431655765)) 2) 858993459)) + (pm_ushr ((pm_and (s - (pm_and (pm_ushr s 1) 1431655765)) 858993459) + (pm_and (pm_ushr (s - (pm_and (pm_ushr s 1) 1431655765)) 2) 858993459)) 4)) 252645135) + (pm_ushr (pm_and (((pm_and (s - (pm_and (pm_ushr s 1) 1431655765)) 858993459) + (pm_and (pm_ushr (s - (pm_and (pm_ushr s 1) 1431655765)) 2) 858993459)) + (pm_ushr ((pm_and (s - (pm_and (pm_ushr s 1) 1431655765)) 858993459) + (pm_and (pm_ushr (s - (pm_and (pm_ushr s 1) 1431655765)) 2) 858993459)) 4)) 252645135) 8)) 16)) 63))) (I := .ireturn) (pc0 := 52) (len := 1) rfl rfl ?_
  exact hQ 

theorem e_cl_bitCount {X : PX} {d b : Nat} {v : VS} {s : Int} (hX : XI v) (hp_a : 0 ≤ s ∧ s < 4096) : EvV X d 115 [.inl s] b v (some (.inl (cl_bitCount v s))) b v := EvV.of (w_cl_bitCount hX hp_a (⟨rfl, rfl, rfl⟩))

def popc (s : Int) : Int := bt s 0 + bt s 1 + bt s 2 + bt s 3 + bt s 4 + bt s 5 + bt s 6 + bt s 7 + bt s 8 + bt s 9 + bt s 10 + bt s 11
theorem popc_ok : (List.range 4096).all (fun x => decide (cl_bitCount (fun _ _ => 0) (x : Int) = popc (x : Int))) = true := by decide +kernel
theorem popc_eq {v : VS} {s : Int} (h : 0 ≤ s ∧ s < 4096) : cl_bitCount v s = popc s := by
  obtain ⟨n, rfl⟩ := Int.eq_ofNat_of_zero_le h.1
  have q := List.all_eq_true.mp popc_ok n (List.mem_range.mpr (by omega))
  exact of_decide_eq_true q
theorem popc_in (s : Int) : 0 ≤ popc s ∧ popc s ≤ 12 := by
  unfold popc
  have h0 := bt01 s 0
  have h1 := bt01 s 1
  have h2 := bt01 s 2
  have h3 := bt01 s 3
  have h4 := bt01 s 4
  have h5 := bt01 s 5
  have h6 := bt01 s 6
  have h7 := bt01 s 7
  have h8 := bt01 s 8
  have h9 := bt01 s 9
  have h10 := bt01 s 10
  have h11 := bt01 s 11
  omega
theorem n_cl_bitCount {v : VS} {s : Int} (hX : XI v) (h : 0 ≤ s ∧ s < 4096) : 0 ≤ cl_bitCount v s ∧ cl_bitCount v s ≤ 12 := by
  rw [popc_eq h]
  exact popc_in s

def cl_setAnswer (v : VS) (s : Int) (w : Int) : Int :=
  (if s = (-1) then s else (if w = 1 then s else (cl_bitCount v s)))
theorem w_cl_setAnswer {X : PX} {d b : Nat} {v : VS} {s : Int} {w : Int} (hX : XI v) (hp_a : -1 ≤ s ∧ s < 4096) (hp_b : R32 w) {Q : Option PV → Nat → VS → Prop} (hQ : Q (some (.inl (cl_setAnswer v s w))) b v) : WV X (d + 1) 117 0 [some (.inl s), some (.inl w)] [] b v Q := by
  rw [cl_setAnswer] at hQ
  refine r_ex 2 (pc' := 2) (lo' := [some (.inl s), some (.inl w)]) (st' := [.inl (-1), .inl s]) rfl ?_
  refine n_ic_eq (pc0 := 2) (len := 3) (t := 10) rfl (by first | assumption | omega | (unfold R32 at *; omega) | (unfold R64 at *; omega) | (simp only [R32, R64] at *; omega)) (by first | assumption | omega | (unfold R32 at *; omega) | (unfold R64 at *; omega) | (simp only [R32, R64] at *; omega)) (fun h_2 => ?_) (fun h_2 => ?_)
  · show WV _ _ _ 10 _ _ _ _ _
    rw [if_pos h_2] at hQ
    refine r_ex 2 (pc' := 18) (lo' := [some (.inl s), some (.inl w)]) (st' := [.inl s]) rfl ?_
    refine r_ret (rr := some (.inl s)) (I := .ireturn) (pc0 := 18) (len := 1) rfl rfl ?_
    exact hQ 
  · show WV _ _ _ 5 _ _ _ _ _
    rw [if_neg h_2] at hQ
    refine r_ex 2 (pc' := 7) (lo' := [some (.inl s), some (.inl w)]) (st' := [.inl 1, .inl w]) rfl ?_
    refine n_ic_ne (pc0 := 7) (len := 3) (t := 14) rfl (by first | assumption | omega | (unfold R32 at *; omega) | (unfold R64 at *; omega) | (simp only [R32, R64] at *; omega)) (by first | assumption | omega | (unfold R32 at *; omega) | (unfold R64 at *; omega) | (simp only [R32, R64] at *; omega)) (fun h_7 => ?_) (fun h_7 => ?_)
    · show WV _ _ _ 14 _ _ _ _ _
      rw [if_neg h_7] at hQ
      refine r_ex 1 (pc' := 15) (lo' := [some (.inl s), some (.inl w)]) (st' := [.inl s]) rfl ?_
      have hp_1 : 0 ≤ s ∧ s < 4096 := (by first | assumption | omega | (unfold R32 at *; omega) | (unfold R64 at *; omega) | (simp only [R32, R64] at *; omega))
      refine r_call (m := 115) (args := [.inl s]) (n' := 117) (pc' := 18) (lo' := [some (.inl s), some (.inl w)]) (st' := []) (I := .invokestatic 115) (pc0 := 15) (len := 3) rfl rfl rfl (e_cl_bitCount hX hp_1) ?_
      show WV _ _ _ 18 _ [.inl (cl_bitCount v s)] _ _ _
      have hb_2 := n_cl_bitCount (v := v) (s := s) hX hp_1
      refine r_ret (rr := some (.inl (cl_bitCount v s))) (I := .ireturn) (pc0 := 18) (len := 1) rfl rfl ?_
      exact hQ 
    · show WV _ _ _ 10 _ _ _ _ _
      rw [if_pos h_7] at hQ
      refine r_ex 2 (pc' := 18) (lo' := [some (.inl s), some (.inl w)]) (st' := [.inl s]) rfl ?_
      refine r_ret (rr := some (.inl s)) (I := .ireturn) (pc0 := 18) (len := 1) rfl rfl ?_
      exact hQ 

theorem e_cl_setAnswer {X : PX} {d b : Nat} {v : VS} {s : Int} {w : Int} (hX : XI v) (hp_a : -1 ≤ s ∧ s < 4096) (hp_b : R32 w) : EvV X (d + 1) 117 [.inl s, .inl w] b v (some (.inl (cl_setAnswer v s w))) b v := EvV.of (w_cl_setAnswer hX hp_a hp_b (⟨rfl, rfl, rfl⟩))

def cl_rangeCheck (v : VS) (i : Int) (s : Int) (n : Int) : VS :=
  (if n < s then v else (if s < 0 then v else (if i < n then v else v)))
theorem w_cl_rangeCheck {X : PX} {d b : Nat} {v : VS} {i : Int} {s : Int} {n : Int} (hX : XI v) (hp_a : 0 ≤ s ∧ s ≤ n) (hp_b : n ≤ i) (hp_c : R32 i) {Q : Option PV → Nat → VS → Prop} (hQ : XI (cl_rangeCheck v i s n) → Q none b (cl_rangeCheck v i s n)) : WV X d 113 0 [some (.inl i), some (.inl s), some (.inl n)] [] b v Q := by
  rw [cl_rangeCheck] at hQ
  refine r_ex 2 (pc' := 2) (lo' := [some (.inl i), some (.inl s), some (.inl n)]) (st' := [.inl n, .inl s]) rfl ?_
  refine n_ic_le (pc0 := 2) (len := 3) (t := 46) rfl (by first | assumption | omega | (unfold R32 at *; omega) | (unfold R64 at *; omega) | (simp only [R32, R64] at *; omega)) (by first | assumption | omega | (unfold R32 at *; omega) | (unfold R64 at *; omega) | (simp only [R32, R64] at *; omega)) (fun h_2 => ?_) (fun h_2 => ?_)
  · show WV _ _ _ 46 _ _ _ _ _
    rw [if_neg h_2] at hQ
    refine r_ex 1 (pc' := 47) (lo' := [some (.inl i), some (.inl s), some (.inl n)]) (st' := [.inl s]) rfl ?_
    refine n_if_ge (pc0 := 47) (len := 3) (t := 59) rfl (by first | assumption | omega | (unfold R32 at *; omega) | (unfold R64 at *; omega) | (simp only [R32, R64] at *; omega)) (fun h_47 => ?_) (fun h_47 => ?_)
    · show WV _ _ _ 59 _ _ _ _ _
      rw [if_neg h_47] at hQ
      refine r_ex 2 (pc' := 61) (lo' := [some (.inl i), some (.inl s), some (.inl n)]) (st' := [.inl i, .inl n]) rfl ?_
      refine n_ic_le (pc0 := 61) (len := 3) (t := 73) rfl (by first | assumption | omega | (unfold R32 at *; omega) | (unfold R64 at *; omega) | (simp only [R32, R64] at *; omega)) (by first | assumption | omega | (unfold R32 at *; omega) | (unfold R64 at *; omega) | (simp only [R32, R64] at *; omega)) (fun h_61 => ?_) (fun h_61 => ?_)
      · show WV _ _ _ 73 _ _ _ _ _
        rw [if_neg h_61] at hQ
        refine r_ret (rr := none) (I := .return_) (pc0 := 73) (len := 1) rfl rfl ?_
        exact hQ hX 
      · show WV _ _ _ 64 _ _ _ _ _
        rw [if_pos h_61] at hQ
        exact absurd h_61 (by omega)
    · show WV _ _ _ 50 _ _ _ _ _
      rw [if_pos h_47] at hQ
      exact absurd h_47 (by omega)
  · show WV _ _ _ 5 _ _ _ _ _
    rw [if_pos h_2] at hQ
    exact absurd h_2 (by omega)

theorem e_cl_rangeCheck {X : PX} {d b : Nat} {v : VS} {i : Int} {s : Int} {n : Int} (hX : XI v) (hp_a : 0 ≤ s ∧ s ≤ n) (hp_b : n ≤ i) (hp_c : R32 i) : EvV X d 113 [.inl i, .inl s, .inl n] b v none b (cl_rangeCheck v i s n) := EvV.of (w_cl_rangeCheck hX hp_a hp_b hp_c (fun _ => ⟨rfl, rfl, rfl⟩))

theorem i_cl_rangeCheck {v : VS} {i : Int} {s : Int} {n : Int} (hX : XI v) (hp_a : 0 ≤ s ∧ s ≤ n) (hp_b : n ≤ i) (hp_c : R32 i) : XI (cl_rangeCheck v i s n) := by
  have q : WV (0, fun _ => 0, none) 0 113 0 [some (.inl i), some (.inl s), some (.inl n)] [] 1 v (fun _ _ _ => XI (cl_rangeCheck v i s n)) := w_cl_rangeCheck (X := (0, fun _ => 0, none)) (d := 0) (b := 1) hX hp_a hp_b hp_c (fun q => q)
  obtain ⟨_, _, _, _, _, _, _, q⟩ := q
  exact q

theorem o_cl_rangeCheck {rk : Nat} {v : VS} {i : Int} {s : Int} {n : Int}  : (cl_rangeCheck v i s n) rk = v rk := by
  unfold cl_rangeCheck
  by_cases hc_ : n < s
  · rw [if_pos hc_]
    all_goals rfl
  · rw [if_neg hc_]
    by_cases hc_ : s < 0
    · rw [if_pos hc_]
      all_goals rfl
    · rw [if_neg hc_]
      by_cases hc_ : i < n
      · rw [if_pos hc_]
        all_goals rfl
      · rw [if_neg hc_]
        all_goals (show v rk = _)
        all_goals rfl

def cl_fillB_10 : Nat → VS → Int → Int → Int → VS
  | 0, v, n, x, j => v
  | f + 1, v, n, x, j => (if j < n then (cl_fillB_10 f (v2 v 104 ((j).toNat) (w8 x)) n x (j + 1)) else v)
def cl_fillB (v : VS) (i : Int) (n : Int) (x : Int) : VS :=
  (cl_fillB_10 4097 (cl_rangeCheck v 4096 i n) n x i)
theorem l_cl_fillB_10 {X : PX} {d b : Nat} {Q : Option PV → Nat → VS → Prop}  : ∀ (f : Nat) (v : VS) (n : Int) (x : Int) (j : Int) (o1 : Option PV), XI v → (0 ≤ j ∧ j ≤ n) → (n ≤ 4096) → (x = 0) → (n < j + f) → (XI (cl_fillB_10 f v n x j) → Q none b (cl_fillB_10 f v n x j)) → WV X (d + 1) 112 10 [some (.inr (.inr (some 104))), o1, some (.inl n), some (.inl x), some (.inl j)] [] b v Q := by
  intro f
  induction f with
  | zero =>
    intro v n x j o1 hX hi_0 hi_1 hi_2 hf hQ
    exfalso
    omega
  | succ f ih =>
    intro v n x j o1 hX hi_0 hi_1 hi_2 hf hQ
    rw [cl_fillB_10] at hQ
    refine r_ex 2 (pc' := 13) (lo' := [some (.inr (.inr (some 104))), o1, some (.inl n), some (.inl x), some (.inl j)]) (st' := [.inl n, .inl j]) rfl ?_
    refine n_ic_ge (pc0 := 13) (len := 3) (t := 27) rfl (by first | assumption | omega | (unfold R32 at *; omega) | (unfold R64 at *; omega) | (simp only [R32, R64] at *; omega)) (by first | assumption | omega | (unfold R32 at *; omega) | (unfold R64 at *; omega) | (simp only [R32, R64] at *; omega)) (fun h_13 => ?_) (fun h_13 => ?_)
    · show WV _ _ _ 27 _ _ _ _ _
      rw [if_neg h_13] at hQ
      refine r_ret (rr := none) (I := .return_) (pc0 := 27) (len := 1) rfl rfl ?_
      exact hQ hX 
    · show WV _ _ _ 16 _ _ _ _ _
      rw [if_pos h_13] at hQ
      refine r_ex 3 (pc' := 20) (lo' := [some (.inr (.inr (some 104))), o1, some (.inl n), some (.inl x), some (.inl j)]) (st' := [.inl x, .inl j, .inr (.inr (some 104))]) rfl ?_
      refine r_bast2 (pc' := 21) (pc0 := 20) (len := 1) rfl (s_104 _) (by first | assumption | omega | (unfold R32 at *; omega) | (unfold R64 at *; omega) | (simp only [R32, R64] at *; omega)) (by decide) rfl ?_
      have hb_5 := w8_in x
      have hX_6 : XI (v2 v 104 ((j).toNat) (w8 x)) := XI.put hX (show (0 : Int) ≤ w8 x ∧ w8 x ≤ 1 from by unfold w8; omega)
      show WV _ _ _ 21 _ _ _ (v2 v 104 ((j).toNat) (w8 x)) _
      refine r_ex 2 (pc' := 10) (lo' := [some (.inr (.inr (some 104))), o1, some (.inl n), some (.inl x), some (.inl (j + 1))]) (st' := []) rfl ?_
      refine ih (v2 v 104 ((j).toNat) (w8 x)) n x (j + 1) _ hX_6 (by first | assumption | omega | (unfold R32 at *; omega) | (unfold R64 at *; omega) | (simp only [R32, R64] at *; omega)) (by first | assumption | omega | (unfold R32 at *; omega) | (unfold R64 at *; omega) | (simp only [R32, R64] at *; omega)) (by first | assumption | omega | (unfold R32 at *; omega) | (unfold R64 at *; omega) | (simp only [R32, R64] at *; omega)) (by first | assumption | omega | (unfold R32 at *; omega) | (unfold R64 at *; omega) | (simp only [R32, R64] at *; omega)) hQ

theorem of_cl_fillB_10 {rk : Nat} (hk : (rk < 104 ∨ 104 < rk)) : ∀ (f : Nat) {v : VS} {n : Int} {x : Int} {j : Int}, (cl_fillB_10 f v n x j) rk = v rk := by
  intro f
  induction f with
  | zero => intro v n x j; rfl
  | succ f ih =>
    intro v n x j
    rw [cl_fillB_10]
    by_cases hc_ : j < n
    · rw [if_pos hc_]
      all_goals (rw [ih, v2_row (by omega)])
    · rw [if_neg hc_]
      all_goals (show v rk = _)
      all_goals rfl
theorem o_cl_fillB_10 {rk : Nat} {f : Nat} {v : VS} {n : Int} {x : Int} {j : Int} (hk : (rk < 104 ∨ 104 < rk)) : (cl_fillB_10 f v n x j) rk = v rk := of_cl_fillB_10 hk f

theorem w_cl_fillB {X : PX} {d b : Nat} {v : VS} {i : Int} {n : Int} {x : Int} (hX : XI v) (hp_a : 0 ≤ i ∧ i ≤ n) (hp_b : n ≤ 4096) (hp_c : x = 0) {Q : Option PV → Nat → VS → Prop} (hQ : XI (cl_fillB v i n x) → Q none b (cl_fillB v i n x)) : WV X (d + 1) 112 0 [some (.inr (.inr (some 104))), some (.inl i), some (.inl n), some (.inl x), none] [] b v Q := by
  rw [cl_fillB] at hQ
  refine r_ex 4 (pc' := 4) (lo' := [some (.inr (.inr (some 104))), some (.inl i), some (.inl n), some (.inl x), none]) (st' := [.inl n, .inl i, .inl 4096]) rfl ?_
  have hp_1 : 0 ≤ i ∧ i ≤ n := (by first | assumption | omega | (unfold R32 at *; omega) | (unfold R64 at *; omega) | (simp only [R32, R64] at *; omega))
  have hp_2 : n ≤ (4096 : Int) := (by first | assumption | omega | (unfold R32 at *; omega) | (unfold R64 at *; omega) | (simp only [R32, R64] at *; omega))
  have hp_3 : R32 (4096 : Int) := (by first | assumption | omega | (unfold R32 at *; omega) | (unfold R64 at *; omega) | (simp only [R32, R64] at *; omega))
  refine r_call (m := 113) (args := [.inl 4096, .inl i, .inl n]) (n' := 112) (pc' := 7) (lo' := [some (.inr (.inr (some 104))), some (.inl i), some (.inl n), some (.inl x), none]) (st' := []) (I := .invokestatic 113) (pc0 := 4) (len := 3) rfl rfl rfl (e_cl_rangeCheck hX hp_1 hp_2 hp_3) ?_
  show WV _ _ _ 7 _ [] _ (cl_rangeCheck v 4096 i n) _
  have hX_4 : XI (cl_rangeCheck v 4096 i n) := i_cl_rangeCheck (v := v) (i := 4096) (s := i) (n := n) hX hp_1 hp_2 hp_3
  refine r_ex 2 (pc' := 10) (lo' := [some (.inr (.inr (some 104))), some (.inl i), some (.inl n), some (.inl x), some (.inl i)]) (st' := []) rfl ?_
  exact l_cl_fillB_10 4097 (cl_rangeCheck v 4096 i n) n x i _ hX_4 (by first | assumption | omega | (unfold R32 at *; omega) | (unfold R64 at *; omega) | (simp only [R32, R64] at *; omega)) (by first | assumption | omega | (unfold R32 at *; omega) | (unfold R64 at *; omega) | (simp only [R32, R64] at *; omega)) (by first | assumption | omega | (unfold R32 at *; omega) | (unfold R64 at *; omega) | (simp only [R32, R64] at *; omega)) (by first | assumption | omega | (unfold R32 at *; omega) | (unfold R64 at *; omega) | (simp only [R32, R64] at *; omega)) hQ

theorem e_cl_fillB {X : PX} {d b : Nat} {v : VS} {i : Int} {n : Int} {x : Int} (hX : XI v) (hp_a : 0 ≤ i ∧ i ≤ n) (hp_b : n ≤ 4096) (hp_c : x = 0) : EvV X (d + 1) 112 [.inr (.inr (some 104)), .inl i, .inl n, .inl x] b v none b (cl_fillB v i n x) := EvV.of (w_cl_fillB hX hp_a hp_b hp_c (fun _ => ⟨rfl, rfl, rfl⟩))

theorem i_cl_fillB {v : VS} {i : Int} {n : Int} {x : Int} (hX : XI v) (hp_a : 0 ≤ i ∧ i ≤ n) (hp_b : n ≤ 4096) (hp_c : x = 0) : XI (cl_fillB v i n x) := by
  have q : WV (0, fun _ => 0, none) (0 + 1) 112 0 [some (.inr (.inr (some 104))), some (.inl i), some (.inl n), some (.inl x), none] [] 1 v (fun _ _ _ => XI (cl_fillB v i n x)) := w_cl_fillB (X := (0, fun _ => 0, none)) (d := 0) (b := 1) hX hp_a hp_b hp_c (fun q => q)
  obtain ⟨_, _, _, _, _, _, _, q⟩ := q
  exact q

theorem o_cl_fillB {rk : Nat} {v : VS} {i : Int} {n : Int} {x : Int} (hk : (rk < 104 ∨ 104 < rk)) : (cl_fillB v i n x) rk = v rk := by
  unfold cl_fillB
  all_goals (rw [o_cl_fillB_10 (by omega), o_cl_rangeCheck])

def cl_openFirst (v : VS) (n : Int) : VS :=
  (v2 (cl_fillB v 0 ((2 : Int) ^ (n).toNat) 0) 104 0 1)
theorem w_cl_openFirst {X : PX} {d b : Nat} {v : VS} {n : Int} (hX : XI v) (hp_a : 0 ≤ n ∧ n ≤ 12) {Q : Option PV → Nat → VS → Prop} (hQ : XI (cl_openFirst v n) → Q none b (cl_openFirst v n)) : WV X (d + 1 + 1) 111 0 [some (.inr (.inr (some 103))), some (.inl n)] [] b v Q := by
  rw [cl_openFirst] at hQ
  refine r_ex 7 (pc' := 9) (lo' := [some (.inr (.inr (some 103))), some (.inl n)]) (st' := [.inl 0, .inl (pm_shl 1 n), .inl 0, .inr (.inr (some 104))]) rfl ?_
  rw [shl1_eq (c := n) (by first | assumption | omega | (unfold R32 at *; omega) | (unfold R64 at *; omega) | (simp only [R32, R64] at *; omega))]
  have hb_1 := pw_in (c := n) (by first | assumption | omega | (unfold R32 at *; omega) | (unfold R64 at *; omega) | (simp only [R32, R64] at *; omega))
  have hb_2 := pw9 (c := n) (by first | assumption | omega | (unfold R32 at *; omega) | (unfold R64 at *; omega) | (simp only [R32, R64] at *; omega))
  have hp_3 : 0 ≤ (0 : Int) ∧ (0 : Int) ≤ ((2 : Int) ^ (n).toNat) := (by first | assumption | omega | (unfold R32 at *; omega) | (unfold R64 at *; omega) | (simp only [R32, R64] at *; omega))
  have hp_4 : ((2 : Int) ^ (n).toNat) ≤ 4096 := (by first | assumption | omega | (unfold R32 at *; omega) | (unfold R64 at *; omega) | (simp only [R32, R64] at *; omega))
  have hp_5 : (0 : Int) = 0 := (by first | assumption | omega | (unfold R32 at *; omega) | (unfold R64 at *; omega) | (simp only [R32, R64] at *; omega))
  refine r_call (m := 112) (args := [.inr (.inr (some 104)), .inl 0, .inl ((2 : Int) ^ (n).toNat), .inl 0]) (n' := 111) (pc' := 12) (lo' := [some (.inr (.inr (some 103))), some (.inl n)]) (st' := []) (I := .invokestatic 112) (pc0 := 9) (len := 3) rfl rfl rfl (e_cl_fillB hX hp_3 hp_4 hp_5) ?_
  show WV _ _ _ 12 _ [] _ (cl_fillB v 0 ((2 : Int) ^ (n).toNat) 0) _
  have hX_6 : XI (cl_fillB v 0 ((2 : Int) ^ (n).toNat) 0) := i_cl_fillB (v := v) (i := 0) (n := ((2 : Int) ^ (n).toNat)) (x := 0) hX hp_3 hp_4 hp_5
  refine r_ex 4 (pc' := 18) (lo' := [some (.inr (.inr (some 103))), some (.inl n)]) (st' := [.inl 1, .inl 0, .inr (.inr (some 104))]) rfl ?_
  refine r_bast2 (pc' := 19) (pc0 := 18) (len := 1) rfl (s_104 _) (by first | assumption | omega | (unfold R32 at *; omega) | (unfold R64 at *; omega) | (simp only [R32, R64] at *; omega)) (by decide) rfl ?_
  have hX_7 : XI (v2 (cl_fillB v 0 ((2 : Int) ^ (n).toNat) 0) 104 0 1) := XI.put hX_6 (show 0 ≤ 1 ∧ 1 ≤ 1 from (by first | assumption | omega | (unfold R32 at *; omega) | (unfold R64 at *; omega) | (simp only [R32, R64] at *; omega)))
  show WV _ _ _ 19 _ _ _ (v2 (cl_fillB v 0 ((2 : Int) ^ (n).toNat) 0) 104 0 1) _
  refine r_ret (rr := none) (I := .return_) (pc0 := 19) (len := 1) rfl rfl ?_
  exact hQ hX_7 

theorem e_cl_openFirst {X : PX} {d b : Nat} {v : VS} {n : Int} (hX : XI v) (hp_a : 0 ≤ n ∧ n ≤ 12) : EvV X (d + 1 + 1) 111 [.inr (.inr (some 103)), .inl n] b v none b (cl_openFirst v n) := EvV.of (w_cl_openFirst hX hp_a (fun _ => ⟨rfl, rfl, rfl⟩))

theorem i_cl_openFirst {v : VS} {n : Int} (hX : XI v) (hp_a : 0 ≤ n ∧ n ≤ 12) : XI (cl_openFirst v n) := by
  have q : WV (0, fun _ => 0, none) (0 + 1 + 1) 111 0 [some (.inr (.inr (some 103))), some (.inl n)] [] 1 v (fun _ _ _ => XI (cl_openFirst v n)) := w_cl_openFirst (X := (0, fun _ => 0, none)) (d := 0) (b := 1) hX hp_a (fun q => q)
  obtain ⟨_, _, _, _, _, _, _, q⟩ := q
  exact q

theorem o_cl_openFirst {rk : Nat} {v : VS} {n : Int} (hk : (rk < 104 ∨ 104 < rk)) : (cl_openFirst v n) rk = v rk := by
  unfold cl_openFirst
  all_goals (show (v2 (cl_fillB v 0 ((2 : Int) ^ (n).toNat) 0) 104 0 1) rk = _)
  all_goals (rw [v2_row (by omega), o_cl_fillB (by omega)])

def cl_isOpen (v : VS) (s : Int) (n : Int) : Int :=
  (if (v 104 ((s).toNat)) = 1 then (if (cl_bitCount v s) = n then 1 else 0) else 0)
theorem w_cl_isOpen {X : PX} {d b : Nat} {v : VS} {s : Int} {n : Int} (hX : XI v) (hp_a : 0 ≤ s ∧ s < 4096) (hp_b : R32 n) {Q : Option PV → Nat → VS → Prop} (hQ : (0 ≤ (cl_isOpen v s n) ∧ (cl_isOpen v s n) ≤ 1) → Q (some (.inl (cl_isOpen v s n))) b v) : WV X (d + 1) 114 0 [some (.inr (.inr (some 103))), some (.inl s), some (.inl n)] [] b v Q := by
  rw [cl_isOpen] at hQ
  refine r_ex 3 (pc' := 5) (lo' := [some (.inr (.inr (some 103))), some (.inl s), some (.inl n)]) (st' := [.inl s, .inr (.inr (some 104))]) rfl ?_
  refine r_bald2 (x := (v 104 ((s).toNat))) (pc' := 6) (pc0 := 5) (len := 1) rfl (s_104 _) (Or.inl rfl) (by first | assumption | omega | (unfold R32 at *; omega) | (unfold R64 at *; omega) | (simp only [R32, R64] at *; omega)) (by decide) rfl rfl ?_
  have hb_1 : 0 ≤ (v 104 ((s).toNat)) ∧ (v 104 ((s).toNat)) ≤ 1 := hX 104 ((s).toNat)
  refine r_ex 1 (pc' := 7) (lo' := [some (.inr (.inr (some 103))), some (.inl s), some (.inl n)]) (st' := [.inl 1, .inl (v 104 ((s).toNat))]) rfl ?_
  refine n_ic_ne (pc0 := 7) (len := 3) (t := 22) rfl (by first | assumption | omega | (unfold R32 at *; omega) | (unfold R64 at *; omega) | (simp only [R32, R64] at *; omega)) (by first | assumption | omega | (unfold R32 at *; omega) | (unfold R64 at *; omega) | (simp only [R32, R64] at *; omega)) (fun h_7 => ?_) (fun h_7 => ?_)
  · show WV _ _ _ 22 _ _ _ _ _
    rw [if_neg h_7] at hQ
    refine r_ex 1 (pc' := 23) (lo' := [some (.inr (.inr (some 103))), some (.inl s), some (.inl n)]) (st' := [.inl 0]) rfl ?_
    refine r_ret (rr := some (.inl 0)) (I := .ireturn) (pc0 := 23) (len := 1) rfl rfl ?_
    exact hQ (by first | assumption | omega | (unfold R32 at *; omega) | (unfold R64 at *; omega) | (simp only [R32, R64] at *; omega))
  · show WV _ _ _ 10 _ _ _ _ _
    rw [if_pos h_7] at hQ
    refine r_ex 1 (pc' := 11) (lo' := [some (.inr (.inr (some 103))), some (.inl s), some (.inl n)]) (st' := [.inl s]) rfl ?_
    have hp_2 : 0 ≤ s ∧ s < 4096 := (by first | assumption | omega | (unfold R32 at *; omega) | (unfold R64 at *; omega) | (simp only [R32, R64] at *; omega))
    refine r_call (m := 115) (args := [.inl s]) (n' := 114) (pc' := 14) (lo' := [some (.inr (.inr (some 103))), some (.inl s), some (.inl n)]) (st' := []) (I := .invokestatic 115) (pc0 := 11) (len := 3) rfl rfl rfl (e_cl_bitCount hX hp_2) ?_
    show WV _ _ _ 14 _ [.inl (cl_bitCount v s)] _ _ _
    have hb_3 := n_cl_bitCount (v := v) (s := s) hX hp_2
    refine r_ex 1 (pc' := 15) (lo' := [some (.inr (.inr (some 103))), some (.inl s), some (.inl n)]) (st' := [.inl n, .inl (cl_bitCount v s)]) rfl ?_
    refine n_ic_ne (pc0 := 15) (len := 3) (t := 22) rfl (by first | assumption | omega | (unfold R32 at *; omega) | (unfold R64 at *; omega) | (simp only [R32, R64] at *; omega)) (by first | assumption | omega | (unfold R32 at *; omega) | (unfold R64 at *; omega) | (simp only [R32, R64] at *; omega)) (fun h_15 => ?_) (fun h_15 => ?_)
    · show WV _ _ _ 22 _ _ _ _ _
      rw [if_neg h_15] at hQ
      refine r_ex 1 (pc' := 23) (lo' := [some (.inr (.inr (some 103))), some (.inl s), some (.inl n)]) (st' := [.inl 0]) rfl ?_
      refine r_ret (rr := some (.inl 0)) (I := .ireturn) (pc0 := 23) (len := 1) rfl rfl ?_
      exact hQ (by first | assumption | omega | (unfold R32 at *; omega) | (unfold R64 at *; omega) | (simp only [R32, R64] at *; omega))
    · show WV _ _ _ 18 _ _ _ _ _
      rw [if_pos h_15] at hQ
      refine r_ex 2 (pc' := 23) (lo' := [some (.inr (.inr (some 103))), some (.inl s), some (.inl n)]) (st' := [.inl 1]) rfl ?_
      refine r_ret (rr := some (.inl 1)) (I := .ireturn) (pc0 := 23) (len := 1) rfl rfl ?_
      exact hQ (by first | assumption | omega | (unfold R32 at *; omega) | (unfold R64 at *; omega) | (simp only [R32, R64] at *; omega))

theorem e_cl_isOpen {X : PX} {d b : Nat} {v : VS} {s : Int} {n : Int} (hX : XI v) (hp_a : 0 ≤ s ∧ s < 4096) (hp_b : R32 n) : EvV X (d + 1) 114 [.inr (.inr (some 103)), .inl s, .inl n] b v (some (.inl (cl_isOpen v s n))) b v := EvV.of (w_cl_isOpen hX hp_a hp_b (fun _ => ⟨rfl, rfl, rfl⟩))

theorem n_cl_isOpen {v : VS} {s : Int} {n : Int} (hX : XI v) (hp_a : 0 ≤ s ∧ s < 4096) (hp_b : R32 n) : 0 ≤ (cl_isOpen v s n) ∧ (cl_isOpen v s n) ≤ 1 := by
  have q : WV (0, fun _ => 0, none) (0 + 1) 114 0 [some (.inr (.inr (some 103))), some (.inl s), some (.inl n)] [] 1 v (fun _ _ _ => 0 ≤ (cl_isOpen v s n) ∧ (cl_isOpen v s n) ≤ 1) := w_cl_isOpen (X := (0, fun _ => 0, none)) (d := 0) (b := 1) hX hp_a hp_b (fun q => q)
  obtain ⟨_, _, _, _, _, _, _, q⟩ := q
  exact q

def cl_widen_2 : Nat → VS → Int → Int → Int → VS
  | 0, v, s, n, j => v
  | f + 1, v, s, n, j => (if j < 12 then (if (cl_bit v n j) = 1 then (cl_widen_2 f (v2 v 104 (((setb s j)).toNat) 1) s n (j + 1)) else (cl_widen_2 f v s n (j + 1))) else v)
def cl_widen (v : VS) (s : Int) (n : Int) : VS :=
  (cl_widen_2 13 v s n 0)
theorem l_cl_widen_2 {X : PX} {d b : Nat} {Q : Option PV → Nat → VS → Prop}  : ∀ (f : Nat) (v : VS) (s : Int) (n : Int) (j : Int), XI v → (0 ≤ j ∧ j ≤ 12) → (0 ≤ s ∧ s < 4096) → (0 ≤ n ∧ n < 4096) → (12 < j + f) → (XI (cl_widen_2 f v s n j) → Q none b (cl_widen_2 f v s n j)) → WV X (d + 1) 116 2 [some (.inr (.inr (some 103))), some (.inl s), some (.inl n), some (.inl j)] [] b v Q := by
  intro f
  induction f with
  | zero =>
    intro v s n j hX hi_0 hi_1 hi_2 hf hQ
    exfalso
    omega
  | succ f ih =>
    intro v s n j hX hi_0 hi_1 hi_2 hf hQ
    rw [cl_widen_2] at hQ
    refine r_ex 2 (pc' := 5) (lo' := [some (.inr (.inr (some 103))), some (.inl s), some (.inl n), some (.inl j)]) (st' := [.inl 12, .inl j]) rfl ?_
    refine n_ic_ge (pc0 := 5) (len := 3) (t := 34) rfl (by first | assumption | omega | (unfold R32 at *; omega) | (unfold R64 at *; omega) | (simp only [R32, R64] at *; omega)) (by first | assumption | omega | (unfold R32 at *; omega) | (unfold R64 at *; omega) | (simp only [R32, R64] at *; omega)) (fun h_5 => ?_) (fun h_5 => ?_)
    · show WV _ _ _ 34 _ _ _ _ _
      rw [if_neg h_5] at hQ
      refine r_ret (rr := none) (I := .return_) (pc0 := 34) (len := 1) rfl rfl ?_
      exact hQ hX 
    · show WV _ _ _ 8 _ _ _ _ _
      rw [if_pos h_5] at hQ
      refine r_ex 2 (pc' := 10) (lo' := [some (.inr (.inr (some 103))), some (.inl s), some (.inl n), some (.inl j)]) (st' := [.inl j, .inl n]) rfl ?_
      have hp_1 : 0 ≤ n ∧ n < 4096 := (by first | assumption | omega | (unfold R32 at *; omega) | (unfold R64 at *; omega) | (simp only [R32, R64] at *; omega))
      have hp_2 : 0 ≤ j ∧ j < 12 := (by first | assumption | omega | (unfold R32 at *; omega) | (unfold R64 at *; omega) | (simp only [R32, R64] at *; omega))
      refine r_call (m := 63) (args := [.inl n, .inl j]) (n' := 116) (pc' := 13) (lo' := [some (.inr (.inr (some 103))), some (.inl s), some (.inl n), some (.inl j)]) (st' := []) (I := .invokestatic 63) (pc0 := 10) (len := 3) rfl rfl rfl (e_cl_bit hX hp_1 hp_2) ?_
      show WV _ _ _ 13 _ [.inl (cl_bit v n j)] _ _ _
      have hb_3 := n_cl_bit (v := v) (c := n) (k := j) hX hp_1 hp_2
      refine r_ex 1 (pc' := 14) (lo' := [some (.inr (.inr (some 103))), some (.inl s), some (.inl n), some (.inl j)]) (st' := [.inl 1, .inl (cl_bit v n j)]) rfl ?_
      refine n_ic_ne (pc0 := 14) (len := 3) (t := 28) rfl (by first | assumption | omega | (unfold R32 at *; omega) | (unfold R64 at *; omega) | (simp only [R32, R64] at *; omega)) (by first | assumption | omega | (unfold R32 at *; omega) | (unfold R64 at *; omega) | (simp only [R32, R64] at *; omega)) (fun h_14 => ?_) (fun h_14 => ?_)
      · show WV _ _ _ 28 _ _ _ _ _
        rw [if_neg h_14] at hQ
        refine r_ex 2 (pc' := 2) (lo' := [some (.inr (.inr (some 103))), some (.inl s), some (.inl n), some (.inl (j + 1))]) (st' := []) rfl ?_
        refine ih v s n (j + 1)  hX (by first | assumption | omega | (unfold R32 at *; omega) | (unfold R64 at *; omega) | (simp only [R32, R64] at *; omega)) (by first | assumption | omega | (unfold R32 at *; omega) | (unfold R64 at *; omega) | (simp only [R32, R64] at *; omega)) (by first | assumption | omega | (unfold R32 at *; omega) | (unfold R64 at *; omega) | (simp only [R32, R64] at *; omega)) (by first | assumption | omega | (unfold R32 at *; omega) | (unfold R64 at *; omega) | (simp only [R32, R64] at *; omega)) hQ
      · show WV _ _ _ 17 _ _ _ _ _
        rw [if_pos h_14] at hQ
        refine r_ex 7 (pc' := 26) (lo' := [some (.inr (.inr (some 103))), some (.inl s), some (.inl n), some (.inl j)]) (st' := [.inl (pm_or s (pm_shl 1 j)), .inr (.inr (some 104))]) rfl ?_
        rw [or_eq (x := s) (c := j) (by first | assumption | omega | (unfold R32 at *; omega) | (unfold R64 at *; omega) | (simp only [R32, R64] at *; omega)) (by first | assumption | omega | (unfold R32 at *; omega) | (unfold R64 at *; omega) | (simp only [R32, R64] at *; omega))]
        have hb_4 := setb_in (x := s) (c := j) (k := 12) (by first | assumption | omega | (unfold R32 at *; omega) | (unfold R64 at *; omega) | (simp only [R32, R64] at *; omega)) (by first | assumption | omega | (unfold R32 at *; omega) | (unfold R64 at *; omega) | (simp only [R32, R64] at *; omega))
        refine r_ex 1 (pc' := 27) (lo' := [some (.inr (.inr (some 103))), some (.inl s), some (.inl n), some (.inl j)]) (st' := [.inl 1, .inl (setb s j), .inr (.inr (some 104))]) rfl ?_
        refine r_bast2 (pc' := 28) (pc0 := 27) (len := 1) rfl (s_104 _) (by first | assumption | omega | (unfold R32 at *; omega) | (unfold R64 at *; omega) | (simp only [R32, R64] at *; omega)) (by decide) rfl ?_
        have hX_5 : XI (v2 v 104 (((setb s j)).toNat) 1) := XI.put hX (show 0 ≤ 1 ∧ 1 ≤ 1 from (by first | assumption | omega | (unfold R32 at *; omega) | (unfold R64 at *; omega) | (simp only [R32, R64] at *; omega)))
        show WV _ _ _ 28 _ _ _ (v2 v 104 (((setb s j)).toNat) 1) _
        refine r_ex 2 (pc' := 2) (lo' := [some (.inr (.inr (some 103))), some (.inl s), some (.inl n), some (.inl (j + 1))]) (st' := []) rfl ?_
        refine ih (v2 v 104 (((setb s j)).toNat) 1) s n (j + 1)  hX_5 (by first | assumption | omega | (unfold R32 at *; omega) | (unfold R64 at *; omega) | (simp only [R32, R64] at *; omega)) (by first | assumption | omega | (unfold R32 at *; omega) | (unfold R64 at *; omega) | (simp only [R32, R64] at *; omega)) (by first | assumption | omega | (unfold R32 at *; omega) | (unfold R64 at *; omega) | (simp only [R32, R64] at *; omega)) (by first | assumption | omega | (unfold R32 at *; omega) | (unfold R64 at *; omega) | (simp only [R32, R64] at *; omega)) hQ

theorem of_cl_widen_2 {rk : Nat} (hk : (rk < 104 ∨ 104 < rk)) : ∀ (f : Nat) {v : VS} {s : Int} {n : Int} {j : Int}, (cl_widen_2 f v s n j) rk = v rk := by
  intro f
  induction f with
  | zero => intro v s n j; rfl
  | succ f ih =>
    intro v s n j
    rw [cl_widen_2]
    by_cases hc_ : j < 12
    · rw [if_pos hc_]
      by_cases hc_ : (cl_bit v n j) = 1
      · rw [if_pos hc_]
        all_goals (rw [ih, v2_row (by omega)])
      · rw [if_neg hc_]
        all_goals (rw [ih])
    · rw [if_neg hc_]
      all_goals (show v rk = _)
      all_goals rfl
theorem o_cl_widen_2 {rk : Nat} {f : Nat} {v : VS} {s : Int} {n : Int} {j : Int} (hk : (rk < 104 ∨ 104 < rk)) : (cl_widen_2 f v s n j) rk = v rk := of_cl_widen_2 hk f

theorem w_cl_widen {X : PX} {d b : Nat} {v : VS} {s : Int} {n : Int} (hX : XI v) (hp_a : 0 ≤ s ∧ s < 4096) (hp_b : 0 ≤ n ∧ n < 4096) {Q : Option PV → Nat → VS → Prop} (hQ : XI (cl_widen v s n) → Q none b (cl_widen v s n)) : WV X (d + 1) 116 0 [some (.inr (.inr (some 103))), some (.inl s), some (.inl n), none] [] b v Q := by
  rw [cl_widen] at hQ
  refine r_ex 2 (pc' := 2) (lo' := [some (.inr (.inr (some 103))), some (.inl s), some (.inl n), some (.inl 0)]) (st' := []) rfl ?_
  exact l_cl_widen_2 13 v s n 0  hX (by first | assumption | omega | (unfold R32 at *; omega) | (unfold R64 at *; omega) | (simp only [R32, R64] at *; omega)) (by first | assumption | omega | (unfold R32 at *; omega) | (unfold R64 at *; omega) | (simp only [R32, R64] at *; omega)) (by first | assumption | omega | (unfold R32 at *; omega) | (unfold R64 at *; omega) | (simp only [R32, R64] at *; omega)) (by first | assumption | omega | (unfold R32 at *; omega) | (unfold R64 at *; omega) | (simp only [R32, R64] at *; omega)) hQ

theorem e_cl_widen {X : PX} {d b : Nat} {v : VS} {s : Int} {n : Int} (hX : XI v) (hp_a : 0 ≤ s ∧ s < 4096) (hp_b : 0 ≤ n ∧ n < 4096) : EvV X (d + 1) 116 [.inr (.inr (some 103)), .inl s, .inl n] b v none b (cl_widen v s n) := EvV.of (w_cl_widen hX hp_a hp_b (fun _ => ⟨rfl, rfl, rfl⟩))

theorem i_cl_widen {v : VS} {s : Int} {n : Int} (hX : XI v) (hp_a : 0 ≤ s ∧ s < 4096) (hp_b : 0 ≤ n ∧ n < 4096) : XI (cl_widen v s n) := by
  have q : WV (0, fun _ => 0, none) (0 + 1) 116 0 [some (.inr (.inr (some 103))), some (.inl s), some (.inl n), none] [] 1 v (fun _ _ _ => XI (cl_widen v s n)) := w_cl_widen (X := (0, fun _ => 0, none)) (d := 0) (b := 1) hX hp_a hp_b (fun q => q)
  obtain ⟨_, _, _, _, _, _, _, q⟩ := q
  exact q

theorem o_cl_widen {rk : Nat} {v : VS} {s : Int} {n : Int} (hk : (rk < 104 ∨ 104 < rk)) : (cl_widen v s n) rk = v rk := by
  unfold cl_widen
  all_goals (rw [o_cl_widen_2 (by omega)])

def cl_earsOfStrikes_4 : Nat → VS → Int → Int → Int
  | 0, v, n, i => 0
  | f + 1, v, n, i => (if i < (v 91 4) then (if (v 96 ((i).toNat)) = (-1) then (cl_earsOfStrikes_4 f v n (i + 1)) else (cl_earsOfStrikes_4 f v (setb n (v 96 ((i).toNat))) (i + 1))) else n)
def cl_earsOfStrikes (v : VS)  : Int :=
  (cl_earsOfStrikes_4 301 v 0 0)
theorem l_cl_earsOfStrikes_4 {X : PX} {d b : Nat} {Q : Option PV → Nat → VS → Prop}  : ∀ (f : Nat) (v : VS) (n : Int) (i : Int), XI v → (0 ≤ i ∧ i ≤ 300) → (0 ≤ n ∧ n < 4096) → (300 < i + f) → (∀ qx0 : Option PV, ∀ qx2 : Option PV, (0 ≤ (cl_earsOfStrikes_4 f v n i) ∧ (cl_earsOfStrikes_4 f v n i) < 4096) → WV X d 120 39 [qx0, some (.inl (cl_earsOfStrikes_4 f v n i)), qx2] [] b v Q) → WV X d 120 4 [some (.inr (.inr (some 91))), some (.inl n), some (.inl i)] [] b v Q := by
  intro f
  induction f with
  | zero =>
    intro v n i hX hi_0 hi_1 hf hK
    exfalso
    omega
  | succ f ih =>
    intro v n i hX hi_0 hi_1 hf hK
    rw [cl_earsOfStrikes_4] at hK
    refine r_ex 3 (pc' := 9) (lo' := [some (.inr (.inr (some 91))), some (.inl n), some (.inl i)]) (st' := [.inl (v 91 4), .inl i]) rfl ?_
    have hb_1 : 0 ≤ (v 91 4) ∧ (v 91 4) ≤ 300 := hX 91 4
    refine n_ic_ge (pc0 := 9) (len := 3) (t := 39) rfl (by first | assumption | omega | (unfold R32 at *; omega) | (unfold R64 at *; omega) | (simp only [R32, R64] at *; omega)) (by first | assumption | omega | (unfold R32 at *; omega) | (unfold R64 at *; omega) | (simp only [R32, R64] at *; omega)) (fun h_9 => ?_) (fun h_9 => ?_)
    · show WV _ _ _ 39 _ _ _ _ _
      rw [if_neg h_9] at hK
      exact hK _ _  (by first | assumption | omega | (unfold R32 at *; omega) | (unfold R64 at *; omega) | (simp only [R32, R64] at *; omega))
    · show WV _ _ _ 12 _ _ _ _ _
      rw [if_pos h_9] at hK
      refine r_ex 3 (pc' := 17) (lo' := [some (.inr (.inr (some 91))), some (.inl n), some (.inl i)]) (st' := [.inl i, .inr (.inr (some 96))]) rfl ?_
      refine r_iald2 (j := 0) (x := (v 96 ((i).toNat))) (pc' := 18) (pc0 := 17) (len := 1) rfl (s_96 _) (by first | assumption | omega | (unfold R32 at *; omega) | (unfold R64 at *; omega) | (simp only [R32, R64] at *; omega)) (by decide) rfl rfl ?_
      have hb_2 : -1 ≤ (v 96 ((i).toNat)) ∧ (v 96 ((i).toNat)) ≤ 11 := hX 96 ((i).toNat)
      refine r_ex 1 (pc' := 19) (lo' := [some (.inr (.inr (some 91))), some (.inl n), some (.inl i)]) (st' := [.inl (-1), .inl (v 96 ((i).toNat))]) rfl ?_
      refine n_ic_eq (pc0 := 19) (len := 3) (t := 33) rfl (by first | assumption | omega | (unfold R32 at *; omega) | (unfold R64 at *; omega) | (simp only [R32, R64] at *; omega)) (by first | assumption | omega | (unfold R32 at *; omega) | (unfold R64 at *; omega) | (simp only [R32, R64] at *; omega)) (fun h_19 => ?_) (fun h_19 => ?_)
      · show WV _ _ _ 33 _ _ _ _ _
        rw [if_pos h_19] at hK
        refine r_ex 2 (pc' := 4) (lo' := [some (.inr (.inr (some 91))), some (.inl n), some (.inl (i + 1))]) (st' := []) rfl ?_
        refine ih v n (i + 1)  hX (by first | assumption | omega | (unfold R32 at *; omega) | (unfold R64 at *; omega) | (simp only [R32, R64] at *; omega)) (by first | assumption | omega | (unfold R32 at *; omega) | (unfold R64 at *; omega) | (simp only [R32, R64] at *; omega)) (by first | assumption | omega | (unfold R32 at *; omega) | (unfold R64 at *; omega) | (simp only [R32, R64] at *; omega)) hK
      · show WV _ _ _ 22 _ _ _ _ _
        rw [if_neg h_19] at hK
        refine r_ex 5 (pc' := 29) (lo' := [some (.inr (.inr (some 91))), some (.inl n), some (.inl i)]) (st' := [.inl i, .inr (.inr (some 96)), .inl 1, .inl n]) rfl ?_
        refine r_iald2 (j := 0) (x := (v 96 ((i).toNat))) (pc' := 30) (pc0 := 29) (len := 1) rfl (s_96 _) (by first | assumption | omega | (unfold R32 at *; omega) | (unfold R64 at *; omega) | (simp only [R32, R64] at *; omega)) (by decide) rfl rfl ?_
        refine r_ex 2 (pc' := 32) (lo' := [some (.inr (.inr (some 91))), some (.inl n), some (.inl i)]) (st' := [.inl (pm_or n (pm_shl 1 (v 96 ((i).toNat))))]) rfl ?_
        rw [or_eq (x := n) (c := (v 96 ((i).toNat))) (by first | assumption | omega | (unfold R32 at *; omega) | (unfold R64 at *; omega) | (simp only [R32, R64] at *; omega)) (by first | assumption | omega | (unfold R32 at *; omega) | (unfold R64 at *; omega) | (simp only [R32, R64] at *; omega))]
        have hb_3 := setb_in (x := n) (c := (v 96 ((i).toNat))) (k := 12) (by first | assumption | omega | (unfold R32 at *; omega) | (unfold R64 at *; omega) | (simp only [R32, R64] at *; omega)) (by first | assumption | omega | (unfold R32 at *; omega) | (unfold R64 at *; omega) | (simp only [R32, R64] at *; omega))
        refine r_ex 3 (pc' := 4) (lo' := [some (.inr (.inr (some 91))), some (.inl (setb n (v 96 ((i).toNat)))), some (.inl (i + 1))]) (st' := []) rfl ?_
        refine ih v (setb n (v 96 ((i).toNat))) (i + 1)  hX (by first | assumption | omega | (unfold R32 at *; omega) | (unfold R64 at *; omega) | (simp only [R32, R64] at *; omega)) (by first | assumption | omega | (unfold R32 at *; omega) | (unfold R64 at *; omega) | (simp only [R32, R64] at *; omega)) (by first | assumption | omega | (unfold R32 at *; omega) | (unfold R64 at *; omega) | (simp only [R32, R64] at *; omega)) hK

theorem w_cl_earsOfStrikes {X : PX} {d b : Nat} {v : VS}  (hX : XI v)  {Q : Option PV → Nat → VS → Prop} (hQ : (0 ≤ (cl_earsOfStrikes v) ∧ (cl_earsOfStrikes v) < 4096) → Q (some (.inl (cl_earsOfStrikes v))) b v) : WV X d 120 0 [some (.inr (.inr (some 91))), none, none] [] b v Q := by
  rw [cl_earsOfStrikes] at hQ
  refine r_ex 4 (pc' := 4) (lo' := [some (.inr (.inr (some 91))), some (.inl 0), some (.inl 0)]) (st' := []) rfl ?_
  refine l_cl_earsOfStrikes_4 301 v 0 0  hX (by first | assumption | omega | (unfold R32 at *; omega) | (unfold R64 at *; omega) | (simp only [R32, R64] at *; omega)) (by first | assumption | omega | (unfold R32 at *; omega) | (unfold R64 at *; omega) | (simp only [R32, R64] at *; omega)) (by first | assumption | omega | (unfold R32 at *; omega) | (unfold R64 at *; omega) | (simp only [R32, R64] at *; omega)) (fun o0_4 o2_4  hv_4_0 => ?_)
  show WV _ _ _ 39 _ _ _ _ _
  refine r_ex 1 (pc' := 40) (lo' := [o0_4, some (.inl (cl_earsOfStrikes_4 301 v 0 0)), o2_4]) (st' := [.inl (cl_earsOfStrikes_4 301 v 0 0)]) rfl ?_
  refine r_ret (rr := some (.inl (cl_earsOfStrikes_4 301 v 0 0))) (I := .ireturn) (pc0 := 40) (len := 1) rfl rfl ?_
  exact hQ (by first | assumption | omega | (unfold R32 at *; omega) | (unfold R64 at *; omega) | (simp only [R32, R64] at *; omega))

theorem e_cl_earsOfStrikes {X : PX} {d b : Nat} {v : VS}  (hX : XI v)  : EvV X d 120 [.inr (.inr (some 91))] b v (some (.inl (cl_earsOfStrikes v))) b v := EvV.of (w_cl_earsOfStrikes hX  (fun _ => ⟨rfl, rfl, rfl⟩))

theorem n_cl_earsOfStrikes {v : VS}  (hX : XI v)  : 0 ≤ (cl_earsOfStrikes v) ∧ (cl_earsOfStrikes v) < 4096 := by
  have q : WV (0, fun _ => 0, none) 0 120 0 [some (.inr (.inr (some 91))), none, none] [] 1 v (fun _ _ _ => 0 ≤ (cl_earsOfStrikes v) ∧ (cl_earsOfStrikes v) < 4096) := w_cl_earsOfStrikes (X := (0, fun _ => 0, none)) (d := 0) (b := 1) hX  (fun q => q)
  obtain ⟨_, _, _, _, _, _, _, q⟩ := q
  exact q

def cl_fewestChurches_34 : Nat → VS → Int → Int → Int → Int × VS
  | 0, v, m, k, s => (0, v)
  | f + 1, v, m, k, s => (if s < ((2 : Int) ^ ((v 33 0)).toNat) then (if (cl_isOpen v s k) = 0 then (cl_fewestChurches_34 f v m k (s + 1)) else (if ((xplay 91 (v2 v 67 0 (pm_or m s))) 91 18) = 0 then (s, (xplay 91 (v2 v 67 0 (pm_or m s)))) else (cl_fewestChurches_34 f (cl_widen (xplay 91 (v2 v 67 0 (pm_or m s))) s ((xplay 91 (v2 v 67 0 (pm_or m s))) 91 16)) m k (s + 1)))) else (if (v 33 0) < (k + 1) then ((-1), v) else (cl_fewestChurches_34 f v m (k + 1) 0)))
def cl_fewestChurches (v : VS)  : Int × VS :=
  (if ((cl_openFirst v (v 33 0)) 33 0) < 0 then ((-1), (cl_openFirst v (v 33 0))) else (cl_fewestChurches_34 8001 (cl_openFirst v (v 33 0)) (v 67 0) 0 0))
theorem l_cl_fewestChurches_34 {X : PX} {d b : Nat} {Q : Option PV → Nat → VS → Prop}  : ∀ (f : Nat) (v : VS) (m : Int) (k : Int) (s : Int), XI v → (0 ≤ m ∧ m ≤ 511) → (0 ≤ k ∧ k ≤ 9) → (0 ≤ s ∧ s ≤ 512) → (8000 < k * 600 + s + f) → (XI (cl_fewestChurches_34 f v m k s).2 → (-1 ≤ (cl_fewestChurches_34 f v m k s).1 ∧ (cl_fewestChurches_34 f v m k s).1 < 4096) → Q (some (.inl (cl_fewestChurches_34 f v m k s).1)) b (cl_fewestChurches_34 f v m k s).2) → WV X (d + 1 + 1 + 1 + 1 + 1 + 1) 110 34 [some (.inr (.inr (some 103))), some (.inl m), some (.inl k), some (.inl s)] [] b v Q := by
  intro f
  induction f with
  | zero =>
    intro v m k s hX hi_0 hi_1 hi_2 hf hQ
    exfalso
    omega
  | succ f ih =>
    intro v m k s hX hi_0 hi_1 hi_2 hf hQ
    rw [cl_fewestChurches_34] at hQ
    refine r_ex 6 (pc' := 44) (lo' := [some (.inr (.inr (some 103))), some (.inl m), some (.inl k), some (.inl s)]) (st' := [.inl (pm_shl 1 (v 33 0)), .inl s]) rfl ?_
    have hb_6 : 0 ≤ (v 33 0) ∧ (v 33 0) ≤ 9 := hX 33 0
    rw [shl1_eq (c := (v 33 0)) (by first | assumption | omega | (unfold R32 at *; omega) | (unfold R64 at *; omega) | (simp only [R32, R64] at *; omega))]
    have hb_7 := pw_in (c := (v 33 0)) (by first | assumption | omega | (unfold R32 at *; omega) | (unfold R64 at *; omega) | (simp only [R32, R64] at *; omega))
    have hb_8 := pw9 (c := (v 33 0)) (by first | assumption | omega | (unfold R32 at *; omega) | (unfold R64 at *; omega) | (simp only [R32, R64] at *; omega))
    refine n_ic_ge (pc0 := 44) (len := 3) (t := 103) rfl (by first | assumption | omega | (unfold R32 at *; omega) | (unfold R64 at *; omega) | (simp only [R32, R64] at *; omega)) (by first | assumption | omega | (unfold R32 at *; omega) | (unfold R64 at *; omega) | (simp only [R32, R64] at *; omega)) (fun h_44 => ?_) (fun h_44 => ?_)
    · show WV _ _ _ 103 _ _ _ _ _
      rw [if_neg h_44] at hQ
      refine r_ex 6 (pc' := 29) (lo' := [some (.inr (.inr (some 103))), some (.inl m), some (.inl (k + 1)), some (.inl s)]) (st' := [.inl (v 33 0), .inl (k + 1)]) rfl ?_
      refine n_ic_gt (pc0 := 29) (len := 3) (t := 109) rfl (by first | assumption | omega | (unfold R32 at *; omega) | (unfold R64 at *; omega) | (simp only [R32, R64] at *; omega)) (by first | assumption | omega | (unfold R32 at *; omega) | (unfold R64 at *; omega) | (simp only [R32, R64] at *; omega)) (fun h_29 => ?_) (fun h_29 => ?_)
      · show WV _ _ _ 109 _ _ _ _ _
        rw [if_pos h_29] at hQ
        refine r_ex 1 (pc' := 110) (lo' := [some (.inr (.inr (some 103))), some (.inl m), some (.inl (k + 1)), some (.inl s)]) (st' := [.inl (-1)]) rfl ?_
        refine r_ret (rr := some (.inl (-1))) (I := .ireturn) (pc0 := 110) (len := 1) rfl rfl ?_
        exact hQ hX (by first | assumption | omega | (unfold R32 at *; omega) | (unfold R64 at *; omega) | (simp only [R32, R64] at *; omega))
      · show WV _ _ _ 32 _ _ _ _ _
        rw [if_neg h_29] at hQ
        refine r_ex 2 (pc' := 34) (lo' := [some (.inr (.inr (some 103))), some (.inl m), some (.inl (k + 1)), some (.inl 0)]) (st' := []) rfl ?_
        refine ih v m (k + 1) 0  hX (by first | assumption | omega | (unfold R32 at *; omega) | (unfold R64 at *; omega) | (simp only [R32, R64] at *; omega)) (by first | assumption | omega | (unfold R32 at *; omega) | (unfold R64 at *; omega) | (simp only [R32, R64] at *; omega)) (by first | assumption | omega | (unfold R32 at *; omega) | (unfold R64 at *; omega) | (simp only [R32, R64] at *; omega)) (by first | assumption | omega | (unfold R32 at *; omega) | (unfold R64 at *; omega) | (simp only [R32, R64] at *; omega)) hQ
    · show WV _ _ _ 47 _ _ _ _ _
      rw [if_pos h_44] at hQ
      refine r_ex 3 (pc' := 50) (lo' := [some (.inr (.inr (some 103))), some (.inl m), some (.inl k), some (.inl s)]) (st' := [.inl k, .inl s, .inr (.inr (some 103))]) rfl ?_
      have hp_9 : 0 ≤ s ∧ s < 4096 := (by first | assumption | omega | (unfold R32 at *; omega) | (unfold R64 at *; omega) | (simp only [R32, R64] at *; omega))
      have hp_10 : R32 k := (by first | assumption | omega | (unfold R32 at *; omega) | (unfold R64 at *; omega) | (simp only [R32, R64] at *; omega))
      refine r_call (m := 114) (args := [.inr (.inr (some 103)), .inl s, .inl k]) (n' := 110) (pc' := 53) (lo' := [some (.inr (.inr (some 103))), some (.inl m), some (.inl k), some (.inl s)]) (st' := []) (I := .invokevirtual 114) (pc0 := 50) (len := 3) rfl rfl rfl (e_cl_isOpen hX hp_9 hp_10) ?_
      show WV _ _ _ 53 _ [.inl (cl_isOpen v s k)] _ _ _
      have hb_11 := n_cl_isOpen (v := v) (s := s) (n := k) hX hp_9 hp_10
      refine n_if_eq (pc0 := 53) (len := 3) (t := 97) rfl (by first | assumption | omega | (unfold R32 at *; omega) | (unfold R64 at *; omega) | (simp only [R32, R64] at *; omega)) (fun h_53 => ?_) (fun h_53 => ?_)
      · show WV _ _ _ 97 _ _ _ _ _
        rw [if_pos h_53] at hQ
        refine r_ex 2 (pc' := 34) (lo' := [some (.inr (.inr (some 103))), some (.inl m), some (.inl k), some (.inl (s + 1))]) (st' := []) rfl ?_
        refine ih v m k (s + 1)  hX (by first | assumption | omega | (unfold R32 at *; omega) | (unfold R64 at *; omega) | (simp only [R32, R64] at *; omega)) (by first | assumption | omega | (unfold R32 at *; omega) | (unfold R64 at *; omega) | (simp only [R32, R64] at *; omega)) (by first | assumption | omega | (unfold R32 at *; omega) | (unfold R64 at *; omega) | (simp only [R32, R64] at *; omega)) (by first | assumption | omega | (unfold R32 at *; omega) | (unfold R64 at *; omega) | (simp only [R32, R64] at *; omega)) hQ
      · show WV _ _ _ 56 _ _ _ _ _
        rw [if_neg h_53] at hQ
        refine r_ex 5 (pc' := 63) (lo' := [some (.inr (.inr (some 103))), some (.inl m), some (.inl k), some (.inl s)]) (st' := [.inl (pm_or m s), .inr (.inr (some 67))]) rfl ?_
        refine r_puti2 (j := 0) (pc' := 66) (pc0 := 63) (len := 3) rfl (s_67 _) rfl rfl rfl (Or.inl rfl) rfl rfl ?_
        have hX_12 : XI (v2 v 67 0 (pm_or m s)) := XI.put hX (show 0 ≤ (pm_or m s) ∧ (pm_or m s) ≤ 511 from (by have := or_in (x := m) (y := s) (k := 9) (by omega) (by omega) (by omega); omega))
        refine r_ex 2 (pc' := 70) (lo' := [some (.inr (.inr (some 103))), some (.inl m), some (.inl k), some (.inl s)]) (st' := [.inr (.inr (some 91))]) rfl ?_
        refine r_call (m := 74) (args := [.inr (.inr (some 91))]) (n' := 110) (pc' := 73) (lo' := [some (.inr (.inr (some 103))), some (.inl m), some (.inl k), some (.inl s)]) (st' := []) (I := .invokevirtual 74) (pc0 := 70) (len := 3) rfl rfl rfl (x_play91 hX_12) ?_
        show WV _ _ _ 73 _ [] _ (xplay 91 (v2 v 67 0 (pm_or m s))) _
        have hX_13 : XI (xplay 91 (v2 v 67 0 (pm_or m s))) := XI_play91 (v := (v2 v 67 0 (pm_or m s))) hX_12
        refine r_ex 3 (pc' := 80) (lo' := [some (.inr (.inr (some 103))), some (.inl m), some (.inl k), some (.inl s)]) (st' := [.inl ((xplay 91 (v2 v 67 0 (pm_or m s))) 91 18)]) rfl ?_
        have hb_14 : 0 ≤ ((xplay 91 (v2 v 67 0 (pm_or m s))) 91 18) ∧ ((xplay 91 (v2 v 67 0 (pm_or m s))) 91 18) ≤ 1 := hX_13 91 18
        refine n_if_ne (pc0 := 80) (len := 3) (t := 85) rfl (by first | assumption | omega | (unfold R32 at *; omega) | (unfold R64 at *; omega) | (simp only [R32, R64] at *; omega)) (fun h_80 => ?_) (fun h_80 => ?_)
        · show WV _ _ _ 85 _ _ _ _ _
          rw [if_neg h_80] at hQ
          refine r_ex 5 (pc' := 94) (lo' := [some (.inr (.inr (some 103))), some (.inl m), some (.inl k), some (.inl s)]) (st' := [.inl ((xplay 91 (v2 v 67 0 (pm_or m s))) 91 16), .inl s, .inr (.inr (some 103))]) rfl ?_
          have hb_15 : 0 ≤ ((xplay 91 (v2 v 67 0 (pm_or m s))) 91 16) ∧ ((xplay 91 (v2 v 67 0 (pm_or m s))) 91 16) ≤ 511 := hX_13 91 16
          have hp_16 : 0 ≤ s ∧ s < 4096 := (by first | assumption | omega | (unfold R32 at *; omega) | (unfold R64 at *; omega) | (simp only [R32, R64] at *; omega))
          have hp_17 : 0 ≤ ((xplay 91 (v2 v 67 0 (pm_or m s))) 91 16) ∧ ((xplay 91 (v2 v 67 0 (pm_or m s))) 91 16) < 4096 := (by first | assumption | omega | (unfold R32 at *; omega) | (unfold R64 at *; omega) | (simp only [R32, R64] at *; omega))
          refine r_call (m := 116) (args := [.inr (.inr (some 103)), .inl s, .inl ((xplay 91 (v2 v 67 0 (pm_or m s))) 91 16)]) (n' := 110) (pc' := 97) (lo' := [some (.inr (.inr (some 103))), some (.inl m), some (.inl k), some (.inl s)]) (st' := []) (I := .invokevirtual 116) (pc0 := 94) (len := 3) rfl rfl rfl (e_cl_widen hX_13 hp_16 hp_17) ?_
          show WV _ _ _ 97 _ [] _ (cl_widen (xplay 91 (v2 v 67 0 (pm_or m s))) s ((xplay 91 (v2 v 67 0 (pm_or m s))) 91 16)) _
          have hX_18 : XI (cl_widen (xplay 91 (v2 v 67 0 (pm_or m s))) s ((xplay 91 (v2 v 67 0 (pm_or m s))) 91 16)) := i_cl_widen (v := (xplay 91 (v2 v 67 0 (pm_or m s)))) (s := s) (n := ((xplay 91 (v2 v 67 0 (pm_or m s))) 91 16)) hX_13 hp_16 hp_17
          refine r_ex 2 (pc' := 34) (lo' := [some (.inr (.inr (some 103))), some (.inl m), some (.inl k), some (.inl (s + 1))]) (st' := []) rfl ?_
          refine ih (cl_widen (xplay 91 (v2 v 67 0 (pm_or m s))) s ((xplay 91 (v2 v 67 0 (pm_or m s))) 91 16)) m k (s + 1)  hX_18 (by first | assumption | omega | (unfold R32 at *; omega) | (unfold R64 at *; omega) | (simp only [R32, R64] at *; omega)) (by first | assumption | omega | (unfold R32 at *; omega) | (unfold R64 at *; omega) | (simp only [R32, R64] at *; omega)) (by first | assumption | omega | (unfold R32 at *; omega) | (unfold R64 at *; omega) | (simp only [R32, R64] at *; omega)) (by first | assumption | omega | (unfold R32 at *; omega) | (unfold R64 at *; omega) | (simp only [R32, R64] at *; omega)) hQ
        · show WV _ _ _ 83 _ _ _ _ _
          rw [if_pos h_80] at hQ
          refine r_ex 1 (pc' := 84) (lo' := [some (.inr (.inr (some 103))), some (.inl m), some (.inl k), some (.inl s)]) (st' := [.inl s]) rfl ?_
          refine r_ret (rr := some (.inl s)) (I := .ireturn) (pc0 := 84) (len := 1) rfl rfl ?_
          exact hQ hX_13 (by first | assumption | omega | (unfold R32 at *; omega) | (unfold R64 at *; omega) | (simp only [R32, R64] at *; omega))

theorem of_cl_fewestChurches_34 {rk : Nat} (hk : (rk < 67 ∨ 67 < rk) ∧ (rk < 73 ∨ 78 < rk) ∧ (rk < 91 ∨ 102 < rk) ∧ (rk < 104 ∨ 104 < rk)) : ∀ (f : Nat) {v : VS} {m : Int} {k : Int} {s : Int}, (cl_fewestChurches_34 f v m k s).2 rk = v rk := by
  intro f
  induction f with
  | zero => intro v m k s; rfl
  | succ f ih =>
    intro v m k s
    rw [cl_fewestChurches_34]
    by_cases hc_ : s < ((2 : Int) ^ ((v 33 0)).toNat)
    · rw [if_pos hc_]
      by_cases hc_ : (cl_isOpen v s k) = 0
      · rw [if_pos hc_]
        all_goals (rw [ih])
      · rw [if_neg hc_]
        by_cases hc_ : ((xplay 91 (v2 v 67 0 (pm_or m s))) 91 18) = 0
        · rw [if_pos hc_]
          all_goals (show (xplay 91 (v2 v 67 0 (pm_or m s))) rk = _)
          all_goals (rw [o_xplay91 (by omega), v2_row (by omega)])
        · rw [if_neg hc_]
          all_goals (rw [ih, o_cl_widen (by omega), o_xplay91 (by omega), v2_row (by omega)])
    · rw [if_neg hc_]
      by_cases hc_ : (v 33 0) < (k + 1)
      · rw [if_pos hc_]
        all_goals (show v rk = _)
        all_goals rfl
      · rw [if_neg hc_]
        all_goals (rw [ih])
theorem o_cl_fewestChurches_34 {rk : Nat} {f : Nat} {v : VS} {m : Int} {k : Int} {s : Int} (hk : (rk < 67 ∨ 67 < rk) ∧ (rk < 73 ∨ 78 < rk) ∧ (rk < 91 ∨ 102 < rk) ∧ (rk < 104 ∨ 104 < rk)) : (cl_fewestChurches_34 f v m k s).2 rk = v rk := of_cl_fewestChurches_34 hk f

theorem w_cl_fewestChurches {X : PX} {d b : Nat} {v : VS}  (hX : XI v)  {Q : Option PV → Nat → VS → Prop} (hQ : XI (cl_fewestChurches v).2 → (-1 ≤ (cl_fewestChurches v).1 ∧ (cl_fewestChurches v).1 < 4096) → Q (some (.inl (cl_fewestChurches v).1)) b (cl_fewestChurches v).2) : WV X (d + 1 + 1 + 1 + 1 + 1 + 1) 110 0 [some (.inr (.inr (some 103))), none, none, none] [] b v Q := by
  rw [cl_fewestChurches] at hQ
  refine r_ex 8 (pc' := 16) (lo' := [some (.inr (.inr (some 103))), some (.inl (v 67 0)), none, none]) (st' := [.inl (v 33 0), .inr (.inr (some 103))]) rfl ?_
  have hb_1 : 0 ≤ (v 67 0) ∧ (v 67 0) ≤ 511 := hX 67 0
  have hb_2 : 0 ≤ (v 33 0) ∧ (v 33 0) ≤ 9 := hX 33 0
  have hp_3 : 0 ≤ (v 33 0) ∧ (v 33 0) ≤ 12 := (by first | assumption | omega | (unfold R32 at *; omega) | (unfold R64 at *; omega) | (simp only [R32, R64] at *; omega))
  refine r_call (m := 111) (args := [.inr (.inr (some 103)), .inl (v 33 0)]) (n' := 110) (pc' := 19) (lo' := [some (.inr (.inr (some 103))), some (.inl (v 67 0)), none, none]) (st' := []) (I := .invokevirtual 111) (pc0 := 16) (len := 3) rfl rfl rfl (e_cl_openFirst hX hp_3) ?_
  show WV _ _ _ 19 _ [] _ (cl_openFirst v (v 33 0)) _
  have hX_4 : XI (cl_openFirst v (v 33 0)) := i_cl_openFirst (v := v) (n := (v 33 0)) hX hp_3
  refine r_ex 6 (pc' := 29) (lo' := [some (.inr (.inr (some 103))), some (.inl (v 67 0)), some (.inl 0), none]) (st' := [.inl ((cl_openFirst v (v 33 0)) 33 0), .inl 0]) rfl ?_
  have hb_5 : 0 ≤ ((cl_openFirst v (v 33 0)) 33 0) ∧ ((cl_openFirst v (v 33 0)) 33 0) ≤ 9 := hX_4 33 0
  refine n_ic_gt (pc0 := 29) (len := 3) (t := 109) rfl (by first | assumption | omega | (unfold R32 at *; omega) | (unfold R64 at *; omega) | (simp only [R32, R64] at *; omega)) (by first | assumption | omega | (unfold R32 at *; omega) | (unfold R64 at *; omega) | (simp only [R32, R64] at *; omega)) (fun h_29 => ?_) (fun h_29 => ?_)
  · show WV _ _ _ 109 _ _ _ _ _
    rw [if_pos h_29] at hQ
    refine r_ex 1 (pc' := 110) (lo' := [some (.inr (.inr (some 103))), some (.inl (v 67 0)), some (.inl 0), none]) (st' := [.inl (-1)]) rfl ?_
    refine r_ret (rr := some (.inl (-1))) (I := .ireturn) (pc0 := 110) (len := 1) rfl rfl ?_
    exact hQ hX_4 (by first | assumption | omega | (unfold R32 at *; omega) | (unfold R64 at *; omega) | (simp only [R32, R64] at *; omega))
  · show WV _ _ _ 32 _ _ _ _ _
    rw [if_neg h_29] at hQ
    refine r_ex 2 (pc' := 34) (lo' := [some (.inr (.inr (some 103))), some (.inl (v 67 0)), some (.inl 0), some (.inl 0)]) (st' := []) rfl ?_
    exact l_cl_fewestChurches_34 8001 (cl_openFirst v (v 33 0)) (v 67 0) 0 0  hX_4 (by first | assumption | omega | (unfold R32 at *; omega) | (unfold R64 at *; omega) | (simp only [R32, R64] at *; omega)) (by first | assumption | omega | (unfold R32 at *; omega) | (unfold R64 at *; omega) | (simp only [R32, R64] at *; omega)) (by first | assumption | omega | (unfold R32 at *; omega) | (unfold R64 at *; omega) | (simp only [R32, R64] at *; omega)) (by first | assumption | omega | (unfold R32 at *; omega) | (unfold R64 at *; omega) | (simp only [R32, R64] at *; omega)) hQ

theorem e_cl_fewestChurches {X : PX} {d b : Nat} {v : VS}  (hX : XI v)  : EvV X (d + 1 + 1 + 1 + 1 + 1 + 1) 110 [.inr (.inr (some 103))] b v (some (.inl (cl_fewestChurches v).1)) b ((cl_fewestChurches v).2) := EvV.of (w_cl_fewestChurches hX  (fun _ _ => ⟨rfl, rfl, rfl⟩))

theorem i_cl_fewestChurches {v : VS}  (hX : XI v)  : XI ((cl_fewestChurches v).2) := by
  have q : WV (0, fun _ => 0, none) (0 + 1 + 1 + 1 + 1 + 1 + 1) 110 0 [some (.inr (.inr (some 103))), none, none, none] [] 1 v (fun _ _ _ => XI ((cl_fewestChurches v).2)) := w_cl_fewestChurches (X := (0, fun _ => 0, none)) (d := 0) (b := 1) hX  (fun q _ => q)
  obtain ⟨_, _, _, _, _, _, _, q⟩ := q
  exact q

theorem n_cl_fewestChurches {v : VS}  (hX : XI v)  : -1 ≤ (cl_fewestChurches v).1 ∧ (cl_fewestChurches v).1 < 4096 := by
  have q : WV (0, fun _ => 0, none) (0 + 1 + 1 + 1 + 1 + 1 + 1) 110 0 [some (.inr (.inr (some 103))), none, none, none] [] 1 v (fun _ _ _ => -1 ≤ (cl_fewestChurches v).1 ∧ (cl_fewestChurches v).1 < 4096) := w_cl_fewestChurches (X := (0, fun _ => 0, none)) (d := 0) (b := 1) hX  (fun _ q => q)
  obtain ⟨_, _, _, _, _, _, _, q⟩ := q
  exact q

theorem o_cl_fewestChurches {rk : Nat} {v : VS}  (hk : (rk < 67 ∨ 67 < rk) ∧ (rk < 73 ∨ 78 < rk) ∧ (rk < 91 ∨ 102 < rk) ∧ (rk < 104 ∨ 104 < rk)) : (cl_fewestChurches v ).2 rk = v rk := by
  unfold cl_fewestChurches
  by_cases hc_ : ((cl_openFirst v (v 33 0)) 33 0) < 0
  · rw [if_pos hc_]
    all_goals (show (cl_openFirst v (v 33 0)) rk = _)
    all_goals (rw [o_cl_openFirst (by omega)])
  · rw [if_neg hc_]
    all_goals (rw [o_cl_fewestChurches_34 (by omega), o_cl_openFirst (by omega)])

def cl_fewestEars_40 : Nat → VS → Int → Int → Int → Int × VS
  | 0, v, m, k, s => (0, v)
  | f + 1, v, m, k, s => (if s < ((2 : Int) ^ ((v 37 0)).toNat) then (if (cl_isOpen v s k) = 0 then (cl_fewestEars_40 f v m k (s + 1)) else (if ((xplay 91 (v2 v 67 1 (pm_or m s))) 91 18) = 0 then (s, (xplay 91 (v2 v 67 1 (pm_or m s)))) else (cl_fewestEars_40 f (cl_widen (xplay 91 (v2 v 67 1 (pm_or m s))) s (cl_earsOfStrikes (xplay 91 (v2 v 67 1 (pm_or m s))))) m k (s + 1)))) else (if (v 37 0) < (k + 1) then ((-1), v) else (cl_fewestEars_40 f v m (k + 1) 0)))
def cl_fewestEars (v : VS)  : Int × VS :=
  (if ((cl_openFirst v (v 37 0)) 37 0) < 0 then ((-1), (cl_openFirst v (v 37 0))) else (cl_fewestEars_40 54001 (cl_openFirst v (v 37 0)) (v 67 1) 0 0))
theorem l_cl_fewestEars_40 {X : PX} {d b : Nat} {Q : Option PV → Nat → VS → Prop}  : ∀ (f : Nat) (v : VS) (m : Int) (k : Int) (s : Int), XI v → (0 ≤ m ∧ m ≤ 4095) → (0 ≤ k ∧ k ≤ 12) → (0 ≤ s ∧ s ≤ 4096) → (54000 < k * 4100 + s + f) → (XI (cl_fewestEars_40 f v m k s).2 → (-1 ≤ (cl_fewestEars_40 f v m k s).1 ∧ (cl_fewestEars_40 f v m k s).1 < 4096) → Q (some (.inl (cl_fewestEars_40 f v m k s).1)) b (cl_fewestEars_40 f v m k s).2) → WV X (d + 1 + 1 + 1 + 1 + 1 + 1) 119 40 [some (.inr (.inr (some 103))), some (.inl m), some (.inl k), some (.inl s)] [] b v Q := by
  intro f
  induction f with
  | zero =>
    intro v m k s hX hi_0 hi_1 hi_2 hf hQ
    exfalso
    omega
  | succ f ih =>
    intro v m k s hX hi_0 hi_1 hi_2 hf hQ
    rw [cl_fewestEars_40] at hQ
    refine r_ex 7 (pc' := 53) (lo' := [some (.inr (.inr (some 103))), some (.inl m), some (.inl k), some (.inl s)]) (st' := [.inl (pm_shl 1 (v 37 0)), .inl s]) rfl ?_
    have hb_6 : 0 ≤ (v 37 0) ∧ (v 37 0) ≤ 12 := hX 37 0
    rw [shl1_eq (c := (v 37 0)) (by first | assumption | omega | (unfold R32 at *; omega) | (unfold R64 at *; omega) | (simp only [R32, R64] at *; omega))]
    have hb_7 := pw_in (c := (v 37 0)) (by first | assumption | omega | (unfold R32 at *; omega) | (unfold R64 at *; omega) | (simp only [R32, R64] at *; omega))
    have hb_8 := pw9 (c := (v 37 0)) (by first | assumption | omega | (unfold R32 at *; omega) | (unfold R64 at *; omega) | (simp only [R32, R64] at *; omega))
    refine n_ic_ge (pc0 := 53) (len := 3) (t := 112) rfl (by first | assumption | omega | (unfold R32 at *; omega) | (unfold R64 at *; omega) | (simp only [R32, R64] at *; omega)) (by first | assumption | omega | (unfold R32 at *; omega) | (unfold R64 at *; omega) | (simp only [R32, R64] at *; omega)) (fun h_53 => ?_) (fun h_53 => ?_)
    · show WV _ _ _ 112 _ _ _ _ _
      rw [if_neg h_53] at hQ
      refine r_ex 7 (pc' := 35) (lo' := [some (.inr (.inr (some 103))), some (.inl m), some (.inl (k + 1)), some (.inl s)]) (st' := [.inl (v 37 0), .inl (k + 1)]) rfl ?_
      refine n_ic_gt (pc0 := 35) (len := 3) (t := 118) rfl (by first | assumption | omega | (unfold R32 at *; omega) | (unfold R64 at *; omega) | (simp only [R32, R64] at *; omega)) (by first | assumption | omega | (unfold R32 at *; omega) | (unfold R64 at *; omega) | (simp only [R32, R64] at *; omega)) (fun h_35 => ?_) (fun h_35 => ?_)
      · show WV _ _ _ 118 _ _ _ _ _
        rw [if_pos h_35] at hQ
        refine r_ex 1 (pc' := 119) (lo' := [some (.inr (.inr (some 103))), some (.inl m), some (.inl (k + 1)), some (.inl s)]) (st' := [.inl (-1)]) rfl ?_
        refine r_ret (rr := some (.inl (-1))) (I := .ireturn) (pc0 := 119) (len := 1) rfl rfl ?_
        exact hQ hX (by first | assumption | omega | (unfold R32 at *; omega) | (unfold R64 at *; omega) | (simp only [R32, R64] at *; omega))
      · show WV _ _ _ 38 _ _ _ _ _
        rw [if_neg h_35] at hQ
        refine r_ex 2 (pc' := 40) (lo' := [some (.inr (.inr (some 103))), some (.inl m), some (.inl (k + 1)), some (.inl 0)]) (st' := []) rfl ?_
        refine ih v m (k + 1) 0  hX (by first | assumption | omega | (unfold R32 at *; omega) | (unfold R64 at *; omega) | (simp only [R32, R64] at *; omega)) (by first | assumption | omega | (unfold R32 at *; omega) | (unfold R64 at *; omega) | (simp only [R32, R64] at *; omega)) (by first | assumption | omega | (unfold R32 at *; omega) | (unfold R64 at *; omega) | (simp only [R32, R64] at *; omega)) (by first | assumption | omega | (unfold R32 at *; omega) | (unfold R64 at *; omega) | (simp only [R32, R64] at *; omega)) hQ
    · show WV _ _ _ 56 _ _ _ _ _
      rw [if_pos h_53] at hQ
      refine r_ex 3 (pc' := 59) (lo' := [some (.inr (.inr (some 103))), some (.inl m), some (.inl k), some (.inl s)]) (st' := [.inl k, .inl s, .inr (.inr (some 103))]) rfl ?_
      have hp_9 : 0 ≤ s ∧ s < 4096 := (by first | assumption | omega | (unfold R32 at *; omega) | (unfold R64 at *; omega) | (simp only [R32, R64] at *; omega))
      have hp_10 : R32 k := (by first | assumption | omega | (unfold R32 at *; omega) | (unfold R64 at *; omega) | (simp only [R32, R64] at *; omega))
      refine r_call (m := 114) (args := [.inr (.inr (some 103)), .inl s, .inl k]) (n' := 119) (pc' := 62) (lo' := [some (.inr (.inr (some 103))), some (.inl m), some (.inl k), some (.inl s)]) (st' := []) (I := .invokevirtual 114) (pc0 := 59) (len := 3) rfl rfl rfl (e_cl_isOpen hX hp_9 hp_10) ?_
      show WV _ _ _ 62 _ [.inl (cl_isOpen v s k)] _ _ _
      have hb_11 := n_cl_isOpen (v := v) (s := s) (n := k) hX hp_9 hp_10
      refine n_if_eq (pc0 := 62) (len := 3) (t := 106) rfl (by first | assumption | omega | (unfold R32 at *; omega) | (unfold R64 at *; omega) | (simp only [R32, R64] at *; omega)) (fun h_62 => ?_) (fun h_62 => ?_)
      · show WV _ _ _ 106 _ _ _ _ _
        rw [if_pos h_62] at hQ
        refine r_ex 2 (pc' := 40) (lo' := [some (.inr (.inr (some 103))), some (.inl m), some (.inl k), some (.inl (s + 1))]) (st' := []) rfl ?_
        refine ih v m k (s + 1)  hX (by first | assumption | omega | (unfold R32 at *; omega) | (unfold R64 at *; omega) | (simp only [R32, R64] at *; omega)) (by first | assumption | omega | (unfold R32 at *; omega) | (unfold R64 at *; omega) | (simp only [R32, R64] at *; omega)) (by first | assumption | omega | (unfold R32 at *; omega) | (unfold R64 at *; omega) | (simp only [R32, R64] at *; omega)) (by first | assumption | omega | (unfold R32 at *; omega) | (unfold R64 at *; omega) | (simp only [R32, R64] at *; omega)) hQ
      · show WV _ _ _ 65 _ _ _ _ _
        rw [if_neg h_62] at hQ
        refine r_ex 5 (pc' := 72) (lo' := [some (.inr (.inr (some 103))), some (.inl m), some (.inl k), some (.inl s)]) (st' := [.inl (pm_or m s), .inr (.inr (some 67))]) rfl ?_
        refine r_puti2 (j := 1) (pc' := 75) (pc0 := 72) (len := 3) rfl (s_67 _) rfl rfl rfl (Or.inl rfl) rfl rfl ?_
        have hX_12 : XI (v2 v 67 1 (pm_or m s)) := XI.put hX (show 0 ≤ (pm_or m s) ∧ (pm_or m s) ≤ 4095 from (by have := or_in (x := m) (y := s) (k := 12) (by omega) (by omega) (by omega); omega))
        refine r_ex 2 (pc' := 79) (lo' := [some (.inr (.inr (some 103))), some (.inl m), some (.inl k), some (.inl s)]) (st' := [.inr (.inr (some 91))]) rfl ?_
        refine r_call (m := 74) (args := [.inr (.inr (some 91))]) (n' := 119) (pc' := 82) (lo' := [some (.inr (.inr (some 103))), some (.inl m), some (.inl k), some (.inl s)]) (st' := []) (I := .invokevirtual 74) (pc0 := 79) (len := 3) rfl rfl rfl (x_play91 hX_12) ?_
        show WV _ _ _ 82 _ [] _ (xplay 91 (v2 v 67 1 (pm_or m s))) _
        have hX_13 : XI (xplay 91 (v2 v 67 1 (pm_or m s))) := XI_play91 (v := (v2 v 67 1 (pm_or m s))) hX_12
        refine r_ex 3 (pc' := 89) (lo' := [some (.inr (.inr (some 103))), some (.inl m), some (.inl k), some (.inl s)]) (st' := [.inl ((xplay 91 (v2 v 67 1 (pm_or m s))) 91 18)]) rfl ?_
        have hb_14 : 0 ≤ ((xplay 91 (v2 v 67 1 (pm_or m s))) 91 18) ∧ ((xplay 91 (v2 v 67 1 (pm_or m s))) 91 18) ≤ 1 := hX_13 91 18
        refine n_if_ne (pc0 := 89) (len := 3) (t := 94) rfl (by first | assumption | omega | (unfold R32 at *; omega) | (unfold R64 at *; omega) | (simp only [R32, R64] at *; omega)) (fun h_89 => ?_) (fun h_89 => ?_)
        · show WV _ _ _ 94 _ _ _ _ _
          rw [if_neg h_89] at hQ
          refine r_ex 4 (pc' := 100) (lo' := [some (.inr (.inr (some 103))), some (.inl m), some (.inl k), some (.inl s)]) (st' := [.inr (.inr (some 91)), .inl s, .inr (.inr (some 103))]) rfl ?_
          refine r_call (m := 120) (args := [.inr (.inr (some 91))]) (n' := 119) (pc' := 103) (lo' := [some (.inr (.inr (some 103))), some (.inl m), some (.inl k), some (.inl s)]) (st' := [.inl s, .inr (.inr (some 103))]) (I := .invokevirtual 120) (pc0 := 100) (len := 3) rfl rfl rfl (e_cl_earsOfStrikes hX_13) ?_
          show WV _ _ _ 103 _ [.inl (cl_earsOfStrikes (xplay 91 (v2 v 67 1 (pm_or m s)))), .inl s, .inr (.inr (some 103))] _ _ _
          have hb_15 := n_cl_earsOfStrikes (v := (xplay 91 (v2 v 67 1 (pm_or m s)))) hX_13
          have hp_16 : 0 ≤ s ∧ s < 4096 := (by first | assumption | omega | (unfold R32 at *; omega) | (unfold R64 at *; omega) | (simp only [R32, R64] at *; omega))
          have hp_17 : 0 ≤ (cl_earsOfStrikes (xplay 91 (v2 v 67 1 (pm_or m s)))) ∧ (cl_earsOfStrikes (xplay 91 (v2 v 67 1 (pm_or m s)))) < 4096 := (by first | assumption | omega | (unfold R32 at *; omega) | (unfold R64 at *; omega) | (simp only [R32, R64] at *; omega))
          refine r_call (m := 116) (args := [.inr (.inr (some 103)), .inl s, .inl (cl_earsOfStrikes (xplay 91 (v2 v 67 1 (pm_or m s))))]) (n' := 119) (pc' := 106) (lo' := [some (.inr (.inr (some 103))), some (.inl m), some (.inl k), some (.inl s)]) (st' := []) (I := .invokevirtual 116) (pc0 := 103) (len := 3) rfl rfl rfl (e_cl_widen hX_13 hp_16 hp_17) ?_
          show WV _ _ _ 106 _ [] _ (cl_widen (xplay 91 (v2 v 67 1 (pm_or m s))) s (cl_earsOfStrikes (xplay 91 (v2 v 67 1 (pm_or m s))))) _
          have hX_18 : XI (cl_widen (xplay 91 (v2 v 67 1 (pm_or m s))) s (cl_earsOfStrikes (xplay 91 (v2 v 67 1 (pm_or m s))))) := i_cl_widen (v := (xplay 91 (v2 v 67 1 (pm_or m s)))) (s := s) (n := (cl_earsOfStrikes (xplay 91 (v2 v 67 1 (pm_or m s))))) hX_13 hp_16 hp_17
          refine r_ex 2 (pc' := 40) (lo' := [some (.inr (.inr (some 103))), some (.inl m), some (.inl k), some (.inl (s + 1))]) (st' := []) rfl ?_
          refine ih (cl_widen (xplay 91 (v2 v 67 1 (pm_or m s))) s (cl_earsOfStrikes (xplay 91 (v2 v 67 1 (pm_or m s))))) m k (s + 1)  hX_18 (by first | assumption | omega | (unfold R32 at *; omega) | (unfold R64 at *; omega) | (simp only [R32, R64] at *; omega)) (by first | assumption | omega | (unfold R32 at *; omega) | (unfold R64 at *; omega) | (simp only [R32, R64] at *; omega)) (by first | assumption | omega | (unfold R32 at *; omega) | (unfold R64 at *; omega) | (simp only [R32, R64] at *; omega)) (by first | assumption | omega | (unfold R32 at *; omega) | (unfold R64 at *; omega) | (simp only [R32, R64] at *; omega)) hQ
        · show WV _ _ _ 92 _ _ _ _ _
          rw [if_pos h_89] at hQ
          refine r_ex 1 (pc' := 93) (lo' := [some (.inr (.inr (some 103))), some (.inl m), some (.inl k), some (.inl s)]) (st' := [.inl s]) rfl ?_
          refine r_ret (rr := some (.inl s)) (I := .ireturn) (pc0 := 93) (len := 1) rfl rfl ?_
          exact hQ hX_13 (by first | assumption | omega | (unfold R32 at *; omega) | (unfold R64 at *; omega) | (simp only [R32, R64] at *; omega))

theorem of_cl_fewestEars_40 {rk : Nat} (hk : (rk < 67 ∨ 67 < rk) ∧ (rk < 73 ∨ 78 < rk) ∧ (rk < 91 ∨ 102 < rk) ∧ (rk < 104 ∨ 104 < rk)) : ∀ (f : Nat) {v : VS} {m : Int} {k : Int} {s : Int}, (cl_fewestEars_40 f v m k s).2 rk = v rk := by
  intro f
  induction f with
  | zero => intro v m k s; rfl
  | succ f ih =>
    intro v m k s
    rw [cl_fewestEars_40]
    by_cases hc_ : s < ((2 : Int) ^ ((v 37 0)).toNat)
    · rw [if_pos hc_]
      by_cases hc_ : (cl_isOpen v s k) = 0
      · rw [if_pos hc_]
        all_goals (rw [ih])
      · rw [if_neg hc_]
        by_cases hc_ : ((xplay 91 (v2 v 67 1 (pm_or m s))) 91 18) = 0
        · rw [if_pos hc_]
          all_goals (show (xplay 91 (v2 v 67 1 (pm_or m s))) rk = _)
          all_goals (rw [o_xplay91 (by omega), v2_row (by omega)])
        · rw [if_neg hc_]
          all_goals (rw [ih, o_cl_widen (by omega), o_xplay91 (by omega), v2_row (by omega)])
    · rw [if_neg hc_]
      by_cases hc_ : (v 37 0) < (k + 1)
      · rw [if_pos hc_]
        all_goals (show v rk = _)
        all_goals rfl
      · rw [if_neg hc_]
        all_goals (rw [ih])
theorem o_cl_fewestEars_40 {rk : Nat} {f : Nat} {v : VS} {m : Int} {k : Int} {s : Int} (hk : (rk < 67 ∨ 67 < rk) ∧ (rk < 73 ∨ 78 < rk) ∧ (rk < 91 ∨ 102 < rk) ∧ (rk < 104 ∨ 104 < rk)) : (cl_fewestEars_40 f v m k s).2 rk = v rk := of_cl_fewestEars_40 hk f

theorem w_cl_fewestEars {X : PX} {d b : Nat} {v : VS}  (hX : XI v)  {Q : Option PV → Nat → VS → Prop} (hQ : XI (cl_fewestEars v).2 → (-1 ≤ (cl_fewestEars v).1 ∧ (cl_fewestEars v).1 < 4096) → Q (some (.inl (cl_fewestEars v).1)) b (cl_fewestEars v).2) : WV X (d + 1 + 1 + 1 + 1 + 1 + 1) 119 0 [some (.inr (.inr (some 103))), none, none, none] [] b v Q := by
  rw [cl_fewestEars] at hQ
  refine r_ex 9 (pc' := 19) (lo' := [some (.inr (.inr (some 103))), some (.inl (v 67 1)), none, none]) (st' := [.inl (v 37 0), .inr (.inr (some 103))]) rfl ?_
  have hb_1 : 0 ≤ (v 67 1) ∧ (v 67 1) ≤ 4095 := hX 67 1
  have hb_2 : 0 ≤ (v 37 0) ∧ (v 37 0) ≤ 12 := hX 37 0
  have hp_3 : 0 ≤ (v 37 0) ∧ (v 37 0) ≤ 12 := (by first | assumption | omega | (unfold R32 at *; omega) | (unfold R64 at *; omega) | (simp only [R32, R64] at *; omega))
  refine r_call (m := 111) (args := [.inr (.inr (some 103)), .inl (v 37 0)]) (n' := 119) (pc' := 22) (lo' := [some (.inr (.inr (some 103))), some (.inl (v 67 1)), none, none]) (st' := []) (I := .invokevirtual 111) (pc0 := 19) (len := 3) rfl rfl rfl (e_cl_openFirst hX hp_3) ?_
  show WV _ _ _ 22 _ [] _ (cl_openFirst v (v 37 0)) _
  have hX_4 : XI (cl_openFirst v (v 37 0)) := i_cl_openFirst (v := v) (n := (v 37 0)) hX hp_3
  refine r_ex 7 (pc' := 35) (lo' := [some (.inr (.inr (some 103))), some (.inl (v 67 1)), some (.inl 0), none]) (st' := [.inl ((cl_openFirst v (v 37 0)) 37 0), .inl 0]) rfl ?_
  have hb_5 : 0 ≤ ((cl_openFirst v (v 37 0)) 37 0) ∧ ((cl_openFirst v (v 37 0)) 37 0) ≤ 12 := hX_4 37 0
  refine n_ic_gt (pc0 := 35) (len := 3) (t := 118) rfl (by first | assumption | omega | (unfold R32 at *; omega) | (unfold R64 at *; omega) | (simp only [R32, R64] at *; omega)) (by first | assumption | omega | (unfold R32 at *; omega) | (unfold R64 at *; omega) | (simp only [R32, R64] at *; omega)) (fun h_35 => ?_) (fun h_35 => ?_)
  · show WV _ _ _ 118 _ _ _ _ _
    rw [if_pos h_35] at hQ
    refine r_ex 1 (pc' := 119) (lo' := [some (.inr (.inr (some 103))), some (.inl (v 67 1)), some (.inl 0), none]) (st' := [.inl (-1)]) rfl ?_
    refine r_ret (rr := some (.inl (-1))) (I := .ireturn) (pc0 := 119) (len := 1) rfl rfl ?_
    exact hQ hX_4 (by first | assumption | omega | (unfold R32 at *; omega) | (unfold R64 at *; omega) | (simp only [R32, R64] at *; omega))
  · show WV _ _ _ 38 _ _ _ _ _
    rw [if_neg h_35] at hQ
    refine r_ex 2 (pc' := 40) (lo' := [some (.inr (.inr (some 103))), some (.inl (v 67 1)), some (.inl 0), some (.inl 0)]) (st' := []) rfl ?_
    exact l_cl_fewestEars_40 54001 (cl_openFirst v (v 37 0)) (v 67 1) 0 0  hX_4 (by first | assumption | omega | (unfold R32 at *; omega) | (unfold R64 at *; omega) | (simp only [R32, R64] at *; omega)) (by first | assumption | omega | (unfold R32 at *; omega) | (unfold R64 at *; omega) | (simp only [R32, R64] at *; omega)) (by first | assumption | omega | (unfold R32 at *; omega) | (unfold R64 at *; omega) | (simp only [R32, R64] at *; omega)) (by first | assumption | omega | (unfold R32 at *; omega) | (unfold R64 at *; omega) | (simp only [R32, R64] at *; omega)) hQ

theorem e_cl_fewestEars {X : PX} {d b : Nat} {v : VS}  (hX : XI v)  : EvV X (d + 1 + 1 + 1 + 1 + 1 + 1) 119 [.inr (.inr (some 103))] b v (some (.inl (cl_fewestEars v).1)) b ((cl_fewestEars v).2) := EvV.of (w_cl_fewestEars hX  (fun _ _ => ⟨rfl, rfl, rfl⟩))

theorem i_cl_fewestEars {v : VS}  (hX : XI v)  : XI ((cl_fewestEars v).2) := by
  have q : WV (0, fun _ => 0, none) (0 + 1 + 1 + 1 + 1 + 1 + 1) 119 0 [some (.inr (.inr (some 103))), none, none, none] [] 1 v (fun _ _ _ => XI ((cl_fewestEars v).2)) := w_cl_fewestEars (X := (0, fun _ => 0, none)) (d := 0) (b := 1) hX  (fun q _ => q)
  obtain ⟨_, _, _, _, _, _, _, q⟩ := q
  exact q

theorem n_cl_fewestEars {v : VS}  (hX : XI v)  : -1 ≤ (cl_fewestEars v).1 ∧ (cl_fewestEars v).1 < 4096 := by
  have q : WV (0, fun _ => 0, none) (0 + 1 + 1 + 1 + 1 + 1 + 1) 119 0 [some (.inr (.inr (some 103))), none, none, none] [] 1 v (fun _ _ _ => -1 ≤ (cl_fewestEars v).1 ∧ (cl_fewestEars v).1 < 4096) := w_cl_fewestEars (X := (0, fun _ => 0, none)) (d := 0) (b := 1) hX  (fun _ q => q)
  obtain ⟨_, _, _, _, _, _, _, q⟩ := q
  exact q

theorem o_cl_fewestEars {rk : Nat} {v : VS}  (hk : (rk < 67 ∨ 67 < rk) ∧ (rk < 73 ∨ 78 < rk) ∧ (rk < 91 ∨ 102 < rk) ∧ (rk < 104 ∨ 104 < rk)) : (cl_fewestEars v ).2 rk = v rk := by
  unfold cl_fewestEars
  by_cases hc_ : ((cl_openFirst v (v 37 0)) 37 0) < 0
  · rw [if_pos hc_]
    all_goals (show (cl_openFirst v (v 37 0)) rk = _)
    all_goals (rw [o_cl_openFirst (by omega)])
  · rw [if_neg hc_]
    all_goals (rw [o_cl_fewestEars_40 (by omega), o_cl_openFirst (by omega)])

def cl_night (v : VS) (s : Int) (w : Int) : Int × VS :=
  (if 0 ≤ s ∧ s < v 33 1 then (if w < 0 then ((-2), v) else (if 1 < w then ((-2), v) else ((cl_setAnswer ((cl_fewestChurches (v2 (cl_asTold v) 67 8 s)).2) ((cl_fewestChurches (v2 (cl_asTold v) 67 8 s)).1) w), (cl_fewestChurches (v2 (cl_asTold v) 67 8 s)).2))) else ((-2), v))
theorem w_cl_night {X : PX} {d b : Nat} {v : VS} {s : Int} {w : Int} (hX : XI v) (hp_a : R32 s) (hp_b : R32 w) {Q : Option PV → Nat → VS → Prop} (hQ : XI (cl_night v s w).2 → Q (some (.inl (cl_night v s w).1)) b (cl_night v s w).2) : WV X (d + 1 + 1 + 1 + 1 + 1 + 1 + 1) 109 0 [some (.inr (.inr (some 0))), some (.inl s), some (.inl w)] [] b v Q := by
  rw [cl_night] at hQ
  refine r_ex 2 (pc' := 2) (lo' := [some (.inr (.inr (some 0))), some (.inl s), some (.inl w)]) (st' := [.inl s, .inr (.inr (some 0))]) rfl ?_
  have hp_1 : R32 s := (by first | assumption | omega | (unfold R32 at *; omega) | (unfold R64 at *; omega) | (simp only [R32, R64] at *; omega))
  have hb_2 : 0 ≤ v 33 1 ∧ v 33 1 ≤ 300 := hX 33 1
  refine r_callb (P := 0 ≤ s ∧ s < v 33 1) (m := 67) (args := [.inr (.inr (some 0)), .inl s]) (n' := 109) (pc' := 5) (lo' := [some (.inr (.inr (some 0))), some (.inl s), some (.inl w)]) (st' := []) (I := .invokevirtual 67) (pc0 := 2) (len := 3) rfl rfl rfl (e_cl_isSecond hX hp_1) (fun h_2 => ?_) (fun h_2 => ?_)
  · show WV _ _ _ 5 _ _ _ _ _
    rw [if_pos h_2] at hQ
    refine r_ex 2 (pc' := 9) (lo' := [some (.inr (.inr (some 0))), some (.inl s), some (.inl w)]) (st' := [.inl w]) rfl ?_
    refine n_if_lt (pc0 := 9) (len := 3) (t := 17) rfl (by first | assumption | omega | (unfold R32 at *; omega) | (unfold R64 at *; omega) | (simp only [R32, R64] at *; omega)) (fun h_9 => ?_) (fun h_9 => ?_)
    · show WV _ _ _ 17 _ _ _ _ _
      rw [if_pos h_9] at hQ
      refine r_ex 1 (pc' := 19) (lo' := [some (.inr (.inr (some 0))), some (.inl s), some (.inl w)]) (st' := [.inl (-2)]) rfl ?_
      refine r_ret (rr := some (.inl (-2))) (I := .ireturn) (pc0 := 19) (len := 1) rfl rfl ?_
      exact hQ hX 
    · show WV _ _ _ 12 _ _ _ _ _
      rw [if_neg h_9] at hQ
      refine r_ex 2 (pc' := 14) (lo' := [some (.inr (.inr (some 0))), some (.inl s), some (.inl w)]) (st' := [.inl 1, .inl w]) rfl ?_
      refine n_ic_le (pc0 := 14) (len := 3) (t := 20) rfl (by first | assumption | omega | (unfold R32 at *; omega) | (unfold R64 at *; omega) | (simp only [R32, R64] at *; omega)) (by first | assumption | omega | (unfold R32 at *; omega) | (unfold R64 at *; omega) | (simp only [R32, R64] at *; omega)) (fun h_14 => ?_) (fun h_14 => ?_)
      · show WV _ _ _ 20 _ _ _ _ _
        rw [if_neg h_14] at hQ
        refine r_ex 4 (pc' := 28) (lo' := [some (.inr (.inr (some 0))), some (.inl s), some (.inl w)]) (st' := [.inr (.inr (some 33)), .inr (.inr (some 67))]) rfl ?_
        refine r_call (m := 73) (args := [.inr (.inr (some 67)), .inr (.inr (some 33))]) (n' := 109) (pc' := 31) (lo' := [some (.inr (.inr (some 0))), some (.inl s), some (.inl w)]) (st' := []) (I := .invokevirtual 73) (pc0 := 28) (len := 3) rfl rfl rfl (e_cl_asTold hX) ?_
        show WV _ _ _ 31 _ [] _ (cl_asTold v) _
        have hX_3 : XI (cl_asTold v) := i_cl_asTold (v := v) hX
        refine r_ex 3 (pc' := 36) (lo' := [some (.inr (.inr (some 0))), some (.inl s), some (.inl w)]) (st' := [.inl s, .inr (.inr (some 67))]) rfl ?_
        refine r_puti2 (j := 8) (pc' := 39) (pc0 := 36) (len := 3) rfl (s_67 _) rfl rfl rfl (Or.inl rfl) rfl rfl ?_
        have hX_4 : XI (v2 (cl_asTold v) 67 8 s) := XI.put hX_3 (show 0 ≤ s ∧ s ≤ 300 from (by first | assumption | omega | (unfold R32 at *; omega) | (unfold R64 at *; omega) | (simp only [R32, R64] at *; omega)))
        refine r_ex 2 (pc' := 43) (lo' := [some (.inr (.inr (some 0))), some (.inl s), some (.inl w)]) (st' := [.inr (.inr (some 103))]) rfl ?_
        refine r_call (m := 110) (args := [.inr (.inr (some 103))]) (n' := 109) (pc' := 46) (lo' := [some (.inr (.inr (some 0))), some (.inl s), some (.inl w)]) (st' := []) (I := .invokevirtual 110) (pc0 := 43) (len := 3) rfl rfl rfl (e_cl_fewestChurches hX_4) ?_
        show WV _ _ _ 46 _ [.inl ((cl_fewestChurches (v2 (cl_asTold v) 67 8 s)).1)] _ (cl_fewestChurches (v2 (cl_asTold v) 67 8 s)).2 _
        have hX_5 : XI (cl_fewestChurches (v2 (cl_asTold v) 67 8 s)).2 := i_cl_fewestChurches (v := (v2 (cl_asTold v) 67 8 s)) hX_4
        have hb_6 := n_cl_fewestChurches (v := (v2 (cl_asTold v) 67 8 s)) hX_4
        refine r_ex 1 (pc' := 47) (lo' := [some (.inr (.inr (some 0))), some (.inl s), some (.inl w)]) (st' := [.inl w, .inl ((cl_fewestChurches (v2 (cl_asTold v) 67 8 s)).1)]) rfl ?_
        have hp_7 : -1 ≤ ((cl_fewestChurches (v2 (cl_asTold v) 67 8 s)).1) ∧ ((cl_fewestChurches (v2 (cl_asTold v) 67 8 s)).1) < 4096 := (by first | assumption | omega | (unfold R32 at *; omega) | (unfold R64 at *; omega) | (simp only [R32, R64] at *; omega))
        have hp_8 : R32 w := (by first | assumption | omega | (unfold R32 at *; omega) | (unfold R64 at *; omega) | (simp only [R32, R64] at *; omega))
        refine r_call (m := 117) (args := [.inl ((cl_fewestChurches (v2 (cl_asTold v) 67 8 s)).1), .inl w]) (n' := 109) (pc' := 50) (lo' := [some (.inr (.inr (some 0))), some (.inl s), some (.inl w)]) (st' := []) (I := .invokestatic 117) (pc0 := 47) (len := 3) rfl rfl rfl (e_cl_setAnswer hX_5 hp_7 hp_8) ?_
        show WV _ _ _ 50 _ [.inl (cl_setAnswer ((cl_fewestChurches (v2 (cl_asTold v) 67 8 s)).2) ((cl_fewestChurches (v2 (cl_asTold v) 67 8 s)).1) w)] _ _ _
        refine r_ret (rr := some (.inl (cl_setAnswer ((cl_fewestChurches (v2 (cl_asTold v) 67 8 s)).2) ((cl_fewestChurches (v2 (cl_asTold v) 67 8 s)).1) w))) (I := .ireturn) (pc0 := 50) (len := 1) rfl rfl ?_
        exact hQ hX_5 
      · show WV _ _ _ 17 _ _ _ _ _
        rw [if_pos h_14] at hQ
        refine r_ex 1 (pc' := 19) (lo' := [some (.inr (.inr (some 0))), some (.inl s), some (.inl w)]) (st' := [.inl (-2)]) rfl ?_
        refine r_ret (rr := some (.inl (-2))) (I := .ireturn) (pc0 := 19) (len := 1) rfl rfl ?_
        exact hQ hX 
  · show WV _ _ _ 5 _ _ _ _ _
    rw [if_neg h_2] at hQ
    refine r_ex 2 (pc' := 19) (lo' := [some (.inr (.inr (some 0))), some (.inl s), some (.inl w)]) (st' := [.inl (-2)]) rfl ?_
    refine r_ret (rr := some (.inl (-2))) (I := .ireturn) (pc0 := 19) (len := 1) rfl rfl ?_
    exact hQ hX 

theorem e_cl_night {X : PX} {d b : Nat} {v : VS} {s : Int} {w : Int} (hX : XI v) (hp_a : R32 s) (hp_b : R32 w) : EvV X (d + 1 + 1 + 1 + 1 + 1 + 1 + 1) 109 [.inr (.inr (some 0)), .inl s, .inl w] b v (some (.inl (cl_night v s w).1)) b ((cl_night v s w).2) := EvV.of (w_cl_night hX hp_a hp_b (fun _ => ⟨rfl, rfl, rfl⟩))

theorem i_cl_night {v : VS} {s : Int} {w : Int} (hX : XI v) (hp_a : R32 s) (hp_b : R32 w) : XI ((cl_night v s w).2) := by
  have q : WV (0, fun _ => 0, none) (0 + 1 + 1 + 1 + 1 + 1 + 1 + 1) 109 0 [some (.inr (.inr (some 0))), some (.inl s), some (.inl w)] [] 1 v (fun _ _ _ => XI ((cl_night v s w).2)) := w_cl_night (X := (0, fun _ => 0, none)) (d := 0) (b := 1) hX hp_a hp_b (fun q => q)
  obtain ⟨_, _, _, _, _, _, _, q⟩ := q
  exact q

theorem o_cl_night {rk : Nat} {v : VS} {s : Int} {w : Int} (hk : (rk < 67 ∨ 78 < rk) ∧ (rk < 91 ∨ 102 < rk) ∧ (rk < 104 ∨ 104 < rk)) : (cl_night v s w).2 rk = v rk := by
  unfold cl_night
  by_cases hc_ : 0 ≤ s ∧ s < v 33 1
  · rw [if_pos hc_]
    by_cases hc_ : w < 0
    · rw [if_pos hc_]
      all_goals (show v rk = _)
      all_goals rfl
    · rw [if_neg hc_]
      by_cases hc_ : 1 < w
      · rw [if_pos hc_]
        all_goals (show v rk = _)
        all_goals rfl
      · rw [if_neg hc_]
        all_goals (show ((cl_fewestChurches (v2 (cl_asTold v) 67 8 s)).2) rk = _)
        all_goals (rw [o_cl_fewestChurches (by omega), v2_row (by omega), o_cl_asTold (by omega)])
  · rw [if_neg hc_]
    all_goals (show v rk = _)
    all_goals rfl

def cl_spare (v : VS) (c : Int) (w : Int) : Int × VS :=
  (if 0 ≤ c ∧ c < v 33 0 then (if w < 0 then ((-2), v) else (if 1 < w then ((-2), v) else ((cl_setAnswer ((cl_fewestEars (v2 (cl_asTold v) 67 7 c)).2) ((cl_fewestEars (v2 (cl_asTold v) 67 7 c)).1) w), (cl_fewestEars (v2 (cl_asTold v) 67 7 c)).2))) else ((-2), v))
theorem w_cl_spare {X : PX} {d b : Nat} {v : VS} {c : Int} {w : Int} (hX : XI v) (hp_a : R32 c) (hp_b : R32 w) {Q : Option PV → Nat → VS → Prop} (hQ : XI (cl_spare v c w).2 → Q (some (.inl (cl_spare v c w).1)) b (cl_spare v c w).2) : WV X (d + 1 + 1 + 1 + 1 + 1 + 1 + 1) 118 0 [some (.inr (.inr (some 0))), some (.inl c), some (.inl w)] [] b v Q := by
  rw [cl_spare] at hQ
  refine r_ex 2 (pc' := 2) (lo' := [some (.inr (.inr (some 0))), some (.inl c), some (.inl w)]) (st' := [.inl c, .inr (.inr (some 0))]) rfl ?_
  have hp_1 : R32 c := (by first | assumption | omega | (unfold R32 at *; omega) | (unfold R64 at *; omega) | (simp only [R32, R64] at *; omega))
  have hb_2 : 0 ≤ v 33 0 ∧ v 33 0 ≤ 9 := hX 33 0
  refine r_callb (P := 0 ≤ c ∧ c < v 33 0) (m := 62) (args := [.inr (.inr (some 0)), .inl c]) (n' := 118) (pc' := 5) (lo' := [some (.inr (.inr (some 0))), some (.inl c), some (.inl w)]) (st' := []) (I := .invokevirtual 62) (pc0 := 2) (len := 3) rfl rfl rfl (e_cl_isChurch hX hp_1) (fun h_2 => ?_) (fun h_2 => ?_)
  · show WV _ _ _ 5 _ _ _ _ _
    rw [if_pos h_2] at hQ
    refine r_ex 2 (pc' := 9) (lo' := [some (.inr (.inr (some 0))), some (.inl c), some (.inl w)]) (st' := [.inl w]) rfl ?_
    refine n_if_lt (pc0 := 9) (len := 3) (t := 17) rfl (by first | assumption | omega | (unfold R32 at *; omega) | (unfold R64 at *; omega) | (simp only [R32, R64] at *; omega)) (fun h_9 => ?_) (fun h_9 => ?_)
    · show WV _ _ _ 17 _ _ _ _ _
      rw [if_pos h_9] at hQ
      refine r_ex 1 (pc' := 19) (lo' := [some (.inr (.inr (some 0))), some (.inl c), some (.inl w)]) (st' := [.inl (-2)]) rfl ?_
      refine r_ret (rr := some (.inl (-2))) (I := .ireturn) (pc0 := 19) (len := 1) rfl rfl ?_
      exact hQ hX 
    · show WV _ _ _ 12 _ _ _ _ _
      rw [if_neg h_9] at hQ
      refine r_ex 2 (pc' := 14) (lo' := [some (.inr (.inr (some 0))), some (.inl c), some (.inl w)]) (st' := [.inl 1, .inl w]) rfl ?_
      refine n_ic_le (pc0 := 14) (len := 3) (t := 20) rfl (by first | assumption | omega | (unfold R32 at *; omega) | (unfold R64 at *; omega) | (simp only [R32, R64] at *; omega)) (by first | assumption | omega | (unfold R32 at *; omega) | (unfold R64 at *; omega) | (simp only [R32, R64] at *; omega)) (fun h_14 => ?_) (fun h_14 => ?_)
      · show WV _ _ _ 20 _ _ _ _ _
        rw [if_neg h_14] at hQ
        refine r_ex 4 (pc' := 28) (lo' := [some (.inr (.inr (some 0))), some (.inl c), some (.inl w)]) (st' := [.inr (.inr (some 33)), .inr (.inr (some 67))]) rfl ?_
        refine r_call (m := 73) (args := [.inr (.inr (some 67)), .inr (.inr (some 33))]) (n' := 118) (pc' := 31) (lo' := [some (.inr (.inr (some 0))), some (.inl c), some (.inl w)]) (st' := []) (I := .invokevirtual 73) (pc0 := 28) (len := 3) rfl rfl rfl (e_cl_asTold hX) ?_
        show WV _ _ _ 31 _ [] _ (cl_asTold v) _
        have hX_3 : XI (cl_asTold v) := i_cl_asTold (v := v) hX
        refine r_ex 3 (pc' := 36) (lo' := [some (.inr (.inr (some 0))), some (.inl c), some (.inl w)]) (st' := [.inl c, .inr (.inr (some 67))]) rfl ?_
        refine r_puti2 (j := 7) (pc' := 39) (pc0 := 36) (len := 3) rfl (s_67 _) rfl rfl rfl (Or.inl rfl) rfl rfl ?_
        have hX_4 : XI (v2 (cl_asTold v) 67 7 c) := XI.put hX_3 (show -1 ≤ c ∧ c ≤ 8 from (by first | assumption | omega | (unfold R32 at *; omega) | (unfold R64 at *; omega) | (simp only [R32, R64] at *; omega)))
        refine r_ex 2 (pc' := 43) (lo' := [some (.inr (.inr (some 0))), some (.inl c), some (.inl w)]) (st' := [.inr (.inr (some 103))]) rfl ?_
        refine r_call (m := 119) (args := [.inr (.inr (some 103))]) (n' := 118) (pc' := 46) (lo' := [some (.inr (.inr (some 0))), some (.inl c), some (.inl w)]) (st' := []) (I := .invokevirtual 119) (pc0 := 43) (len := 3) rfl rfl rfl (e_cl_fewestEars hX_4) ?_
        show WV _ _ _ 46 _ [.inl ((cl_fewestEars (v2 (cl_asTold v) 67 7 c)).1)] _ (cl_fewestEars (v2 (cl_asTold v) 67 7 c)).2 _
        have hX_5 : XI (cl_fewestEars (v2 (cl_asTold v) 67 7 c)).2 := i_cl_fewestEars (v := (v2 (cl_asTold v) 67 7 c)) hX_4
        have hb_6 := n_cl_fewestEars (v := (v2 (cl_asTold v) 67 7 c)) hX_4
        refine r_ex 1 (pc' := 47) (lo' := [some (.inr (.inr (some 0))), some (.inl c), some (.inl w)]) (st' := [.inl w, .inl ((cl_fewestEars (v2 (cl_asTold v) 67 7 c)).1)]) rfl ?_
        have hp_7 : -1 ≤ ((cl_fewestEars (v2 (cl_asTold v) 67 7 c)).1) ∧ ((cl_fewestEars (v2 (cl_asTold v) 67 7 c)).1) < 4096 := (by first | assumption | omega | (unfold R32 at *; omega) | (unfold R64 at *; omega) | (simp only [R32, R64] at *; omega))
        have hp_8 : R32 w := (by first | assumption | omega | (unfold R32 at *; omega) | (unfold R64 at *; omega) | (simp only [R32, R64] at *; omega))
        refine r_call (m := 117) (args := [.inl ((cl_fewestEars (v2 (cl_asTold v) 67 7 c)).1), .inl w]) (n' := 118) (pc' := 50) (lo' := [some (.inr (.inr (some 0))), some (.inl c), some (.inl w)]) (st' := []) (I := .invokestatic 117) (pc0 := 47) (len := 3) rfl rfl rfl (e_cl_setAnswer hX_5 hp_7 hp_8) ?_
        show WV _ _ _ 50 _ [.inl (cl_setAnswer ((cl_fewestEars (v2 (cl_asTold v) 67 7 c)).2) ((cl_fewestEars (v2 (cl_asTold v) 67 7 c)).1) w)] _ _ _
        refine r_ret (rr := some (.inl (cl_setAnswer ((cl_fewestEars (v2 (cl_asTold v) 67 7 c)).2) ((cl_fewestEars (v2 (cl_asTold v) 67 7 c)).1) w))) (I := .ireturn) (pc0 := 50) (len := 1) rfl rfl ?_
        exact hQ hX_5 
      · show WV _ _ _ 17 _ _ _ _ _
        rw [if_pos h_14] at hQ
        refine r_ex 1 (pc' := 19) (lo' := [some (.inr (.inr (some 0))), some (.inl c), some (.inl w)]) (st' := [.inl (-2)]) rfl ?_
        refine r_ret (rr := some (.inl (-2))) (I := .ireturn) (pc0 := 19) (len := 1) rfl rfl ?_
        exact hQ hX 
  · show WV _ _ _ 5 _ _ _ _ _
    rw [if_neg h_2] at hQ
    refine r_ex 2 (pc' := 19) (lo' := [some (.inr (.inr (some 0))), some (.inl c), some (.inl w)]) (st' := [.inl (-2)]) rfl ?_
    refine r_ret (rr := some (.inl (-2))) (I := .ireturn) (pc0 := 19) (len := 1) rfl rfl ?_
    exact hQ hX 

theorem e_cl_spare {X : PX} {d b : Nat} {v : VS} {c : Int} {w : Int} (hX : XI v) (hp_a : R32 c) (hp_b : R32 w) : EvV X (d + 1 + 1 + 1 + 1 + 1 + 1 + 1) 118 [.inr (.inr (some 0)), .inl c, .inl w] b v (some (.inl (cl_spare v c w).1)) b ((cl_spare v c w).2) := EvV.of (w_cl_spare hX hp_a hp_b (fun _ => ⟨rfl, rfl, rfl⟩))

theorem i_cl_spare {v : VS} {c : Int} {w : Int} (hX : XI v) (hp_a : R32 c) (hp_b : R32 w) : XI ((cl_spare v c w).2) := by
  have q : WV (0, fun _ => 0, none) (0 + 1 + 1 + 1 + 1 + 1 + 1 + 1) 118 0 [some (.inr (.inr (some 0))), some (.inl c), some (.inl w)] [] 1 v (fun _ _ _ => XI ((cl_spare v c w).2)) := w_cl_spare (X := (0, fun _ => 0, none)) (d := 0) (b := 1) hX hp_a hp_b (fun q => q)
  obtain ⟨_, _, _, _, _, _, _, q⟩ := q
  exact q

theorem o_cl_spare {rk : Nat} {v : VS} {c : Int} {w : Int} (hk : (rk < 67 ∨ 78 < rk) ∧ (rk < 91 ∨ 102 < rk) ∧ (rk < 104 ∨ 104 < rk)) : (cl_spare v c w).2 rk = v rk := by
  unfold cl_spare
  by_cases hc_ : 0 ≤ c ∧ c < v 33 0
  · rw [if_pos hc_]
    by_cases hc_ : w < 0
    · rw [if_pos hc_]
      all_goals (show v rk = _)
      all_goals rfl
    · rw [if_neg hc_]
      by_cases hc_ : 1 < w
      · rw [if_pos hc_]
        all_goals (show v rk = _)
        all_goals rfl
      · rw [if_neg hc_]
        all_goals (show ((cl_fewestEars (v2 (cl_asTold v) 67 7 c)).2) rk = _)
        all_goals (rw [o_cl_fewestEars (by omega), v2_row (by omega), o_cl_asTold (by omega)])
  · rw [if_neg hc_]
    all_goals (show v rk = _)
    all_goals rfl

def cl_hush (v : VS) (n : Int) : Int × VS :=
  (if 0 < v 33 2 then (if n < 0 then ((-2), v) else (if 300 < n then ((-2), v) else ((cl_setAnswer ((cl_fewestEars (v2 (cl_asTold v) 67 9 n)).2) ((cl_fewestEars (v2 (cl_asTold v) 67 9 n)).1) 0), (cl_fewestEars (v2 (cl_asTold v) 67 9 n)).2))) else ((-2), v))
theorem w_cl_hush {X : PX} {d b : Nat} {v : VS} {n : Int} (hX : XI v) (hp_a : R32 n) {Q : Option PV → Nat → VS → Prop} (hQ : XI (cl_hush v n).2 → Q (some (.inl (cl_hush v n).1)) b (cl_hush v n).2) : WV X (d + 1 + 1 + 1 + 1 + 1 + 1 + 1) 121 0 [some (.inr (.inr (some 0))), some (.inl n)] [] b v Q := by
  rw [cl_hush] at hQ
  refine r_ex 1 (pc' := 1) (lo' := [some (.inr (.inr (some 0))), some (.inl n)]) (st' := [.inr (.inr (some 0))]) rfl ?_
  have hb_1 : 0 ≤ v 33 2 ∧ v 33 2 ≤ 2001 := hX 33 2
  refine r_callb (P := 0 < v 33 2) (m := 71) (args := [.inr (.inr (some 0))]) (n' := 121) (pc' := 4) (lo' := [some (.inr (.inr (some 0))), some (.inl n)]) (st' := []) (I := .invokevirtual 71) (pc0 := 1) (len := 3) rfl rfl rfl (e_cl_hasBay hX) (fun h_1 => ?_) (fun h_1 => ?_)
  · show WV _ _ _ 4 _ _ _ _ _
    rw [if_pos h_1] at hQ
    refine r_ex 2 (pc' := 8) (lo' := [some (.inr (.inr (some 0))), some (.inl n)]) (st' := [.inl n]) rfl ?_
    refine n_if_lt (pc0 := 8) (len := 3) (t := 18) rfl (by first | assumption | omega | (unfold R32 at *; omega) | (unfold R64 at *; omega) | (simp only [R32, R64] at *; omega)) (fun h_8 => ?_) (fun h_8 => ?_)
    · show WV _ _ _ 18 _ _ _ _ _
      rw [if_pos h_8] at hQ
      refine r_ex 1 (pc' := 20) (lo' := [some (.inr (.inr (some 0))), some (.inl n)]) (st' := [.inl (-2)]) rfl ?_
      refine r_ret (rr := some (.inl (-2))) (I := .ireturn) (pc0 := 20) (len := 1) rfl rfl ?_
      exact hQ hX 
    · show WV _ _ _ 11 _ _ _ _ _
      rw [if_neg h_8] at hQ
      refine r_ex 2 (pc' := 15) (lo' := [some (.inr (.inr (some 0))), some (.inl n)]) (st' := [.inl 300, .inl n]) rfl ?_
      refine n_ic_le (pc0 := 15) (len := 3) (t := 21) rfl (by first | assumption | omega | (unfold R32 at *; omega) | (unfold R64 at *; omega) | (simp only [R32, R64] at *; omega)) (by first | assumption | omega | (unfold R32 at *; omega) | (unfold R64 at *; omega) | (simp only [R32, R64] at *; omega)) (fun h_15 => ?_) (fun h_15 => ?_)
      · show WV _ _ _ 21 _ _ _ _ _
        rw [if_neg h_15] at hQ
        refine r_ex 4 (pc' := 29) (lo' := [some (.inr (.inr (some 0))), some (.inl n)]) (st' := [.inr (.inr (some 33)), .inr (.inr (some 67))]) rfl ?_
        refine r_call (m := 73) (args := [.inr (.inr (some 67)), .inr (.inr (some 33))]) (n' := 121) (pc' := 32) (lo' := [some (.inr (.inr (some 0))), some (.inl n)]) (st' := []) (I := .invokevirtual 73) (pc0 := 29) (len := 3) rfl rfl rfl (e_cl_asTold hX) ?_
        show WV _ _ _ 32 _ [] _ (cl_asTold v) _
        have hX_2 : XI (cl_asTold v) := i_cl_asTold (v := v) hX
        refine r_ex 3 (pc' := 37) (lo' := [some (.inr (.inr (some 0))), some (.inl n)]) (st' := [.inl n, .inr (.inr (some 67))]) rfl ?_
        refine r_puti2 (j := 9) (pc' := 40) (pc0 := 37) (len := 3) rfl (s_67 _) rfl rfl rfl (Or.inl rfl) rfl rfl ?_
        have hX_3 : XI (v2 (cl_asTold v) 67 9 n) := XI.put hX_2 (show 0 ≤ n ∧ n ≤ 300 from (by first | assumption | omega | (unfold R32 at *; omega) | (unfold R64 at *; omega) | (simp only [R32, R64] at *; omega)))
        refine r_ex 2 (pc' := 44) (lo' := [some (.inr (.inr (some 0))), some (.inl n)]) (st' := [.inr (.inr (some 103))]) rfl ?_
        refine r_call (m := 119) (args := [.inr (.inr (some 103))]) (n' := 121) (pc' := 47) (lo' := [some (.inr (.inr (some 0))), some (.inl n)]) (st' := []) (I := .invokevirtual 119) (pc0 := 44) (len := 3) rfl rfl rfl (e_cl_fewestEars hX_3) ?_
        show WV _ _ _ 47 _ [.inl ((cl_fewestEars (v2 (cl_asTold v) 67 9 n)).1)] _ (cl_fewestEars (v2 (cl_asTold v) 67 9 n)).2 _
        have hX_4 : XI (cl_fewestEars (v2 (cl_asTold v) 67 9 n)).2 := i_cl_fewestEars (v := (v2 (cl_asTold v) 67 9 n)) hX_3
        have hb_5 := n_cl_fewestEars (v := (v2 (cl_asTold v) 67 9 n)) hX_3
        refine r_ex 1 (pc' := 48) (lo' := [some (.inr (.inr (some 0))), some (.inl n)]) (st' := [.inl 0, .inl ((cl_fewestEars (v2 (cl_asTold v) 67 9 n)).1)]) rfl ?_
        have hp_6 : -1 ≤ ((cl_fewestEars (v2 (cl_asTold v) 67 9 n)).1) ∧ ((cl_fewestEars (v2 (cl_asTold v) 67 9 n)).1) < 4096 := (by first | assumption | omega | (unfold R32 at *; omega) | (unfold R64 at *; omega) | (simp only [R32, R64] at *; omega))
        have hp_7 : R32 (0 : Int) := (by first | assumption | omega | (unfold R32 at *; omega) | (unfold R64 at *; omega) | (simp only [R32, R64] at *; omega))
        refine r_call (m := 117) (args := [.inl ((cl_fewestEars (v2 (cl_asTold v) 67 9 n)).1), .inl 0]) (n' := 121) (pc' := 51) (lo' := [some (.inr (.inr (some 0))), some (.inl n)]) (st' := []) (I := .invokestatic 117) (pc0 := 48) (len := 3) rfl rfl rfl (e_cl_setAnswer hX_4 hp_6 hp_7) ?_
        show WV _ _ _ 51 _ [.inl (cl_setAnswer ((cl_fewestEars (v2 (cl_asTold v) 67 9 n)).2) ((cl_fewestEars (v2 (cl_asTold v) 67 9 n)).1) 0)] _ _ _
        refine r_ret (rr := some (.inl (cl_setAnswer ((cl_fewestEars (v2 (cl_asTold v) 67 9 n)).2) ((cl_fewestEars (v2 (cl_asTold v) 67 9 n)).1) 0))) (I := .ireturn) (pc0 := 51) (len := 1) rfl rfl ?_
        exact hQ hX_4 
      · show WV _ _ _ 18 _ _ _ _ _
        rw [if_pos h_15] at hQ
        refine r_ex 1 (pc' := 20) (lo' := [some (.inr (.inr (some 0))), some (.inl n)]) (st' := [.inl (-2)]) rfl ?_
        refine r_ret (rr := some (.inl (-2))) (I := .ireturn) (pc0 := 20) (len := 1) rfl rfl ?_
        exact hQ hX 
  · show WV _ _ _ 4 _ _ _ _ _
    rw [if_neg h_1] at hQ
    refine r_ex 2 (pc' := 20) (lo' := [some (.inr (.inr (some 0))), some (.inl n)]) (st' := [.inl (-2)]) rfl ?_
    refine r_ret (rr := some (.inl (-2))) (I := .ireturn) (pc0 := 20) (len := 1) rfl rfl ?_
    exact hQ hX 

theorem e_cl_hush {X : PX} {d b : Nat} {v : VS} {n : Int} (hX : XI v) (hp_a : R32 n) : EvV X (d + 1 + 1 + 1 + 1 + 1 + 1 + 1) 121 [.inr (.inr (some 0)), .inl n] b v (some (.inl (cl_hush v n).1)) b ((cl_hush v n).2) := EvV.of (w_cl_hush hX hp_a (fun _ => ⟨rfl, rfl, rfl⟩))

theorem i_cl_hush {v : VS} {n : Int} (hX : XI v) (hp_a : R32 n) : XI ((cl_hush v n).2) := by
  have q : WV (0, fun _ => 0, none) (0 + 1 + 1 + 1 + 1 + 1 + 1 + 1) 121 0 [some (.inr (.inr (some 0))), some (.inl n)] [] 1 v (fun _ _ _ => XI ((cl_hush v n).2)) := w_cl_hush (X := (0, fun _ => 0, none)) (d := 0) (b := 1) hX hp_a (fun q => q)
  obtain ⟨_, _, _, _, _, _, _, q⟩ := q
  exact q

theorem o_cl_hush {rk : Nat} {v : VS} {n : Int} (hk : (rk < 67 ∨ 78 < rk) ∧ (rk < 91 ∨ 102 < rk) ∧ (rk < 104 ∨ 104 < rk)) : (cl_hush v n).2 rk = v rk := by
  unfold cl_hush
  by_cases hc_ : 0 < v 33 2
  · rw [if_pos hc_]
    by_cases hc_ : n < 0
    · rw [if_pos hc_]
      all_goals (show v rk = _)
      all_goals rfl
    · rw [if_neg hc_]
      by_cases hc_ : 300 < n
      · rw [if_pos hc_]
        all_goals (show v rk = _)
        all_goals rfl
      · rw [if_neg hc_]
        all_goals (show ((cl_fewestEars (v2 (cl_asTold v) 67 9 n)).2) rk = _)
        all_goals (rw [o_cl_fewestEars (by omega), v2_row (by omega), o_cl_asTold (by omega)])
  · rw [if_neg hc_]
    all_goals (show v rk = _)
    all_goals rfl
