/-! the slots -/
def jfl (v : VS) (q : Nat) (x : Int) : VS := fset v (108 + 2 * q) (fun j => if j < 60 then x else v (108 + 2 * q) j)
theorem jfl_loop {X : PX} {d b q : Nat} {x : Int} (hq : q < 4) : ∀ (f i : Nat) (v : VS), i ≤ 60 → 60 - i < f → WV X d 194 6 [some (.inr (.inr (some (108 + 2 * q)))), some (.inr (.inl x)), none, some (.inl (i : Int)), some (.inl 60)] [] b v (fun r b' v' => r = none ∧ b' = b ∧ v' = fset v (108 + 2 * q) (fun j => if i ≤ j ∧ j < 60 then x else v (108 + 2 * q) j)) := by
  intro f
  induction f with
  | zero => intro i v h1 h2; omega
  | succ f ih =>
    intro i v h1 h2
    refine r_ex 2 (pc' := 9) (lo' := [some (.inr (.inr (some (108 + 2 * q)))), some (.inr (.inl x)), none, some (.inl (i : Int)), some (.inl 60)]) (st' := [.inl 60, .inl (i : Int)]) rfl ?_
    refine n_ic_ge (pc0 := 9) (len := 3) (t := 22) rfl ⟨by omega, by omega⟩ ⟨by omega, by omega⟩ (fun h => ?_) (fun h => ?_)
    · refine r_ret (rr := none) (I := .return_) (pc0 := 22) (len := 1) rfl rfl ⟨rfl, rfl, ?_⟩
      have e : (fun j => if i ≤ j ∧ j < 60 then x else v (108 + 2 * q) j) = v (108 + 2 * q) := by funext j; rw [if_neg (by omega)]
      rw [e, fset_self]
    · refine r_ex 3 (pc' := 15) (lo' := [some (.inr (.inr (some (108 + 2 * q)))), some (.inr (.inl x)), none, some (.inl (i : Int)), some (.inl 60)]) (st' := [.inr (.inl x), .inl (i : Int), .inr (.inr (some (108 + 2 * q)))]) rfl ?_
      refine r_last2 (pc' := 16) (pc0 := 15) (len := 1) rfl (s_slotr _ hq) ⟨by omega, by omega⟩ (by decide) rfl ?_
      refine r_ex 2 (pc' := 6) (lo' := [some (.inr (.inr (some (108 + 2 * q)))), some (.inr (.inl x)), none, some (.inl ((i : Int) + 1)), some (.inl 60)]) (st' := []) rfl ?_
      have hk := ih (i + 1) (v2 v (108 + 2 * q) i x) (by omega) (by omega)
      rw [show ((i + 1 : Nat) : Int) = (i : Int) + 1 by omega] at hk
      rw [show ((i : Int)).toNat = i by omega]
      refine WV.mono hk ?_
      rintro r b' v' ⟨rfl, rfl, rfl⟩
      refine ⟨rfl, rfl, ?_⟩
      unfold v2
      rw [fset_fset, fset_same]
      congr 1
      funext j
      rw [fset_at]
      by_cases h3 : j = i
      · subst h3; rw [if_neg (by omega), if_pos rfl, if_pos (by omega)]
      · by_cases h4 : i + 1 ≤ j ∧ j < 60
        · rw [if_pos h4, if_pos (by omega)]
        · rw [if_neg h4, if_neg h3, if_neg (by omega)]
theorem e_jfl {X : PX} {d b : Nat} {v : VS} {q : Nat} {x : Int} (hX : XI v) (hp_a : q < 4) (hp_b : R64 x) : EvV X d 194 [.inr (.inr (some (108 + 2 * q))), .inr (.inl x)] b v none b (jfl v q x) := by
  refine EvV.of ?_
  show WV _ _ _ 0 [some (.inr (.inr (some (108 + 2 * q)))), some (.inr (.inl x)), none, none, none] [] _ _ _
  refine r_ex 3 (pc' := 3) (lo' := [some (.inr (.inr (some (108 + 2 * q)))), some (.inr (.inl x)), none, some (.inl 0), none]) (st' := [.inr (.inr (some (108 + 2 * q)))]) rfl ?_
  refine r_alen2 (pc' := 4) (pc0 := 3) (len := 1) rfl (s_slotr _ hp_a) rfl ?_
  refine r_ex 1 (pc' := 6) (lo' := [some (.inr (.inr (some (108 + 2 * q)))), some (.inr (.inl x)), none, some (.inl 0), some (.inl 60)]) (st' := []) rfl ?_
  refine WV.mono (jfl_loop hp_a 61 0 v (by omega) (by omega)) ?_
  rintro r b' v' ⟨rfl, rfl, rfl⟩
  refine ⟨rfl, rfl, ?_⟩
  unfold jfl
  congr 1
  funext j
  by_cases h : j < 60
  · rw [if_pos (by omega), if_pos h]
  · rw [if_neg (by omega), if_neg h]
theorem i_jfl {v : VS} {q : Nat} {x : Int} (hX : XI v) (hp_a : q < 4) (hp_b : R64 x) : XI (jfl v q x) := by
  refine XI_slotf hX hp_a (fun j => ?_)
  show R64 (if j < 60 then x else v (108 + 2 * q) j)
  split
  · exact hp_b
  · exact XI_slotr hX hp_a j
theorem o_jfl {k : Nat} {v : VS} {q : Nat} {x : Int} (hk : (k < 107 ∨ 114 < k) ∧ q < 4) : jfl v q x k = v k := by
  unfold jfl
  rw [fset_at, if_neg (by omega)]

def cl_lay (v : VS) (q : Nat) (w : Int) (n : Int) : VS :=
  (jfl (v2 (v2 (v2 v (107 + 2 * q) 0 1) (107 + 2 * q) 1 w) (107 + 2 * q) 2 (min n 60)) q 0)
theorem w_cl_lay {X : PX} {d b : Nat} {v : VS} {q : Nat} {w : Int} {n : Int} (hX : XI v) (hp_a : q < 4) (hp_b : 0 ≤ w ∧ w ≤ 3) (hp_c : 0 ≤ n ∧ n ≤ 60) {Q : Option PV → Nat → VS → Prop} (hQ : XI (cl_lay v q w n) → Q none b (cl_lay v q w n)) : WV X (d + 1) 193 0 [some (.inr (.inr (some (107 + 2 * q)))), some (.inl w), some (.inl n)] [] b v Q := by
  rw [cl_lay] at hQ
  refine r_ex 2 (pc' := 2) (lo' := [some (.inr (.inr (some (107 + 2 * q)))), some (.inl w), some (.inl n)]) (st' := [.inl 1, .inr (.inr (some (107 + 2 * q)))]) rfl ?_
  refine r_puti2 (j := 0) (pc' := 5) (pc0 := 2) (len := 3) rfl (s_slot _ (by first | assumption | omega)) rfl rfl rfl (Or.inr rfl) rfl rfl ?_
  have hX_1 : XI (v2 v (107 + 2 * q) 0 1) := XI_slotp0 hX (by first | assumption | omega) (by first | assumption | omega | (unfold R32 at *; omega) | (unfold R64 at *; omega) | (simp only [R32, R64] at *; omega))
  refine r_ex 2 (pc' := 7) (lo' := [some (.inr (.inr (some (107 + 2 * q)))), some (.inl w), some (.inl n)]) (st' := [.inl w, .inr (.inr (some (107 + 2 * q)))]) rfl ?_
  refine r_puti2 (j := 1) (pc' := 10) (pc0 := 7) (len := 3) rfl (s_slot _ (by first | assumption | omega)) rfl rfl rfl (Or.inl rfl) rfl rfl ?_
  have hX_2 : XI (v2 (v2 v (107 + 2 * q) 0 1) (107 + 2 * q) 1 w) := XI_slotp1 hX_1 (by first | assumption | omega) (by first | assumption | omega | (unfold R32 at *; omega) | (unfold R64 at *; omega) | (simp only [R32, R64] at *; omega))
  refine r_ex 3 (pc' := 14) (lo' := [some (.inr (.inr (some (107 + 2 * q)))), some (.inl w), some (.inl n)]) (st' := [.inl 60, .inl n, .inr (.inr (some (107 + 2 * q)))]) rfl ?_
  refine r_prim (x := .inl (if w32 60 < w32 n then 60 else n)) (m := 18) (args := [.inl n, .inl 60]) (n' := 193) (pc' := 17) (lo' := [some (.inr (.inr (some (107 + 2 * q)))), some (.inl w), some (.inl n)]) (st' := [.inr (.inr (some (107 + 2 * q)))]) (I := .invokestatic 18) (pc0 := 14) (len := 3) rfl rfl rfl ?_
  rw [mn32 (by first | assumption | omega | (unfold R32 at *; omega) | (unfold R64 at *; omega) | (simp only [R32, R64] at *; omega)) (by first | assumption | omega | (unfold R32 at *; omega) | (unfold R64 at *; omega) | (simp only [R32, R64] at *; omega))]
  refine r_puti2 (j := 2) (pc' := 20) (pc0 := 17) (len := 3) rfl (s_slot _ (by first | assumption | omega)) rfl rfl rfl (Or.inl rfl) rfl rfl ?_
  have hX_3 : XI (v2 (v2 (v2 v (107 + 2 * q) 0 1) (107 + 2 * q) 1 w) (107 + 2 * q) 2 (min n 60)) := XI_slotp2 hX_2 (by first | assumption | omega) (by first | assumption | omega | (unfold R32 at *; omega) | (unfold R64 at *; omega) | (simp only [R32, R64] at *; omega))
  refine r_ex 1 (pc' := 21) (lo' := [some (.inr (.inr (some (107 + 2 * q)))), some (.inl w), some (.inl n)]) (st' := [.inr (.inr (some (107 + 2 * q)))]) rfl ?_
  refine r_getr2 (z := some (108 + 2 * q)) (pc' := 24) (pc0 := 21) (len := 3) rfl (s_slot _ (by first | assumption | omega)) rfl rfl rfl ?_
  refine r_ex 1 (pc' := 25) (lo' := [some (.inr (.inr (some (107 + 2 * q)))), some (.inl w), some (.inl n)]) (st' := [.inr (.inl 0), .inr (.inr (some (108 + 2 * q)))]) rfl ?_
  have hp_4 : q < 4 := (by first | assumption | omega | (unfold R32 at *; omega) | (unfold R64 at *; omega) | (simp only [R32, R64] at *; omega))
  have hp_5 : R64 (0 : Int) := (by first | assumption | omega | (unfold R32 at *; omega) | (unfold R64 at *; omega) | (simp only [R32, R64] at *; omega))
  refine r_call (m := 194) (args := [.inr (.inr (some (108 + 2 * q))), .inr (.inl 0)]) (n' := 193) (pc' := 28) (lo' := [some (.inr (.inr (some (107 + 2 * q)))), some (.inl w), some (.inl n)]) (st' := []) (I := .invokestatic 194) (pc0 := 25) (len := 3) rfl rfl rfl (e_jfl hX_3 hp_4 hp_5) ?_
  show WV _ _ _ 28 _ [] _ (jfl (v2 (v2 (v2 v (107 + 2 * q) 0 1) (107 + 2 * q) 1 w) (107 + 2 * q) 2 (min n 60)) q 0) _
  have hX_6 : XI (jfl (v2 (v2 (v2 v (107 + 2 * q) 0 1) (107 + 2 * q) 1 w) (107 + 2 * q) 2 (min n 60)) q 0) := i_jfl (v := (v2 (v2 (v2 v (107 + 2 * q) 0 1) (107 + 2 * q) 1 w) (107 + 2 * q) 2 (min n 60))) (q := q) (x := 0) hX_3 hp_4 hp_5
  refine r_ret (rr := none) (I := .return_) (pc0 := 28) (len := 1) rfl rfl ?_
  exact hQ hX_6 

theorem e_cl_lay {X : PX} {d b : Nat} {v : VS} {q : Nat} {w : Int} {n : Int} (hX : XI v) (hp_a : q < 4) (hp_b : 0 ≤ w ∧ w ≤ 3) (hp_c : 0 ≤ n ∧ n ≤ 60) : EvV X (d + 1) 193 [.inr (.inr (some (107 + 2 * q))), .inl w, .inl n] b v none b (cl_lay v q w n) := EvV.of (w_cl_lay hX hp_a hp_b hp_c (fun _ => ⟨rfl, rfl, rfl⟩))

theorem i_cl_lay {v : VS} {q : Nat} {w : Int} {n : Int} (hX : XI v) (hp_a : q < 4) (hp_b : 0 ≤ w ∧ w ≤ 3) (hp_c : 0 ≤ n ∧ n ≤ 60) : XI (cl_lay v q w n) := by
  have q : WV (0, fun _ => 0, none) (0 + 1) 193 0 [some (.inr (.inr (some (107 + 2 * q)))), some (.inl w), some (.inl n)] [] 1 v (fun _ _ _ => XI (cl_lay v q w n)) := w_cl_lay (X := (0, fun _ => 0, none)) (d := 0) (b := 1) hX hp_a hp_b hp_c (fun q => q)
  obtain ⟨_, _, _, _, _, _, _, q⟩ := q
  exact q

theorem o_cl_lay {rk : Nat} {v : VS} {q : Nat} {w : Int} {n : Int} (hk : (rk < 107 ∨ 114 < rk) ∧ q < 4) : (cl_lay v q w n) rk = v rk := by
  unfold cl_lay
  all_goals (show (jfl (v2 (v2 (v2 v (107 + 2 * q) 0 1) (107 + 2 * q) 1 w) (107 + 2 * q) 2 (min n 60)) q 0) rk = _)
  all_goals (rw [o_jfl (by omega), v2_row (by omega), v2_row (by omega), v2_row (by omega)])

def cl_narrow (v : VS) (q : Nat) (y : Int) : Int :=
  (if (v (107 + 2 * q) 1) = 0 then (w8 y) else (if (v (107 + 2 * q) 1) = 1 then (w16 y) else (if (v (107 + 2 * q) 1) = 2 then (w32 y) else y)))
theorem w_cl_narrow {X : PX} {d b : Nat} {v : VS} {q : Nat} {y : Int} (hX : XI v) (hp_a : q < 4) (hp_b : R64 y) {Q : Option PV → Nat → VS → Prop} (hQ : (R64 (cl_narrow v q y)) → Q (some (.inr (.inl (cl_narrow v q y)))) b v) : WV X d 196 0 [some (.inr (.inr (some (107 + 2 * q)))), some (.inr (.inl y)), none] [] b v Q := by
  rw [cl_narrow] at hQ
  refine r_ex 1 (pc' := 1) (lo' := [some (.inr (.inr (some (107 + 2 * q)))), some (.inr (.inl y)), none]) (st' := [.inr (.inr (some (107 + 2 * q)))]) rfl ?_
  refine r_geti2 (x := (v (107 + 2 * q) 1)) (j := 1) (pc' := 4) (pc0 := 1) (len := 3) rfl (s_slot _ (by first | assumption | omega)) rfl rfl rfl (by decide) rfl rfl ?_
  have hb_1 : 0 ≤ (v (107 + 2 * q) 1) ∧ (v (107 + 2 * q) 1) ≤ 3 := XI_slot1 hX (by first | assumption | omega)
  by_cases h_4_0 : (v (107 + 2 * q) 1) = 0
  · refine n_ts (pc' := 32) (pc0 := 4) (len := 28) (x := (v (107 + 2 * q) 1)) (y := 0) rfl h_4_0 rfl ?_
    rw [if_pos h_4_0] at hQ
    refine r_ex 3 (pc' := 35) (lo' := [some (.inr (.inr (some (107 + 2 * q)))), some (.inr (.inl y)), none]) (st' := [.inl (w8 y)]) rfl ?_
    have hb_3 := w8_in y
    refine n_i2l (pc' := 36) (pc0 := 35) (len := 1) rfl (by first | assumption | omega | (unfold R32 at *; omega) | (unfold R64 at *; omega) | (simp only [R32, R64] at *; omega)) rfl ?_
    refine r_ret (rr := some (.inr (.inl (w8 y)))) (I := .lreturn) (pc0 := 36) (len := 1) rfl rfl ?_
    exact hQ (by first | assumption | omega | (unfold R32 at *; omega) | (unfold R64 at *; omega) | (simp only [R32, R64] at *; omega))
  · rw [if_neg h_4_0] at hQ
    by_cases h_4_1 : (v (107 + 2 * q) 1) = 1
    · refine n_ts (pc' := 37) (pc0 := 4) (len := 28) (x := (v (107 + 2 * q) 1)) (y := 1) rfl h_4_1 rfl ?_
      rw [if_pos h_4_1] at hQ
      refine r_ex 3 (pc' := 40) (lo' := [some (.inr (.inr (some (107 + 2 * q)))), some (.inr (.inl y)), none]) (st' := [.inl (w16 y)]) rfl ?_
      have hb_5 := w16_in y
      refine n_i2l (pc' := 41) (pc0 := 40) (len := 1) rfl (by first | assumption | omega | (unfold R32 at *; omega) | (unfold R64 at *; omega) | (simp only [R32, R64] at *; omega)) rfl ?_
      refine r_ret (rr := some (.inr (.inl (w16 y)))) (I := .lreturn) (pc0 := 41) (len := 1) rfl rfl ?_
      exact hQ (by first | assumption | omega | (unfold R32 at *; omega) | (unfold R64 at *; omega) | (simp only [R32, R64] at *; omega))
    · rw [if_neg h_4_1] at hQ
      by_cases h_4_2 : (v (107 + 2 * q) 1) = 2
      · refine n_ts (pc' := 42) (pc0 := 4) (len := 28) (x := (v (107 + 2 * q) 1)) (y := 2) rfl h_4_2 rfl ?_
        rw [if_pos h_4_2] at hQ
        refine r_ex 2 (pc' := 44) (lo' := [some (.inr (.inr (some (107 + 2 * q)))), some (.inr (.inl y)), none]) (st' := [.inl y]) rfl ?_
        refine n_i2w (pc' := 45) (pc0 := 44) (len := 1) rfl rfl ?_
        have hb_7 := w32_in y
        refine r_ret (rr := some (.inr (.inl (w32 y)))) (I := .lreturn) (pc0 := 45) (len := 1) rfl rfl ?_
        exact hQ (by first | assumption | omega | (unfold R32 at *; omega) | (unfold R64 at *; omega) | (simp only [R32, R64] at *; omega))
      · rw [if_neg h_4_2] at hQ
        refine n_ts_d (pc' := 46) (pc0 := 4) (len := 28) (x := (v (107 + 2 * q) 1)) rfl (by first | assumption | omega | (unfold R32 at *; omega) | (unfold R64 at *; omega) | (simp only [R32, R64] at *; omega)) (by first | assumption | omega | (unfold R32 at *; omega) | (unfold R64 at *; omega) | (simp only [R32, R64] at *; omega)) ?_
        refine r_ex 1 (pc' := 47) (lo' := [some (.inr (.inr (some (107 + 2 * q)))), some (.inr (.inl y)), none]) (st' := [.inr (.inl y)]) rfl ?_
        refine r_ret (rr := some (.inr (.inl y))) (I := .lreturn) (pc0 := 47) (len := 1) rfl rfl ?_
        exact hQ (by first | assumption | omega | (unfold R32 at *; omega) | (unfold R64 at *; omega) | (simp only [R32, R64] at *; omega))

theorem e_cl_narrow {X : PX} {d b : Nat} {v : VS} {q : Nat} {y : Int} (hX : XI v) (hp_a : q < 4) (hp_b : R64 y) : EvV X d 196 [.inr (.inr (some (107 + 2 * q))), .inr (.inl y)] b v (some (.inr (.inl (cl_narrow v q y)))) b v := EvV.of (w_cl_narrow hX hp_a hp_b (fun _ => ⟨rfl, rfl, rfl⟩))

theorem n_cl_narrow {v : VS} {q : Nat} {y : Int} (hX : XI v) (hp_a : q < 4) (hp_b : R64 y) : R64 (cl_narrow v q y) := by
  have q : WV (0, fun _ => 0, none) 0 196 0 [some (.inr (.inr (some (107 + 2 * q)))), some (.inr (.inl y)), none] [] 1 v (fun _ _ _ => R64 (cl_narrow v q y)) := w_cl_narrow (X := (0, fun _ => 0, none)) (d := 0) (b := 1) hX hp_a hp_b (fun q => q)
  obtain ⟨_, _, _, _, _, _, _, q⟩ := q
  exact q

def cl_holds (v : VS) (q : Nat) (i : Int) (n : Int) : Int :=
  (if i < 0 then 0 else (if n < 0 then 0 else (if (v (107 + 2 * q) 2) < (i + n) then 0 else 1)))
theorem w_cl_holds {X : PX} {d b : Nat} {v : VS} {q : Nat} {i : Int} {n : Int} (hX : XI v) (hp_a : q < 4) (hp_b : R32 i) (hp_c : R32 n) {Q : Option PV → Nat → VS → Prop} (hQ : Q (some (.inl (cl_holds v q i n))) b v) : WV X d 198 0 [some (.inr (.inr (some (107 + 2 * q)))), some (.inl i), some (.inl n)] [] b v Q := by
  rw [cl_holds] at hQ
  refine r_ex 1 (pc' := 1) (lo' := [some (.inr (.inr (some (107 + 2 * q)))), some (.inl i), some (.inl n)]) (st' := [.inl i]) rfl ?_
  refine n_if_lt (pc0 := 1) (len := 3) (t := 26) rfl (by first | assumption | omega | (unfold R32 at *; omega) | (unfold R64 at *; omega) | (simp only [R32, R64] at *; omega)) (fun h_1 => ?_) (fun h_1 => ?_)
  · show WV _ _ _ 26 _ _ _ _ _
    rw [if_pos h_1] at hQ
    refine r_ex 1 (pc' := 27) (lo' := [some (.inr (.inr (some (107 + 2 * q)))), some (.inl i), some (.inl n)]) (st' := [.inl 0]) rfl ?_
    refine r_ret (rr := some (.inl 0)) (I := .ireturn) (pc0 := 27) (len := 1) rfl rfl ?_
    exact hQ 
  · show WV _ _ _ 4 _ _ _ _ _
    rw [if_neg h_1] at hQ
    refine r_ex 1 (pc' := 5) (lo' := [some (.inr (.inr (some (107 + 2 * q)))), some (.inl i), some (.inl n)]) (st' := [.inl n]) rfl ?_
    refine n_if_lt (pc0 := 5) (len := 3) (t := 26) rfl (by first | assumption | omega | (unfold R32 at *; omega) | (unfold R64 at *; omega) | (simp only [R32, R64] at *; omega)) (fun h_5 => ?_) (fun h_5 => ?_)
    · show WV _ _ _ 26 _ _ _ _ _
      rw [if_pos h_5] at hQ
      refine r_ex 1 (pc' := 27) (lo' := [some (.inr (.inr (some (107 + 2 * q)))), some (.inl i), some (.inl n)]) (st' := [.inl 0]) rfl ?_
      refine r_ret (rr := some (.inl 0)) (I := .ireturn) (pc0 := 27) (len := 1) rfl rfl ?_
      exact hQ 
    · show WV _ _ _ 8 _ _ _ _ _
      rw [if_neg h_5] at hQ
      refine r_ex 1 (pc' := 9) (lo' := [some (.inr (.inr (some (107 + 2 * q)))), some (.inl i), some (.inl n)]) (st' := [.inl i]) rfl ?_
      refine n_i2l (pc' := 10) (pc0 := 9) (len := 1) rfl (by first | assumption | omega | (unfold R32 at *; omega) | (unfold R64 at *; omega) | (simp only [R32, R64] at *; omega)) rfl ?_
      refine r_ex 1 (pc' := 11) (lo' := [some (.inr (.inr (some (107 + 2 * q)))), some (.inl i), some (.inl n)]) (st' := [.inl n, .inr (.inl i)]) rfl ?_
      refine n_i2l (pc' := 12) (pc0 := 11) (len := 1) rfl (by first | assumption | omega | (unfold R32 at *; omega) | (unfold R64 at *; omega) | (simp only [R32, R64] at *; omega)) rfl ?_
      refine r_ex 2 (pc' := 14) (lo' := [some (.inr (.inr (some (107 + 2 * q)))), some (.inl i), some (.inl n)]) (st' := [.inr (.inr (some (107 + 2 * q))), .inr (.inl (i + n))]) rfl ?_
      refine r_geti2 (x := (v (107 + 2 * q) 2)) (j := 2) (pc' := 17) (pc0 := 14) (len := 3) rfl (s_slot _ (by first | assumption | omega)) rfl rfl rfl (by decide) rfl rfl ?_
      have hb_1 : 0 ≤ (v (107 + 2 * q) 2) ∧ (v (107 + 2 * q) 2) ≤ 60 := XI_slot2 hX (by first | assumption | omega)
      refine n_i2l (pc' := 18) (pc0 := 17) (len := 1) rfl (by first | assumption | omega | (unfold R32 at *; omega) | (unfold R64 at *; omega) | (simp only [R32, R64] at *; omega)) rfl ?_
      refine n_lc_gt (pc0 := 18) (len := 1) (pc1 := 19) (pc2 := 19) (len2 := 3) (t := 26) rfl rfl rfl (by first | assumption | omega | (unfold R32 at *; omega) | (unfold R64 at *; omega) | (simp only [R32, R64] at *; omega)) (by first | assumption | omega | (unfold R32 at *; omega) | (unfold R64 at *; omega) | (simp only [R32, R64] at *; omega)) (fun h_18 => ?_) (fun h_18 => ?_)
      · show WV _ _ _ 26 _ _ _ _ _
        rw [if_pos h_18] at hQ
        refine r_ex 1 (pc' := 27) (lo' := [some (.inr (.inr (some (107 + 2 * q)))), some (.inl i), some (.inl n)]) (st' := [.inl 0]) rfl ?_
        refine r_ret (rr := some (.inl 0)) (I := .ireturn) (pc0 := 27) (len := 1) rfl rfl ?_
        exact hQ 
      · show WV _ _ _ 22 _ _ _ _ _
        rw [if_neg h_18] at hQ
        refine r_ex 2 (pc' := 27) (lo' := [some (.inr (.inr (some (107 + 2 * q)))), some (.inl i), some (.inl n)]) (st' := [.inl 1]) rfl ?_
        refine r_ret (rr := some (.inl 1)) (I := .ireturn) (pc0 := 27) (len := 1) rfl rfl ?_
        exact hQ 

theorem q_cl_holds {X : PX} {d b : Nat} {v : VS} {q : Nat} {i : Int} {n : Int} (hX : XI v) (hp_a : q < 4) (hp_b : R32 i) (hp_c : R32 n) : EvV X d 198 [.inr (.inr (some (107 + 2 * q))), .inl i, .inl n] b v (some (.inl (cl_holds v q i n))) b v := EvV.of (w_cl_holds hX hp_a hp_b hp_c (⟨rfl, rfl, rfl⟩))

theorem p_cl_holds {v : VS} {q : Nat} {i : Int} {n : Int} : (cl_holds v q i n) = (if 0 ≤ i ∧ 0 ≤ n ∧ i + n ≤ v (107 + 2 * q) 2 then 1 else 0) := by
  unfold cl_holds
  repeat' split
  all_goals omega

theorem e_cl_holds {X : PX} {d b : Nat} {v : VS} {q : Nat} {i : Int} {n : Int} (hX : XI v) (hp_a : q < 4) (hp_b : R32 i) (hp_c : R32 n) : EvV X d 198 [.inr (.inr (some (107 + 2 * q))), .inl i, .inl n] b v (some (.inl (if 0 ≤ i ∧ 0 ≤ n ∧ i + n ≤ v (107 + 2 * q) 2 then 1 else 0))) b v := by
  rw [← p_cl_holds]
  exact q_cl_holds hX hp_a hp_b hp_c

def cl_isBelow (v : VS) (q : Nat) (i : Int) (n : Int) : Int :=
  (if (v (108 + 2 * q) ((i).toNat)) < 0 then 0 else (if (v (108 + 2 * q) ((i).toNat)) < n then 1 else 0))
theorem w_cl_isBelow {X : PX} {d b : Nat} {v : VS} {q : Nat} {i : Int} {n : Int} (hX : XI v) (hp_a : q < 4) (hp_b : 0 ≤ i ∧ i < 60) (hp_c : R32 n) {Q : Option PV → Nat → VS → Prop} (hQ : Q (some (.inl (cl_isBelow v q i n))) b v) : WV X d 165 0 [some (.inr (.inr (some (107 + 2 * q)))), some (.inl i), some (.inl n)] [] b v Q := by
  rw [cl_isBelow] at hQ
  refine r_ex 1 (pc' := 1) (lo' := [some (.inr (.inr (some (107 + 2 * q)))), some (.inl i), some (.inl n)]) (st' := [.inr (.inr (some (107 + 2 * q)))]) rfl ?_
  refine r_getr2 (z := some (108 + 2 * q)) (pc' := 4) (pc0 := 1) (len := 3) rfl (s_slot _ (by first | assumption | omega)) rfl rfl rfl ?_
  refine r_ex 1 (pc' := 5) (lo' := [some (.inr (.inr (some (107 + 2 * q)))), some (.inl i), some (.inl n)]) (st' := [.inl i, .inr (.inr (some (108 + 2 * q)))]) rfl ?_
  refine r_lald2 (x := (v (108 + 2 * q) ((i).toNat))) (pc' := 6) (pc0 := 5) (len := 1) rfl (s_slotr _ (by first | assumption | omega)) (by first | assumption | omega | (unfold R32 at *; omega) | (unfold R64 at *; omega) | (simp only [R32, R64] at *; omega)) (by decide) rfl rfl ?_
  have hb_1 : R64 (v (108 + 2 * q) ((i).toNat)) := XI_slotr hX (by first | assumption | omega) _
  refine r_ex 1 (pc' := 7) (lo' := [some (.inr (.inr (some (107 + 2 * q)))), some (.inl i), some (.inl n)]) (st' := [.inr (.inl 0), .inr (.inl (v (108 + 2 * q) ((i).toNat)))]) rfl ?_
  refine n_lc_lt (pc0 := 7) (len := 1) (pc1 := 8) (pc2 := 8) (len2 := 3) (t := 27) rfl rfl rfl (by first | assumption | omega | (unfold R32 at *; omega) | (unfold R64 at *; omega) | (simp only [R32, R64] at *; omega)) (by first | assumption | omega | (unfold R32 at *; omega) | (unfold R64 at *; omega) | (simp only [R32, R64] at *; omega)) (fun h_7 => ?_) (fun h_7 => ?_)
  · show WV _ _ _ 27 _ _ _ _ _
    rw [if_pos h_7] at hQ
    refine r_ex 1 (pc' := 28) (lo' := [some (.inr (.inr (some (107 + 2 * q)))), some (.inl i), some (.inl n)]) (st' := [.inl 0]) rfl ?_
    refine r_ret (rr := some (.inl 0)) (I := .ireturn) (pc0 := 28) (len := 1) rfl rfl ?_
    exact hQ 
  · show WV _ _ _ 11 _ _ _ _ _
    rw [if_neg h_7] at hQ
    refine r_ex 1 (pc' := 12) (lo' := [some (.inr (.inr (some (107 + 2 * q)))), some (.inl i), some (.inl n)]) (st' := [.inr (.inr (some (107 + 2 * q)))]) rfl ?_
    refine r_getr2 (z := some (108 + 2 * q)) (pc' := 15) (pc0 := 12) (len := 3) rfl (s_slot _ (by first | assumption | omega)) rfl rfl rfl ?_
    refine r_ex 1 (pc' := 16) (lo' := [some (.inr (.inr (some (107 + 2 * q)))), some (.inl i), some (.inl n)]) (st' := [.inl i, .inr (.inr (some (108 + 2 * q)))]) rfl ?_
    refine r_lald2 (x := (v (108 + 2 * q) ((i).toNat))) (pc' := 17) (pc0 := 16) (len := 1) rfl (s_slotr _ (by first | assumption | omega)) (by first | assumption | omega | (unfold R32 at *; omega) | (unfold R64 at *; omega) | (simp only [R32, R64] at *; omega)) (by decide) rfl rfl ?_
    have hb_2 : R64 (v (108 + 2 * q) ((i).toNat)) := XI_slotr hX (by first | assumption | omega) _
    refine r_ex 1 (pc' := 18) (lo' := [some (.inr (.inr (some (107 + 2 * q)))), some (.inl i), some (.inl n)]) (st' := [.inl n, .inr (.inl (v (108 + 2 * q) ((i).toNat)))]) rfl ?_
    refine n_i2l (pc' := 19) (pc0 := 18) (len := 1) rfl (by first | assumption | omega | (unfold R32 at *; omega) | (unfold R64 at *; omega) | (simp only [R32, R64] at *; omega)) rfl ?_
    refine n_lc_ge (pc0 := 19) (len := 1) (pc1 := 20) (pc2 := 20) (len2 := 3) (t := 27) rfl rfl rfl (by first | assumption | omega | (unfold R32 at *; omega) | (unfold R64 at *; omega) | (simp only [R32, R64] at *; omega)) (by first | assumption | omega | (unfold R32 at *; omega) | (unfold R64 at *; omega) | (simp only [R32, R64] at *; omega)) (fun h_19 => ?_) (fun h_19 => ?_)
    · show WV _ _ _ 27 _ _ _ _ _
      rw [if_neg h_19] at hQ
      refine r_ex 1 (pc' := 28) (lo' := [some (.inr (.inr (some (107 + 2 * q)))), some (.inl i), some (.inl n)]) (st' := [.inl 0]) rfl ?_
      refine r_ret (rr := some (.inl 0)) (I := .ireturn) (pc0 := 28) (len := 1) rfl rfl ?_
      exact hQ 
    · show WV _ _ _ 23 _ _ _ _ _
      rw [if_pos h_19] at hQ
      refine r_ex 2 (pc' := 28) (lo' := [some (.inr (.inr (some (107 + 2 * q)))), some (.inl i), some (.inl n)]) (st' := [.inl 1]) rfl ?_
      refine r_ret (rr := some (.inl 1)) (I := .ireturn) (pc0 := 28) (len := 1) rfl rfl ?_
      exact hQ 

theorem q_cl_isBelow {X : PX} {d b : Nat} {v : VS} {q : Nat} {i : Int} {n : Int} (hX : XI v) (hp_a : q < 4) (hp_b : 0 ≤ i ∧ i < 60) (hp_c : R32 n) : EvV X d 165 [.inr (.inr (some (107 + 2 * q))), .inl i, .inl n] b v (some (.inl (cl_isBelow v q i n))) b v := EvV.of (w_cl_isBelow hX hp_a hp_b hp_c (⟨rfl, rfl, rfl⟩))

theorem p_cl_isBelow {v : VS} {q : Nat} {i : Int} {n : Int} : (cl_isBelow v q i n) = (if 0 ≤ v (108 + 2 * q) i.toNat ∧ v (108 + 2 * q) i.toNat < n then 1 else 0) := by
  unfold cl_isBelow
  repeat' split
  all_goals omega

theorem e_cl_isBelow {X : PX} {d b : Nat} {v : VS} {q : Nat} {i : Int} {n : Int} (hX : XI v) (hp_a : q < 4) (hp_b : 0 ≤ i ∧ i < 60) (hp_c : R32 n) : EvV X d 165 [.inr (.inr (some (107 + 2 * q))), .inl i, .inl n] b v (some (.inl (if 0 ≤ v (108 + 2 * q) i.toNat ∧ v (108 + 2 * q) i.toNat < n then 1 else 0))) b v := by
  rw [← p_cl_isBelow]
  exact q_cl_isBelow hX hp_a hp_b hp_c

def cl_hasThrees_13 : Nat → VS → Nat → Int → Int → Int → Int
  | 0, v, q, s, c, i => 0
  | f + 1, v, q, s, c, i => (if (i + 2) < (v (107 + 2 * q) 2) then (if 0 ≤ v (108 + 2 * q) i.toNat ∧ v (108 + 2 * q) i.toNat < s then (if 0 ≤ v (108 + 2 * q) (i + 1).toNat ∧ v (108 + 2 * q) (i + 1).toNat < c then (cl_hasThrees_13 f v q s c (i + 3)) else 0) else 0) else 1)
def cl_hasThrees (v : VS) (q : Nat) (s : Int) (c : Int) : Int :=
  (if ((v (107 + 2 * q) 2) % 3) = 0 then (cl_hasThrees_13 63 v q s c 0) else 0)
theorem l_cl_hasThrees_13 {X : PX} {d b : Nat} {Q : Option PV → Nat → VS → Prop}  : ∀ (f : Nat) (v : VS) (q : Nat) (s : Int) (c : Int) (i : Int), XI v → (0 ≤ i ∧ i ≤ 62) → (R32 s) → (R32 c) → (q < 4) → (62 < i + f) → ((0 ≤ (cl_hasThrees_13 f v q s c i) ∧ (cl_hasThrees_13 f v q s c i) ≤ 1) → Q (some (.inl (cl_hasThrees_13 f v q s c i))) b v) → WV X (d + 1) 164 13 [some (.inr (.inr (some (107 + 2 * q)))), some (.inl s), some (.inl c), some (.inl i)] [] b v Q := by
  intro f
  induction f with
  | zero =>
    intro v q s c i hX hi_0 hi_1 hi_2 hi_3 hf hQ
    exfalso
    omega
  | succ f ih =>
    intro v q s c i hX hi_0 hi_1 hi_2 hi_3 hf hQ
    rw [cl_hasThrees_13] at hQ
    refine r_ex 4 (pc' := 17) (lo' := [some (.inr (.inr (some (107 + 2 * q)))), some (.inl s), some (.inl c), some (.inl i)]) (st' := [.inr (.inr (some (107 + 2 * q))), .inl (i + 2)]) rfl ?_
    refine r_geti2 (x := (v (107 + 2 * q) 2)) (j := 2) (pc' := 20) (pc0 := 17) (len := 3) rfl (s_slot _ (by first | assumption | omega)) rfl rfl rfl (by decide) rfl rfl ?_
    have hb_2 : 0 ≤ (v (107 + 2 * q) 2) ∧ (v (107 + 2 * q) 2) ≤ 60 := XI_slot2 hX (by first | assumption | omega)
    refine n_ic_ge (pc0 := 20) (len := 3) (t := 51) rfl (by first | assumption | omega | (unfold R32 at *; omega) | (unfold R64 at *; omega) | (simp only [R32, R64] at *; omega)) (by first | assumption | omega | (unfold R32 at *; omega) | (unfold R64 at *; omega) | (simp only [R32, R64] at *; omega)) (fun h_20 => ?_) (fun h_20 => ?_)
    · show WV _ _ _ 51 _ _ _ _ _
      rw [if_neg h_20] at hQ
      refine r_ex 1 (pc' := 52) (lo' := [some (.inr (.inr (some (107 + 2 * q)))), some (.inl s), some (.inl c), some (.inl i)]) (st' := [.inl 1]) rfl ?_
      refine r_ret (rr := some (.inl 1)) (I := .ireturn) (pc0 := 52) (len := 1) rfl rfl ?_
      exact hQ (by first | assumption | omega | (unfold R32 at *; omega) | (unfold R64 at *; omega) | (simp only [R32, R64] at *; omega))
    · show WV _ _ _ 23 _ _ _ _ _
      rw [if_pos h_20] at hQ
      refine r_ex 3 (pc' := 26) (lo' := [some (.inr (.inr (some (107 + 2 * q)))), some (.inl s), some (.inl c), some (.inl i)]) (st' := [.inl s, .inl i, .inr (.inr (some (107 + 2 * q)))]) rfl ?_
      have hp_3 : q < 4 := (by first | assumption | omega | (unfold R32 at *; omega) | (unfold R64 at *; omega) | (simp only [R32, R64] at *; omega))
      have hp_4 : 0 ≤ i ∧ i < 60 := (by first | assumption | omega | (unfold R32 at *; omega) | (unfold R64 at *; omega) | (simp only [R32, R64] at *; omega))
      have hp_5 : R32 s := (by first | assumption | omega | (unfold R32 at *; omega) | (unfold R64 at *; omega) | (simp only [R32, R64] at *; omega))
      refine r_callb (P := 0 ≤ v (108 + 2 * q) i.toNat ∧ v (108 + 2 * q) i.toNat < s) (m := 165) (args := [.inr (.inr (some (107 + 2 * q))), .inl i, .inl s]) (n' := 164) (pc' := 29) (lo' := [some (.inr (.inr (some (107 + 2 * q)))), some (.inl s), some (.inl c), some (.inl i)]) (st' := []) (I := .invokevirtual 165) (pc0 := 26) (len := 3) rfl (cs_slot (by first | assumption | omega) rfl rfl rfl (Nat.le_of_ble_eq_true rfl) (Nat.le_of_ble_eq_true rfl) rfl) rfl (e_cl_isBelow hX hp_3 hp_4 hp_5) (fun h_26 => ?_) (fun h_26 => ?_)
      · show WV _ _ _ 29 _ _ _ _ _
        rw [if_pos h_26] at hQ
        refine r_ex 6 (pc' := 37) (lo' := [some (.inr (.inr (some (107 + 2 * q)))), some (.inl s), some (.inl c), some (.inl i)]) (st' := [.inl c, .inl (i + 1), .inr (.inr (some (107 + 2 * q)))]) rfl ?_
        have hp_6 : q < 4 := (by first | assumption | omega | (unfold R32 at *; omega) | (unfold R64 at *; omega) | (simp only [R32, R64] at *; omega))
        have hp_7 : 0 ≤ (i + 1) ∧ (i + 1) < 60 := (by first | assumption | omega | (unfold R32 at *; omega) | (unfold R64 at *; omega) | (simp only [R32, R64] at *; omega))
        have hp_8 : R32 c := (by first | assumption | omega | (unfold R32 at *; omega) | (unfold R64 at *; omega) | (simp only [R32, R64] at *; omega))
        refine r_callb (P := 0 ≤ v (108 + 2 * q) (i + 1).toNat ∧ v (108 + 2 * q) (i + 1).toNat < c) (m := 165) (args := [.inr (.inr (some (107 + 2 * q))), .inl (i + 1), .inl c]) (n' := 164) (pc' := 40) (lo' := [some (.inr (.inr (some (107 + 2 * q)))), some (.inl s), some (.inl c), some (.inl i)]) (st' := []) (I := .invokevirtual 165) (pc0 := 37) (len := 3) rfl (cs_slot (by first | assumption | omega) rfl rfl rfl (Nat.le_of_ble_eq_true rfl) (Nat.le_of_ble_eq_true rfl) rfl) rfl (e_cl_isBelow hX hp_6 hp_7 hp_8) (fun h_37 => ?_) (fun h_37 => ?_)
        · show WV _ _ _ 40 _ _ _ _ _
          rw [if_pos h_37] at hQ
          refine r_ex 3 (pc' := 13) (lo' := [some (.inr (.inr (some (107 + 2 * q)))), some (.inl s), some (.inl c), some (.inl (i + 3))]) (st' := []) rfl ?_
          refine ih v q s c (i + 3)  hX (by first | assumption | omega | (unfold R32 at *; omega) | (unfold R64 at *; omega) | (simp only [R32, R64] at *; omega)) (by first | assumption | omega | (unfold R32 at *; omega) | (unfold R64 at *; omega) | (simp only [R32, R64] at *; omega)) (by first | assumption | omega | (unfold R32 at *; omega) | (unfold R64 at *; omega) | (simp only [R32, R64] at *; omega)) (by first | assumption | omega | (unfold R32 at *; omega) | (unfold R64 at *; omega) | (simp only [R32, R64] at *; omega)) (by first | assumption | omega | (unfold R32 at *; omega) | (unfold R64 at *; omega) | (simp only [R32, R64] at *; omega)) hQ
        · show WV _ _ _ 40 _ _ _ _ _
          rw [if_neg h_37] at hQ
          refine r_ex 2 (pc' := 44) (lo' := [some (.inr (.inr (some (107 + 2 * q)))), some (.inl s), some (.inl c), some (.inl i)]) (st' := [.inl 0]) rfl ?_
          refine r_ret (rr := some (.inl 0)) (I := .ireturn) (pc0 := 44) (len := 1) rfl rfl ?_
          exact hQ (by first | assumption | omega | (unfold R32 at *; omega) | (unfold R64 at *; omega) | (simp only [R32, R64] at *; omega))
      · show WV _ _ _ 29 _ _ _ _ _
        rw [if_neg h_26] at hQ
        refine r_ex 2 (pc' := 44) (lo' := [some (.inr (.inr (some (107 + 2 * q)))), some (.inl s), some (.inl c), some (.inl i)]) (st' := [.inl 0]) rfl ?_
        refine r_ret (rr := some (.inl 0)) (I := .ireturn) (pc0 := 44) (len := 1) rfl rfl ?_
        exact hQ (by first | assumption | omega | (unfold R32 at *; omega) | (unfold R64 at *; omega) | (simp only [R32, R64] at *; omega))

theorem w_cl_hasThrees {X : PX} {d b : Nat} {v : VS} {q : Nat} {s : Int} {c : Int} (hX : XI v) (hp_a : q < 4) (hp_b : R32 s) (hp_c : R32 c) {Q : Option PV → Nat → VS → Prop} (hQ : (0 ≤ (cl_hasThrees v q s c) ∧ (cl_hasThrees v q s c) ≤ 1) → Q (some (.inl (cl_hasThrees v q s c))) b v) : WV X (d + 1) 164 0 [some (.inr (.inr (some (107 + 2 * q)))), some (.inl s), some (.inl c), none] [] b v Q := by
  rw [cl_hasThrees] at hQ
  refine r_ex 1 (pc' := 1) (lo' := [some (.inr (.inr (some (107 + 2 * q)))), some (.inl s), some (.inl c), none]) (st' := [.inr (.inr (some (107 + 2 * q)))]) rfl ?_
  refine r_geti2 (x := (v (107 + 2 * q) 2)) (j := 2) (pc' := 4) (pc0 := 1) (len := 3) rfl (s_slot _ (by first | assumption | omega)) rfl rfl rfl (by decide) rfl rfl ?_
  have hb_1 : 0 ≤ (v (107 + 2 * q) 2) ∧ (v (107 + 2 * q) 2) ≤ 60 := XI_slot2 hX (by first | assumption | omega)
  refine r_ex 1 (pc' := 5) (lo' := [some (.inr (.inr (some (107 + 2 * q)))), some (.inl s), some (.inl c), none]) (st' := [.inl 3, .inl (v (107 + 2 * q) 2)]) rfl ?_
  refine n_irem (pc' := 6) (pc0 := 5) (len := 1) rfl (by first | assumption | omega | (unfold R32 at *; omega) | (unfold R64 at *; omega) | (simp only [R32, R64] at *; omega)) (by first | assumption | omega | (unfold R32 at *; omega) | (unfold R64 at *; omega) | (simp only [R32, R64] at *; omega)) rfl ?_
  refine n_if_eq (pc0 := 6) (len := 3) (t := 11) rfl (by first | assumption | omega | (unfold R32 at *; omega) | (unfold R64 at *; omega) | (simp only [R32, R64] at *; omega)) (fun h_6 => ?_) (fun h_6 => ?_)
  · show WV _ _ _ 11 _ _ _ _ _
    rw [if_pos h_6] at hQ
    refine r_ex 2 (pc' := 13) (lo' := [some (.inr (.inr (some (107 + 2 * q)))), some (.inl s), some (.inl c), some (.inl 0)]) (st' := []) rfl ?_
    exact l_cl_hasThrees_13 63 v q s c 0  hX (by first | assumption | omega | (unfold R32 at *; omega) | (unfold R64 at *; omega) | (simp only [R32, R64] at *; omega)) (by first | assumption | omega | (unfold R32 at *; omega) | (unfold R64 at *; omega) | (simp only [R32, R64] at *; omega)) (by first | assumption | omega | (unfold R32 at *; omega) | (unfold R64 at *; omega) | (simp only [R32, R64] at *; omega)) (by first | assumption | omega | (unfold R32 at *; omega) | (unfold R64 at *; omega) | (simp only [R32, R64] at *; omega)) (by first | assumption | omega | (unfold R32 at *; omega) | (unfold R64 at *; omega) | (simp only [R32, R64] at *; omega)) hQ
  · show WV _ _ _ 9 _ _ _ _ _
    rw [if_neg h_6] at hQ
    refine r_ex 1 (pc' := 10) (lo' := [some (.inr (.inr (some (107 + 2 * q)))), some (.inl s), some (.inl c), none]) (st' := [.inl 0]) rfl ?_
    refine r_ret (rr := some (.inl 0)) (I := .ireturn) (pc0 := 10) (len := 1) rfl rfl ?_
    exact hQ (by first | assumption | omega | (unfold R32 at *; omega) | (unfold R64 at *; omega) | (simp only [R32, R64] at *; omega))

theorem e_cl_hasThrees {X : PX} {d b : Nat} {v : VS} {q : Nat} {s : Int} {c : Int} (hX : XI v) (hp_a : q < 4) (hp_b : R32 s) (hp_c : R32 c) : EvV X (d + 1) 164 [.inr (.inr (some (107 + 2 * q))), .inl s, .inl c] b v (some (.inl (cl_hasThrees v q s c))) b v := EvV.of (w_cl_hasThrees hX hp_a hp_b hp_c (fun _ => ⟨rfl, rfl, rfl⟩))

theorem n_cl_hasThrees {v : VS} {q : Nat} {s : Int} {c : Int} (hX : XI v) (hp_a : q < 4) (hp_b : R32 s) (hp_c : R32 c) : 0 ≤ (cl_hasThrees v q s c) ∧ (cl_hasThrees v q s c) ≤ 1 := by
  have q : WV (0, fun _ => 0, none) (0 + 1) 164 0 [some (.inr (.inr (some (107 + 2 * q)))), some (.inl s), some (.inl c), none] [] 1 v (fun _ _ _ => 0 ≤ (cl_hasThrees v q s c) ∧ (cl_hasThrees v q s c) ≤ 1) := w_cl_hasThrees (X := (0, fun _ => 0, none)) (d := 0) (b := 1) hX hp_a hp_b hp_c (fun q => q)
  obtain ⟨_, _, _, _, _, _, _, q⟩ := q
  exact q

def cl_hasSeconds_2 : Nat → VS → Nat → Int → Int → Int
  | 0, v, q, s, i => 0
  | f + 1, v, q, s, i => (if i < (v (107 + 2 * q) 2) then (if 0 ≤ v (108 + 2 * q) i.toNat ∧ v (108 + 2 * q) i.toNat < s then (cl_hasSeconds_2 f v q s (i + 1)) else 0) else 1)
def cl_hasSeconds (v : VS) (q : Nat) (s : Int) : Int :=
  (cl_hasSeconds_2 61 v q s 0)
theorem l_cl_hasSeconds_2 {X : PX} {d b : Nat} {Q : Option PV → Nat → VS → Prop}  : ∀ (f : Nat) (v : VS) (q : Nat) (s : Int) (i : Int), XI v → (0 ≤ i ∧ i ≤ 60) → (R32 s) → (q < 4) → (60 < i + f) → ((0 ≤ (cl_hasSeconds_2 f v q s i) ∧ (cl_hasSeconds_2 f v q s i) ≤ 1) → Q (some (.inl (cl_hasSeconds_2 f v q s i))) b v) → WV X (d + 1) 185 2 [some (.inr (.inr (some (107 + 2 * q)))), some (.inl s), some (.inl i)] [] b v Q := by
  intro f
  induction f with
  | zero =>
    intro v q s i hX hi_0 hi_1 hi_2 hf hQ
    exfalso
    omega
  | succ f ih =>
    intro v q s i hX hi_0 hi_1 hi_2 hf hQ
    rw [cl_hasSeconds_2] at hQ
    refine r_ex 2 (pc' := 4) (lo' := [some (.inr (.inr (some (107 + 2 * q)))), some (.inl s), some (.inl i)]) (st' := [.inr (.inr (some (107 + 2 * q))), .inl i]) rfl ?_
    refine r_geti2 (x := (v (107 + 2 * q) 2)) (j := 2) (pc' := 7) (pc0 := 4) (len := 3) rfl (s_slot _ (by first | assumption | omega)) rfl rfl rfl (by decide) rfl rfl ?_
    have hb_1 : 0 ≤ (v (107 + 2 * q) 2) ∧ (v (107 + 2 * q) 2) ≤ 60 := XI_slot2 hX (by first | assumption | omega)
    refine n_ic_ge (pc0 := 7) (len := 3) (t := 27) rfl (by first | assumption | omega | (unfold R32 at *; omega) | (unfold R64 at *; omega) | (simp only [R32, R64] at *; omega)) (by first | assumption | omega | (unfold R32 at *; omega) | (unfold R64 at *; omega) | (simp only [R32, R64] at *; omega)) (fun h_7 => ?_) (fun h_7 => ?_)
    · show WV _ _ _ 27 _ _ _ _ _
      rw [if_neg h_7] at hQ
      refine r_ex 1 (pc' := 28) (lo' := [some (.inr (.inr (some (107 + 2 * q)))), some (.inl s), some (.inl i)]) (st' := [.inl 1]) rfl ?_
      refine r_ret (rr := some (.inl 1)) (I := .ireturn) (pc0 := 28) (len := 1) rfl rfl ?_
      exact hQ (by first | assumption | omega | (unfold R32 at *; omega) | (unfold R64 at *; omega) | (simp only [R32, R64] at *; omega))
    · show WV _ _ _ 10 _ _ _ _ _
      rw [if_pos h_7] at hQ
      refine r_ex 3 (pc' := 13) (lo' := [some (.inr (.inr (some (107 + 2 * q)))), some (.inl s), some (.inl i)]) (st' := [.inl s, .inl i, .inr (.inr (some (107 + 2 * q)))]) rfl ?_
      have hp_2 : q < 4 := (by first | assumption | omega | (unfold R32 at *; omega) | (unfold R64 at *; omega) | (simp only [R32, R64] at *; omega))
      have hp_3 : 0 ≤ i ∧ i < 60 := (by first | assumption | omega | (unfold R32 at *; omega) | (unfold R64 at *; omega) | (simp only [R32, R64] at *; omega))
      have hp_4 : R32 s := (by first | assumption | omega | (unfold R32 at *; omega) | (unfold R64 at *; omega) | (simp only [R32, R64] at *; omega))
      refine r_callb (P := 0 ≤ v (108 + 2 * q) i.toNat ∧ v (108 + 2 * q) i.toNat < s) (m := 165) (args := [.inr (.inr (some (107 + 2 * q))), .inl i, .inl s]) (n' := 185) (pc' := 16) (lo' := [some (.inr (.inr (some (107 + 2 * q)))), some (.inl s), some (.inl i)]) (st' := []) (I := .invokevirtual 165) (pc0 := 13) (len := 3) rfl (cs_slot (by first | assumption | omega) rfl rfl rfl (Nat.le_of_ble_eq_true rfl) (Nat.le_of_ble_eq_true rfl) rfl) rfl (e_cl_isBelow hX hp_2 hp_3 hp_4) (fun h_13 => ?_) (fun h_13 => ?_)
      · show WV _ _ _ 16 _ _ _ _ _
        rw [if_pos h_13] at hQ
        refine r_ex 3 (pc' := 2) (lo' := [some (.inr (.inr (some (107 + 2 * q)))), some (.inl s), some (.inl (i + 1))]) (st' := []) rfl ?_
        refine ih v q s (i + 1)  hX (by first | assumption | omega | (unfold R32 at *; omega) | (unfold R64 at *; omega) | (simp only [R32, R64] at *; omega)) (by first | assumption | omega | (unfold R32 at *; omega) | (unfold R64 at *; omega) | (simp only [R32, R64] at *; omega)) (by first | assumption | omega | (unfold R32 at *; omega) | (unfold R64 at *; omega) | (simp only [R32, R64] at *; omega)) (by first | assumption | omega | (unfold R32 at *; omega) | (unfold R64 at *; omega) | (simp only [R32, R64] at *; omega)) hQ
      · show WV _ _ _ 16 _ _ _ _ _
        rw [if_neg h_13] at hQ
        refine r_ex 2 (pc' := 20) (lo' := [some (.inr (.inr (some (107 + 2 * q)))), some (.inl s), some (.inl i)]) (st' := [.inl 0]) rfl ?_
        refine r_ret (rr := some (.inl 0)) (I := .ireturn) (pc0 := 20) (len := 1) rfl rfl ?_
        exact hQ (by first | assumption | omega | (unfold R32 at *; omega) | (unfold R64 at *; omega) | (simp only [R32, R64] at *; omega))

theorem w_cl_hasSeconds {X : PX} {d b : Nat} {v : VS} {q : Nat} {s : Int} (hX : XI v) (hp_a : q < 4) (hp_b : R32 s) {Q : Option PV → Nat → VS → Prop} (hQ : (0 ≤ (cl_hasSeconds v q s) ∧ (cl_hasSeconds v q s) ≤ 1) → Q (some (.inl (cl_hasSeconds v q s))) b v) : WV X (d + 1) 185 0 [some (.inr (.inr (some (107 + 2 * q)))), some (.inl s), none] [] b v Q := by
  rw [cl_hasSeconds] at hQ
  refine r_ex 2 (pc' := 2) (lo' := [some (.inr (.inr (some (107 + 2 * q)))), some (.inl s), some (.inl 0)]) (st' := []) rfl ?_
  exact l_cl_hasSeconds_2 61 v q s 0  hX (by first | assumption | omega | (unfold R32 at *; omega) | (unfold R64 at *; omega) | (simp only [R32, R64] at *; omega)) (by first | assumption | omega | (unfold R32 at *; omega) | (unfold R64 at *; omega) | (simp only [R32, R64] at *; omega)) (by first | assumption | omega | (unfold R32 at *; omega) | (unfold R64 at *; omega) | (simp only [R32, R64] at *; omega)) (by first | assumption | omega | (unfold R32 at *; omega) | (unfold R64 at *; omega) | (simp only [R32, R64] at *; omega)) hQ

theorem e_cl_hasSeconds {X : PX} {d b : Nat} {v : VS} {q : Nat} {s : Int} (hX : XI v) (hp_a : q < 4) (hp_b : R32 s) : EvV X (d + 1) 185 [.inr (.inr (some (107 + 2 * q))), .inl s] b v (some (.inl (cl_hasSeconds v q s))) b v := EvV.of (w_cl_hasSeconds hX hp_a hp_b (fun _ => ⟨rfl, rfl, rfl⟩))

theorem n_cl_hasSeconds {v : VS} {q : Nat} {s : Int} (hX : XI v) (hp_a : q < 4) (hp_b : R32 s) : 0 ≤ (cl_hasSeconds v q s) ∧ (cl_hasSeconds v q s) ≤ 1 := by
  have q : WV (0, fun _ => 0, none) (0 + 1) 185 0 [some (.inr (.inr (some (107 + 2 * q)))), some (.inl s), none] [] 1 v (fun _ _ _ => 0 ≤ (cl_hasSeconds v q s) ∧ (cl_hasSeconds v q s) ≤ 1) := w_cl_hasSeconds (X := (0, fun _ => 0, none)) (d := 0) (b := 1) hX hp_a hp_b (fun q => q)
  obtain ⟨_, _, _, _, _, _, _, q⟩ := q
  exact q
