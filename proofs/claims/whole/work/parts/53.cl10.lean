/-! the air -/
theorem setb3 {x c : Int} (hx : 0 ≤ x ∧ x < 8) (hc : 0 ≤ c ∧ c < 3) : 0 ≤ setb x c ∧ setb x c ≤ 7 := by
  have := setb_in (x := x) (c := c) (k := 3) (by omega) (by omega)
  omega

def jf_64 (v : VS) (x : Int) : VS := vfill v 64 300 x
theorem e_jf_64 {X : PX} {d b : Nat} {v : VS} {x : Int} (hX : XI v) (hp_a : 0 ≤ x ∧ x ≤ 4095) : EvV X d 20 [.inr (.inr (some 64)), .inl x] b v none b (jf_64 v x) := j_fill (s_64 _) (by decide)
theorem i_jf_64 {v : VS} {x : Int} (hX : XI v) (hp_a : 0 ≤ x ∧ x ≤ 4095) : XI (jf_64 v x) := XI_fillN hX (fun j => hp_a)
theorem o_jf_64 {k : Nat} {v : VS} {x : Int} (hk : (k < 64 ∨ 64 < k)) : jf_64 v x k = v k := vfill_row (by omega)

def jf_65 (v : VS) (x : Int) : VS := vfill v 65 300 x
theorem e_jf_65 {X : PX} {d b : Nat} {v : VS} {x : Int} (hX : XI v) (hp_a : 0 ≤ x ∧ x ≤ 511) : EvV X d 20 [.inr (.inr (some 65)), .inl x] b v none b (jf_65 v x) := j_fill (s_65 _) (by decide)
theorem i_jf_65 {v : VS} {x : Int} (hX : XI v) (hp_a : 0 ≤ x ∧ x ≤ 511) : XI (jf_65 v x) := XI_fillN hX (fun j => hp_a)
theorem o_jf_65 {k : Nat} {v : VS} {x : Int} (hk : (k < 65 ∨ 65 < k)) : jf_65 v x k = v k := vfill_row (by omega)

def jf_66 (v : VS) (x : Int) : VS := vfill v 66 300 x
theorem e_jf_66 {X : PX} {d b : Nat} {v : VS} {x : Int} (hX : XI v) (hp_a : 0 ≤ x ∧ x ≤ 511) : EvV X d 20 [.inr (.inr (some 66)), .inl x] b v none b (jf_66 v x) := j_fill (s_66 _) (by decide)
theorem i_jf_66 {v : VS} {x : Int} (hX : XI v) (hp_a : 0 ≤ x ∧ x ≤ 511) : XI (jf_66 v x) := XI_fillN hX (fun j => hp_a)
theorem o_jf_66 {k : Nat} {v : VS} {x : Int} (hk : (k < 66 ∨ 66 < k)) : jf_66 v x k = v k := vfill_row (by omega)

def cl_spread64_22 : Nat → VS → Int → Int → VS
  | 0, v, i, s => v
  | f + 1, v, i, s => (if (v 53 ((i).toNat)) < s then v else (if s < 300 then (cl_spread64_22 f (v2 v 64 ((s).toNat) (setb (v 64 ((s).toNat)) (v 51 ((i).toNat)))) i (s + 1)) else v))
def cl_spread64_7 : Nat → VS → Int → VS
  | 0, v, i => v
  | f + 1, v, i => (if i < (v 50 0) then (cl_spread64_7 f (cl_spread64_22 301 v i (v 52 ((i).toNat))) (i + 1)) else v)
def cl_spread64 (v : VS)  : VS :=
  (cl_spread64_7 7 (jf_64 v 0) 0)
theorem l_cl_spread64_22 {X : PX} {d b : Nat} {Q : Option PV → Nat → VS → Prop}  : ∀ (f : Nat) (v : VS) (i : Int) (s : Int), XI v → (0 ≤ i ∧ i < 6) → (0 ≤ s ∧ s ≤ 300) → (300 < s + f) → (∀ qx3 : Option PV, XI (cl_spread64_22 f v i s) → WV X (d + 1) 59 58 [some (.inr (.inr (some 50))), some (.inr (.inr (some 64))), some (.inl i), qx3] [] b (cl_spread64_22 f v i s) Q) → WV X (d + 1) 59 22 [some (.inr (.inr (some 50))), some (.inr (.inr (some 64))), some (.inl i), some (.inl s)] [] b v Q := by
  intro f
  induction f with
  | zero =>
    intro v i s hX hi_0 hi_1 hf hK
    exfalso
    omega
  | succ f ih =>
    intro v i s hX hi_0 hi_1 hf hK
    rw [cl_spread64_22] at hK
    refine r_ex 4 (pc' := 28) (lo' := [some (.inr (.inr (some 50))), some (.inr (.inr (some 64))), some (.inl i), some (.inl s)]) (st' := [.inl i, .inr (.inr (some 53)), .inl s]) rfl ?_
    refine r_iald2 (j := 0) (x := (v 53 ((i).toNat))) (pc' := 29) (pc0 := 28) (len := 1) rfl (s_53 _) (by first | assumption | omega | (unfold R32 at *; omega) | (unfold R64 at *; omega) | (simp only [R32, R64] at *; omega)) (by decide) rfl rfl ?_
    have hb_5 : 0 ≤ (v 53 ((i).toNat)) ∧ (v 53 ((i).toNat)) ≤ 299 := hX 53 ((i).toNat)
    refine n_ic_gt (pc0 := 29) (len := 3) (t := 58) rfl (by first | assumption | omega | (unfold R32 at *; omega) | (unfold R64 at *; omega) | (simp only [R32, R64] at *; omega)) (by first | assumption | omega | (unfold R32 at *; omega) | (unfold R64 at *; omega) | (simp only [R32, R64] at *; omega)) (fun h_29 => ?_) (fun h_29 => ?_)
    · show WV _ _ _ 58 _ _ _ _ _
      rw [if_pos h_29] at hK
      exact hK _ hX 
    · show WV _ _ _ 32 _ _ _ _ _
      rw [if_neg h_29] at hK
      refine r_ex 3 (pc' := 35) (lo' := [some (.inr (.inr (some 50))), some (.inr (.inr (some 64))), some (.inl i), some (.inl s)]) (st' := [.inl 300, .inl s]) rfl ?_
      refine n_ic_ge (pc0 := 35) (len := 3) (t := 58) rfl (by first | assumption | omega | (unfold R32 at *; omega) | (unfold R64 at *; omega) | (simp only [R32, R64] at *; omega)) (by first | assumption | omega | (unfold R32 at *; omega) | (unfold R64 at *; omega) | (simp only [R32, R64] at *; omega)) (fun h_35 => ?_) (fun h_35 => ?_)
      · show WV _ _ _ 58 _ _ _ _ _
        rw [if_neg h_35] at hK
        exact hK _ hX 
      · show WV _ _ _ 38 _ _ _ _ _
        rw [if_pos h_35] at hK
        refine r_ex 3 (pc' := 41) (lo' := [some (.inr (.inr (some 50))), some (.inr (.inr (some 64))), some (.inl i), some (.inl s)]) (st' := [.inl s, .inr (.inr (some 64)), .inl s, .inr (.inr (some 64))]) rfl ?_
        refine r_iald2 (j := 0) (x := (v 64 ((s).toNat))) (pc' := 42) (pc0 := 41) (len := 1) rfl (s_64 _) (by first | assumption | omega | (unfold R32 at *; omega) | (unfold R64 at *; omega) | (simp only [R32, R64] at *; omega)) (by decide) rfl rfl ?_
        have hb_6 : 0 ≤ (v 64 ((s).toNat)) ∧ (v 64 ((s).toNat)) ≤ 4095 := hX 64 ((s).toNat)
        refine r_ex 4 (pc' := 48) (lo' := [some (.inr (.inr (some 50))), some (.inr (.inr (some 64))), some (.inl i), some (.inl s)]) (st' := [.inl i, .inr (.inr (some 51)), .inl 1, .inl (v 64 ((s).toNat)), .inl s, .inr (.inr (some 64))]) rfl ?_
        refine r_iald2 (j := 0) (x := (v 51 ((i).toNat))) (pc' := 49) (pc0 := 48) (len := 1) rfl (s_51 _) (by first | assumption | omega | (unfold R32 at *; omega) | (unfold R64 at *; omega) | (simp only [R32, R64] at *; omega)) (by decide) rfl rfl ?_
        have hb_7 : 0 ≤ (v 51 ((i).toNat)) ∧ (v 51 ((i).toNat)) ≤ 11 := hX 51 ((i).toNat)
        refine r_ex 2 (pc' := 51) (lo' := [some (.inr (.inr (some 50))), some (.inr (.inr (some 64))), some (.inl i), some (.inl s)]) (st' := [.inl (pm_or (v 64 ((s).toNat)) (pm_shl 1 (v 51 ((i).toNat)))), .inl s, .inr (.inr (some 64))]) rfl ?_
        rw [or_eq (x := (v 64 ((s).toNat))) (c := (v 51 ((i).toNat))) (by first | assumption | omega | (unfold R32 at *; omega) | (unfold R64 at *; omega) | (simp only [R32, R64] at *; omega)) (by first | assumption | omega | (unfold R32 at *; omega) | (unfold R64 at *; omega) | (simp only [R32, R64] at *; omega))]
        have hb_8 := setb_in (x := (v 64 ((s).toNat))) (c := (v 51 ((i).toNat))) (k := 12) (by first | assumption | omega | (unfold R32 at *; omega) | (unfold R64 at *; omega) | (simp only [R32, R64] at *; omega)) (by first | assumption | omega | (unfold R32 at *; omega) | (unfold R64 at *; omega) | (simp only [R32, R64] at *; omega))
        refine r_iast2 (pc' := 52) (pc0 := 51) (len := 1) rfl (s_64 _) (by first | assumption | omega | (unfold R32 at *; omega) | (unfold R64 at *; omega) | (simp only [R32, R64] at *; omega)) (by decide) rfl ?_
        have hX_9 : XI (v2 v 64 ((s).toNat) (setb (v 64 ((s).toNat)) (v 51 ((i).toNat)))) := XI.put hX (show 0 ≤ (setb (v 64 ((s).toNat)) (v 51 ((i).toNat))) ∧ (setb (v 64 ((s).toNat)) (v 51 ((i).toNat))) ≤ 4095 from (by have := setb_in (x := v 64 s.toNat) (c := v 51 i.toNat) (k := 12) (by omega) (by omega); omega))
        refine r_ex 2 (pc' := 22) (lo' := [some (.inr (.inr (some 50))), some (.inr (.inr (some 64))), some (.inl i), some (.inl (s + 1))]) (st' := []) rfl ?_
        refine ih (v2 v 64 ((s).toNat) (setb (v 64 ((s).toNat)) (v 51 ((i).toNat)))) i (s + 1)  hX_9 (by first | assumption | omega | (unfold R32 at *; omega) | (unfold R64 at *; omega) | (simp only [R32, R64] at *; omega)) (by first | assumption | omega | (unfold R32 at *; omega) | (unfold R64 at *; omega) | (simp only [R32, R64] at *; omega)) (by first | assumption | omega | (unfold R32 at *; omega) | (unfold R64 at *; omega) | (simp only [R32, R64] at *; omega)) hK

theorem of_cl_spread64_22 {rk : Nat} (hk : (rk < 64 ∨ 64 < rk)) : ∀ (f : Nat) {v : VS} {i : Int} {s : Int}, (cl_spread64_22 f v i s) rk = v rk := by
  intro f
  induction f with
  | zero => intro v i s; rfl
  | succ f ih =>
    intro v i s
    rw [cl_spread64_22]
    by_cases hc_ : (v 53 ((i).toNat)) < s
    · rw [if_pos hc_]
      all_goals (show v rk = _)
      all_goals rfl
    · rw [if_neg hc_]
      by_cases hc_ : s < 300
      · rw [if_pos hc_]
        all_goals (rw [ih, v2_row (by omega)])
      · rw [if_neg hc_]
        all_goals (show v rk = _)
        all_goals rfl
theorem o_cl_spread64_22 {rk : Nat} {f : Nat} {v : VS} {i : Int} {s : Int} (hk : (rk < 64 ∨ 64 < rk)) : (cl_spread64_22 f v i s) rk = v rk := of_cl_spread64_22 hk f

theorem l_cl_spread64_7 {X : PX} {d b : Nat} {Q : Option PV → Nat → VS → Prop}  : ∀ (f : Nat) (v : VS) (i : Int) (o3 : Option PV), XI v → (0 ≤ i ∧ i ≤ 6) → (6 < i + f) → (XI (cl_spread64_7 f v i) → Q none b (cl_spread64_7 f v i)) → WV X (d + 1) 59 7 [some (.inr (.inr (some 50))), some (.inr (.inr (some 64))), some (.inl i), o3] [] b v Q := by
  intro f
  induction f with
  | zero =>
    intro v i o3 hX hi_0 hf hQ
    exfalso
    omega
  | succ f ih =>
    intro v i o3 hX hi_0 hf hQ
    rw [cl_spread64_7] at hQ
    refine r_ex 3 (pc' := 12) (lo' := [some (.inr (.inr (some 50))), some (.inr (.inr (some 64))), some (.inl i), o3]) (st' := [.inl (v 50 0), .inl i]) rfl ?_
    have hb_3 : 0 ≤ (v 50 0) ∧ (v 50 0) ≤ 6 := hX 50 0
    refine n_ic_ge (pc0 := 12) (len := 3) (t := 64) rfl (by first | assumption | omega | (unfold R32 at *; omega) | (unfold R64 at *; omega) | (simp only [R32, R64] at *; omega)) (by first | assumption | omega | (unfold R32 at *; omega) | (unfold R64 at *; omega) | (simp only [R32, R64] at *; omega)) (fun h_12 => ?_) (fun h_12 => ?_)
    · show WV _ _ _ 64 _ _ _ _ _
      rw [if_neg h_12] at hQ
      refine r_ret (rr := none) (I := .return_) (pc0 := 64) (len := 1) rfl rfl ?_
      exact hQ hX 
    · show WV _ _ _ 15 _ _ _ _ _
      rw [if_pos h_12] at hQ
      refine r_ex 3 (pc' := 20) (lo' := [some (.inr (.inr (some 50))), some (.inr (.inr (some 64))), some (.inl i), o3]) (st' := [.inl i, .inr (.inr (some 52))]) rfl ?_
      refine r_iald2 (j := 0) (x := (v 52 ((i).toNat))) (pc' := 21) (pc0 := 20) (len := 1) rfl (s_52 _) (by first | assumption | omega | (unfold R32 at *; omega) | (unfold R64 at *; omega) | (simp only [R32, R64] at *; omega)) (by decide) rfl rfl ?_
      have hb_4 : 0 ≤ (v 52 ((i).toNat)) ∧ (v 52 ((i).toNat)) ≤ 299 := hX 52 ((i).toNat)
      refine r_ex 1 (pc' := 22) (lo' := [some (.inr (.inr (some 50))), some (.inr (.inr (some 64))), some (.inl i), some (.inl (v 52 ((i).toNat)))]) (st' := []) rfl ?_
      refine l_cl_spread64_22 301 v i (v 52 ((i).toNat))  hX (by first | assumption | omega | (unfold R32 at *; omega) | (unfold R64 at *; omega) | (simp only [R32, R64] at *; omega)) (by first | assumption | omega | (unfold R32 at *; omega) | (unfold R64 at *; omega) | (simp only [R32, R64] at *; omega)) (by first | assumption | omega | (unfold R32 at *; omega) | (unfold R64 at *; omega) | (simp only [R32, R64] at *; omega)) (fun o3_10 hX_10  => ?_)
      show WV _ _ _ 58 _ _ _ _ _
      refine r_ex 2 (pc' := 7) (lo' := [some (.inr (.inr (some 50))), some (.inr (.inr (some 64))), some (.inl (i + 1)), o3_10]) (st' := []) rfl ?_
      refine ih (cl_spread64_22 301 v i (v 52 ((i).toNat))) (i + 1) _ hX_10 (by first | assumption | omega | (unfold R32 at *; omega) | (unfold R64 at *; omega) | (simp only [R32, R64] at *; omega)) (by first | assumption | omega | (unfold R32 at *; omega) | (unfold R64 at *; omega) | (simp only [R32, R64] at *; omega)) hQ

theorem of_cl_spread64_7 {rk : Nat} (hk : (rk < 64 ∨ 64 < rk)) : ∀ (f : Nat) {v : VS} {i : Int}, (cl_spread64_7 f v i) rk = v rk := by
  intro f
  induction f with
  | zero => intro v i; rfl
  | succ f ih =>
    intro v i
    rw [cl_spread64_7]
    by_cases hc_ : i < (v 50 0)
    · rw [if_pos hc_]
      all_goals (rw [ih, o_cl_spread64_22 (by omega)])
    · rw [if_neg hc_]
      all_goals (show v rk = _)
      all_goals rfl
theorem o_cl_spread64_7 {rk : Nat} {f : Nat} {v : VS} {i : Int} (hk : (rk < 64 ∨ 64 < rk)) : (cl_spread64_7 f v i) rk = v rk := of_cl_spread64_7 hk f

theorem w_cl_spread64 {X : PX} {d b : Nat} {v : VS}  (hX : XI v)  {Q : Option PV → Nat → VS → Prop} (hQ : XI (cl_spread64 v) → Q none b (cl_spread64 v)) : WV X (d + 1) 59 0 [some (.inr (.inr (some 50))), some (.inr (.inr (some 64))), none, none] [] b v Q := by
  rw [cl_spread64] at hQ
  refine r_ex 2 (pc' := 2) (lo' := [some (.inr (.inr (some 50))), some (.inr (.inr (some 64))), none, none]) (st' := [.inl 0, .inr (.inr (some 64))]) rfl ?_
  have hp_1 : 0 ≤ (0 : Int) ∧ (0 : Int) ≤ 4095 := (by first | assumption | omega | (unfold R32 at *; omega) | (unfold R64 at *; omega) | (simp only [R32, R64] at *; omega))
  refine r_call (m := 20) (args := [.inr (.inr (some 64)), .inl 0]) (n' := 59) (pc' := 5) (lo' := [some (.inr (.inr (some 50))), some (.inr (.inr (some 64))), none, none]) (st' := []) (I := .invokestatic 20) (pc0 := 2) (len := 3) rfl rfl rfl (e_jf_64 hX hp_1) ?_
  show WV _ _ _ 5 _ [] _ (jf_64 v 0) _
  have hX_2 : XI (jf_64 v 0) := i_jf_64 (v := v) (x := 0) hX hp_1
  refine r_ex 2 (pc' := 7) (lo' := [some (.inr (.inr (some 50))), some (.inr (.inr (some 64))), some (.inl 0), none]) (st' := []) rfl ?_
  exact l_cl_spread64_7 7 (jf_64 v 0) 0 _ hX_2 (by first | assumption | omega | (unfold R32 at *; omega) | (unfold R64 at *; omega) | (simp only [R32, R64] at *; omega)) (by first | assumption | omega | (unfold R32 at *; omega) | (unfold R64 at *; omega) | (simp only [R32, R64] at *; omega)) hQ

theorem e_cl_spread64 {X : PX} {d b : Nat} {v : VS}  (hX : XI v)  : EvV X (d + 1) 59 [.inr (.inr (some 50)), .inr (.inr (some 64))] b v none b (cl_spread64 v) := EvV.of (w_cl_spread64 hX  (fun _ => ⟨rfl, rfl, rfl⟩))

theorem i_cl_spread64 {v : VS}  (hX : XI v)  : XI (cl_spread64 v) := by
  have q : WV (0, fun _ => 0, none) (0 + 1) 59 0 [some (.inr (.inr (some 50))), some (.inr (.inr (some 64))), none, none] [] 1 v (fun _ _ _ => XI (cl_spread64 v)) := w_cl_spread64 (X := (0, fun _ => 0, none)) (d := 0) (b := 1) hX  (fun q => q)
  obtain ⟨_, _, _, _, _, _, _, q⟩ := q
  exact q

theorem o_cl_spread64 {rk : Nat} {v : VS}  (hk : (rk < 64 ∨ 64 < rk)) : (cl_spread64 v ) rk = v rk := by
  unfold cl_spread64
  all_goals (rw [o_cl_spread64_7 (by omega), o_jf_64 (by omega)])

def cl_spread65_22 : Nat → VS → Int → Int → VS
  | 0, v, i, s => v
  | f + 1, v, i, s => (if (v 57 ((i).toNat)) < s then v else (if s < 300 then (cl_spread65_22 f (v2 v 65 ((s).toNat) (setb (v 65 ((s).toNat)) (v 55 ((i).toNat)))) i (s + 1)) else v))
def cl_spread65_7 : Nat → VS → Int → VS
  | 0, v, i => v
  | f + 1, v, i => (if i < (v 54 0) then (cl_spread65_7 f (cl_spread65_22 301 v i (v 56 ((i).toNat))) (i + 1)) else v)
def cl_spread65 (v : VS)  : VS :=
  (cl_spread65_7 7 (jf_65 v 0) 0)
theorem l_cl_spread65_22 {X : PX} {d b : Nat} {Q : Option PV → Nat → VS → Prop}  : ∀ (f : Nat) (v : VS) (i : Int) (s : Int), XI v → (0 ≤ i ∧ i < 6) → (0 ≤ s ∧ s ≤ 300) → (300 < s + f) → (∀ qx3 : Option PV, XI (cl_spread65_22 f v i s) → WV X (d + 1) 59 58 [some (.inr (.inr (some 54))), some (.inr (.inr (some 65))), some (.inl i), qx3] [] b (cl_spread65_22 f v i s) Q) → WV X (d + 1) 59 22 [some (.inr (.inr (some 54))), some (.inr (.inr (some 65))), some (.inl i), some (.inl s)] [] b v Q := by
  intro f
  induction f with
  | zero =>
    intro v i s hX hi_0 hi_1 hf hK
    exfalso
    omega
  | succ f ih =>
    intro v i s hX hi_0 hi_1 hf hK
    rw [cl_spread65_22] at hK
    refine r_ex 4 (pc' := 28) (lo' := [some (.inr (.inr (some 54))), some (.inr (.inr (some 65))), some (.inl i), some (.inl s)]) (st' := [.inl i, .inr (.inr (some 57)), .inl s]) rfl ?_
    refine r_iald2 (j := 0) (x := (v 57 ((i).toNat))) (pc' := 29) (pc0 := 28) (len := 1) rfl (s_57 _) (by first | assumption | omega | (unfold R32 at *; omega) | (unfold R64 at *; omega) | (simp only [R32, R64] at *; omega)) (by decide) rfl rfl ?_
    have hb_5 : 0 ≤ (v 57 ((i).toNat)) ∧ (v 57 ((i).toNat)) ≤ 299 := hX 57 ((i).toNat)
    refine n_ic_gt (pc0 := 29) (len := 3) (t := 58) rfl (by first | assumption | omega | (unfold R32 at *; omega) | (unfold R64 at *; omega) | (simp only [R32, R64] at *; omega)) (by first | assumption | omega | (unfold R32 at *; omega) | (unfold R64 at *; omega) | (simp only [R32, R64] at *; omega)) (fun h_29 => ?_) (fun h_29 => ?_)
    · show WV _ _ _ 58 _ _ _ _ _
      rw [if_pos h_29] at hK
      exact hK _ hX 
    · show WV _ _ _ 32 _ _ _ _ _
      rw [if_neg h_29] at hK
      refine r_ex 3 (pc' := 35) (lo' := [some (.inr (.inr (some 54))), some (.inr (.inr (some 65))), some (.inl i), some (.inl s)]) (st' := [.inl 300, .inl s]) rfl ?_
      refine n_ic_ge (pc0 := 35) (len := 3) (t := 58) rfl (by first | assumption | omega | (unfold R32 at *; omega) | (unfold R64 at *; omega) | (simp only [R32, R64] at *; omega)) (by first | assumption | omega | (unfold R32 at *; omega) | (unfold R64 at *; omega) | (simp only [R32, R64] at *; omega)) (fun h_35 => ?_) (fun h_35 => ?_)
      · show WV _ _ _ 58 _ _ _ _ _
        rw [if_neg h_35] at hK
        exact hK _ hX 
      · show WV _ _ _ 38 _ _ _ _ _
        rw [if_pos h_35] at hK
        refine r_ex 3 (pc' := 41) (lo' := [some (.inr (.inr (some 54))), some (.inr (.inr (some 65))), some (.inl i), some (.inl s)]) (st' := [.inl s, .inr (.inr (some 65)), .inl s, .inr (.inr (some 65))]) rfl ?_
        refine r_iald2 (j := 0) (x := (v 65 ((s).toNat))) (pc' := 42) (pc0 := 41) (len := 1) rfl (s_65 _) (by first | assumption | omega | (unfold R32 at *; omega) | (unfold R64 at *; omega) | (simp only [R32, R64] at *; omega)) (by decide) rfl rfl ?_
        have hb_6 : 0 ≤ (v 65 ((s).toNat)) ∧ (v 65 ((s).toNat)) ≤ 511 := hX 65 ((s).toNat)
        refine r_ex 4 (pc' := 48) (lo' := [some (.inr (.inr (some 54))), some (.inr (.inr (some 65))), some (.inl i), some (.inl s)]) (st' := [.inl i, .inr (.inr (some 55)), .inl 1, .inl (v 65 ((s).toNat)), .inl s, .inr (.inr (some 65))]) rfl ?_
        refine r_iald2 (j := 0) (x := (v 55 ((i).toNat))) (pc' := 49) (pc0 := 48) (len := 1) rfl (s_55 _) (by first | assumption | omega | (unfold R32 at *; omega) | (unfold R64 at *; omega) | (simp only [R32, R64] at *; omega)) (by decide) rfl rfl ?_
        have hb_7 : 0 ≤ (v 55 ((i).toNat)) ∧ (v 55 ((i).toNat)) ≤ 8 := hX 55 ((i).toNat)
        refine r_ex 2 (pc' := 51) (lo' := [some (.inr (.inr (some 54))), some (.inr (.inr (some 65))), some (.inl i), some (.inl s)]) (st' := [.inl (pm_or (v 65 ((s).toNat)) (pm_shl 1 (v 55 ((i).toNat)))), .inl s, .inr (.inr (some 65))]) rfl ?_
        rw [or_eq (x := (v 65 ((s).toNat))) (c := (v 55 ((i).toNat))) (by first | assumption | omega | (unfold R32 at *; omega) | (unfold R64 at *; omega) | (simp only [R32, R64] at *; omega)) (by first | assumption | omega | (unfold R32 at *; omega) | (unfold R64 at *; omega) | (simp only [R32, R64] at *; omega))]
        have hb_8 := setb_in (x := (v 65 ((s).toNat))) (c := (v 55 ((i).toNat))) (k := 12) (by first | assumption | omega | (unfold R32 at *; omega) | (unfold R64 at *; omega) | (simp only [R32, R64] at *; omega)) (by first | assumption | omega | (unfold R32 at *; omega) | (unfold R64 at *; omega) | (simp only [R32, R64] at *; omega))
        refine r_iast2 (pc' := 52) (pc0 := 51) (len := 1) rfl (s_65 _) (by first | assumption | omega | (unfold R32 at *; omega) | (unfold R64 at *; omega) | (simp only [R32, R64] at *; omega)) (by decide) rfl ?_
        have hX_9 : XI (v2 v 65 ((s).toNat) (setb (v 65 ((s).toNat)) (v 55 ((i).toNat)))) := XI.put hX (show 0 ≤ (setb (v 65 ((s).toNat)) (v 55 ((i).toNat))) ∧ (setb (v 65 ((s).toNat)) (v 55 ((i).toNat))) ≤ 511 from (by have := setb_in (x := v 65 s.toNat) (c := v 55 i.toNat) (k := 9) (by omega) (by omega); omega))
        refine r_ex 2 (pc' := 22) (lo' := [some (.inr (.inr (some 54))), some (.inr (.inr (some 65))), some (.inl i), some (.inl (s + 1))]) (st' := []) rfl ?_
        refine ih (v2 v 65 ((s).toNat) (setb (v 65 ((s).toNat)) (v 55 ((i).toNat)))) i (s + 1)  hX_9 (by first | assumption | omega | (unfold R32 at *; omega) | (unfold R64 at *; omega) | (simp only [R32, R64] at *; omega)) (by first | assumption | omega | (unfold R32 at *; omega) | (unfold R64 at *; omega) | (simp only [R32, R64] at *; omega)) (by first | assumption | omega | (unfold R32 at *; omega) | (unfold R64 at *; omega) | (simp only [R32, R64] at *; omega)) hK

theorem of_cl_spread65_22 {rk : Nat} (hk : (rk < 65 ∨ 65 < rk)) : ∀ (f : Nat) {v : VS} {i : Int} {s : Int}, (cl_spread65_22 f v i s) rk = v rk := by
  intro f
  induction f with
  | zero => intro v i s; rfl
  | succ f ih =>
    intro v i s
    rw [cl_spread65_22]
    by_cases hc_ : (v 57 ((i).toNat)) < s
    · rw [if_pos hc_]
      all_goals (show v rk = _)
      all_goals rfl
    · rw [if_neg hc_]
      by_cases hc_ : s < 300
      · rw [if_pos hc_]
        all_goals (rw [ih, v2_row (by omega)])
      · rw [if_neg hc_]
        all_goals (show v rk = _)
        all_goals rfl
theorem o_cl_spread65_22 {rk : Nat} {f : Nat} {v : VS} {i : Int} {s : Int} (hk : (rk < 65 ∨ 65 < rk)) : (cl_spread65_22 f v i s) rk = v rk := of_cl_spread65_22 hk f

theorem l_cl_spread65_7 {X : PX} {d b : Nat} {Q : Option PV → Nat → VS → Prop}  : ∀ (f : Nat) (v : VS) (i : Int) (o3 : Option PV), XI v → (0 ≤ i ∧ i ≤ 6) → (6 < i + f) → (XI (cl_spread65_7 f v i) → Q none b (cl_spread65_7 f v i)) → WV X (d + 1) 59 7 [some (.inr (.inr (some 54))), some (.inr (.inr (some 65))), some (.inl i), o3] [] b v Q := by
  intro f
  induction f with
  | zero =>
    intro v i o3 hX hi_0 hf hQ
    exfalso
    omega
  | succ f ih =>
    intro v i o3 hX hi_0 hf hQ
    rw [cl_spread65_7] at hQ
    refine r_ex 3 (pc' := 12) (lo' := [some (.inr (.inr (some 54))), some (.inr (.inr (some 65))), some (.inl i), o3]) (st' := [.inl (v 54 0), .inl i]) rfl ?_
    have hb_3 : 0 ≤ (v 54 0) ∧ (v 54 0) ≤ 6 := hX 54 0
    refine n_ic_ge (pc0 := 12) (len := 3) (t := 64) rfl (by first | assumption | omega | (unfold R32 at *; omega) | (unfold R64 at *; omega) | (simp only [R32, R64] at *; omega)) (by first | assumption | omega | (unfold R32 at *; omega) | (unfold R64 at *; omega) | (simp only [R32, R64] at *; omega)) (fun h_12 => ?_) (fun h_12 => ?_)
    · show WV _ _ _ 64 _ _ _ _ _
      rw [if_neg h_12] at hQ
      refine r_ret (rr := none) (I := .return_) (pc0 := 64) (len := 1) rfl rfl ?_
      exact hQ hX 
    · show WV _ _ _ 15 _ _ _ _ _
      rw [if_pos h_12] at hQ
      refine r_ex 3 (pc' := 20) (lo' := [some (.inr (.inr (some 54))), some (.inr (.inr (some 65))), some (.inl i), o3]) (st' := [.inl i, .inr (.inr (some 56))]) rfl ?_
      refine r_iald2 (j := 0) (x := (v 56 ((i).toNat))) (pc' := 21) (pc0 := 20) (len := 1) rfl (s_56 _) (by first | assumption | omega | (unfold R32 at *; omega) | (unfold R64 at *; omega) | (simp only [R32, R64] at *; omega)) (by decide) rfl rfl ?_
      have hb_4 : 0 ≤ (v 56 ((i).toNat)) ∧ (v 56 ((i).toNat)) ≤ 299 := hX 56 ((i).toNat)
      refine r_ex 1 (pc' := 22) (lo' := [some (.inr (.inr (some 54))), some (.inr (.inr (some 65))), some (.inl i), some (.inl (v 56 ((i).toNat)))]) (st' := []) rfl ?_
      refine l_cl_spread65_22 301 v i (v 56 ((i).toNat))  hX (by first | assumption | omega | (unfold R32 at *; omega) | (unfold R64 at *; omega) | (simp only [R32, R64] at *; omega)) (by first | assumption | omega | (unfold R32 at *; omega) | (unfold R64 at *; omega) | (simp only [R32, R64] at *; omega)) (by first | assumption | omega | (unfold R32 at *; omega) | (unfold R64 at *; omega) | (simp only [R32, R64] at *; omega)) (fun o3_10 hX_10  => ?_)
      show WV _ _ _ 58 _ _ _ _ _
      refine r_ex 2 (pc' := 7) (lo' := [some (.inr (.inr (some 54))), some (.inr (.inr (some 65))), some (.inl (i + 1)), o3_10]) (st' := []) rfl ?_
      refine ih (cl_spread65_22 301 v i (v 56 ((i).toNat))) (i + 1) _ hX_10 (by first | assumption | omega | (unfold R32 at *; omega) | (unfold R64 at *; omega) | (simp only [R32, R64] at *; omega)) (by first | assumption | omega | (unfold R32 at *; omega) | (unfold R64 at *; omega) | (simp only [R32, R64] at *; omega)) hQ

theorem of_cl_spread65_7 {rk : Nat} (hk : (rk < 65 ∨ 65 < rk)) : ∀ (f : Nat) {v : VS} {i : Int}, (cl_spread65_7 f v i) rk = v rk := by
  intro f
  induction f with
  | zero => intro v i; rfl
  | succ f ih =>
    intro v i
    rw [cl_spread65_7]
    by_cases hc_ : i < (v 54 0)
    · rw [if_pos hc_]
      all_goals (rw [ih, o_cl_spread65_22 (by omega)])
    · rw [if_neg hc_]
      all_goals (show v rk = _)
      all_goals rfl
theorem o_cl_spread65_7 {rk : Nat} {f : Nat} {v : VS} {i : Int} (hk : (rk < 65 ∨ 65 < rk)) : (cl_spread65_7 f v i) rk = v rk := of_cl_spread65_7 hk f

theorem w_cl_spread65 {X : PX} {d b : Nat} {v : VS}  (hX : XI v)  {Q : Option PV → Nat → VS → Prop} (hQ : XI (cl_spread65 v) → Q none b (cl_spread65 v)) : WV X (d + 1) 59 0 [some (.inr (.inr (some 54))), some (.inr (.inr (some 65))), none, none] [] b v Q := by
  rw [cl_spread65] at hQ
  refine r_ex 2 (pc' := 2) (lo' := [some (.inr (.inr (some 54))), some (.inr (.inr (some 65))), none, none]) (st' := [.inl 0, .inr (.inr (some 65))]) rfl ?_
  have hp_1 : 0 ≤ (0 : Int) ∧ (0 : Int) ≤ 511 := (by first | assumption | omega | (unfold R32 at *; omega) | (unfold R64 at *; omega) | (simp only [R32, R64] at *; omega))
  refine r_call (m := 20) (args := [.inr (.inr (some 65)), .inl 0]) (n' := 59) (pc' := 5) (lo' := [some (.inr (.inr (some 54))), some (.inr (.inr (some 65))), none, none]) (st' := []) (I := .invokestatic 20) (pc0 := 2) (len := 3) rfl rfl rfl (e_jf_65 hX hp_1) ?_
  show WV _ _ _ 5 _ [] _ (jf_65 v 0) _
  have hX_2 : XI (jf_65 v 0) := i_jf_65 (v := v) (x := 0) hX hp_1
  refine r_ex 2 (pc' := 7) (lo' := [some (.inr (.inr (some 54))), some (.inr (.inr (some 65))), some (.inl 0), none]) (st' := []) rfl ?_
  exact l_cl_spread65_7 7 (jf_65 v 0) 0 _ hX_2 (by first | assumption | omega | (unfold R32 at *; omega) | (unfold R64 at *; omega) | (simp only [R32, R64] at *; omega)) (by first | assumption | omega | (unfold R32 at *; omega) | (unfold R64 at *; omega) | (simp only [R32, R64] at *; omega)) hQ

theorem e_cl_spread65 {X : PX} {d b : Nat} {v : VS}  (hX : XI v)  : EvV X (d + 1) 59 [.inr (.inr (some 54)), .inr (.inr (some 65))] b v none b (cl_spread65 v) := EvV.of (w_cl_spread65 hX  (fun _ => ⟨rfl, rfl, rfl⟩))

theorem i_cl_spread65 {v : VS}  (hX : XI v)  : XI (cl_spread65 v) := by
  have q : WV (0, fun _ => 0, none) (0 + 1) 59 0 [some (.inr (.inr (some 54))), some (.inr (.inr (some 65))), none, none] [] 1 v (fun _ _ _ => XI (cl_spread65 v)) := w_cl_spread65 (X := (0, fun _ => 0, none)) (d := 0) (b := 1) hX  (fun q => q)
  obtain ⟨_, _, _, _, _, _, _, q⟩ := q
  exact q

theorem o_cl_spread65 {rk : Nat} {v : VS}  (hk : (rk < 65 ∨ 65 < rk)) : (cl_spread65 v ) rk = v rk := by
  unfold cl_spread65
  all_goals (rw [o_cl_spread65_7 (by omega), o_jf_65 (by omega)])

def cl_spread66_22 : Nat → VS → Int → Int → VS
  | 0, v, i, s => v
  | f + 1, v, i, s => (if (v 61 ((i).toNat)) < s then v else (if s < 300 then (cl_spread66_22 f (v2 v 66 ((s).toNat) (setb (v 66 ((s).toNat)) (v 59 ((i).toNat)))) i (s + 1)) else v))
def cl_spread66_7 : Nat → VS → Int → VS
  | 0, v, i => v
  | f + 1, v, i => (if i < (v 58 0) then (cl_spread66_7 f (cl_spread66_22 301 v i (v 60 ((i).toNat))) (i + 1)) else v)
def cl_spread66 (v : VS)  : VS :=
  (cl_spread66_7 7 (jf_66 v 0) 0)
theorem l_cl_spread66_22 {X : PX} {d b : Nat} {Q : Option PV → Nat → VS → Prop}  : ∀ (f : Nat) (v : VS) (i : Int) (s : Int), XI v → (0 ≤ i ∧ i < 6) → (0 ≤ s ∧ s ≤ 300) → (300 < s + f) → (∀ qx3 : Option PV, XI (cl_spread66_22 f v i s) → WV X (d + 1) 59 58 [some (.inr (.inr (some 58))), some (.inr (.inr (some 66))), some (.inl i), qx3] [] b (cl_spread66_22 f v i s) Q) → WV X (d + 1) 59 22 [some (.inr (.inr (some 58))), some (.inr (.inr (some 66))), some (.inl i), some (.inl s)] [] b v Q := by
  intro f
  induction f with
  | zero =>
    intro v i s hX hi_0 hi_1 hf hK
    exfalso
    omega
  | succ f ih =>
    intro v i s hX hi_0 hi_1 hf hK
    rw [cl_spread66_22] at hK
    refine r_ex 4 (pc' := 28) (lo' := [some (.inr (.inr (some 58))), some (.inr (.inr (some 66))), some (.inl i), some (.inl s)]) (st' := [.inl i, .inr (.inr (some 61)), .inl s]) rfl ?_
    refine r_iald2 (j := 0) (x := (v 61 ((i).toNat))) (pc' := 29) (pc0 := 28) (len := 1) rfl (s_61 _) (by first | assumption | omega | (unfold R32 at *; omega) | (unfold R64 at *; omega) | (simp only [R32, R64] at *; omega)) (by decide) rfl rfl ?_
    have hb_5 : 0 ≤ (v 61 ((i).toNat)) ∧ (v 61 ((i).toNat)) ≤ 299 := hX 61 ((i).toNat)
    refine n_ic_gt (pc0 := 29) (len := 3) (t := 58) rfl (by first | assumption | omega | (unfold R32 at *; omega) | (unfold R64 at *; omega) | (simp only [R32, R64] at *; omega)) (by first | assumption | omega | (unfold R32 at *; omega) | (unfold R64 at *; omega) | (simp only [R32, R64] at *; omega)) (fun h_29 => ?_) (fun h_29 => ?_)
    · show WV _ _ _ 58 _ _ _ _ _
      rw [if_pos h_29] at hK
      exact hK _ hX 
    · show WV _ _ _ 32 _ _ _ _ _
      rw [if_neg h_29] at hK
      refine r_ex 3 (pc' := 35) (lo' := [some (.inr (.inr (some 58))), some (.inr (.inr (some 66))), some (.inl i), some (.inl s)]) (st' := [.inl 300, .inl s]) rfl ?_
      refine n_ic_ge (pc0 := 35) (len := 3) (t := 58) rfl (by first | assumption | omega | (unfold R32 at *; omega) | (unfold R64 at *; omega) | (simp only [R32, R64] at *; omega)) (by first | assumption | omega | (unfold R32 at *; omega) | (unfold R64 at *; omega) | (simp only [R32, R64] at *; omega)) (fun h_35 => ?_) (fun h_35 => ?_)
      · show WV _ _ _ 58 _ _ _ _ _
        rw [if_neg h_35] at hK
        exact hK _ hX 
      · show WV _ _ _ 38 _ _ _ _ _
        rw [if_pos h_35] at hK
        refine r_ex 3 (pc' := 41) (lo' := [some (.inr (.inr (some 58))), some (.inr (.inr (some 66))), some (.inl i), some (.inl s)]) (st' := [.inl s, .inr (.inr (some 66)), .inl s, .inr (.inr (some 66))]) rfl ?_
        refine r_iald2 (j := 0) (x := (v 66 ((s).toNat))) (pc' := 42) (pc0 := 41) (len := 1) rfl (s_66 _) (by first | assumption | omega | (unfold R32 at *; omega) | (unfold R64 at *; omega) | (simp only [R32, R64] at *; omega)) (by decide) rfl rfl ?_
        have hb_6 : 0 ≤ (v 66 ((s).toNat)) ∧ (v 66 ((s).toNat)) ≤ 511 := hX 66 ((s).toNat)
        refine r_ex 4 (pc' := 48) (lo' := [some (.inr (.inr (some 58))), some (.inr (.inr (some 66))), some (.inl i), some (.inl s)]) (st' := [.inl i, .inr (.inr (some 59)), .inl 1, .inl (v 66 ((s).toNat)), .inl s, .inr (.inr (some 66))]) rfl ?_
        refine r_iald2 (j := 0) (x := (v 59 ((i).toNat))) (pc' := 49) (pc0 := 48) (len := 1) rfl (s_59 _) (by first | assumption | omega | (unfold R32 at *; omega) | (unfold R64 at *; omega) | (simp only [R32, R64] at *; omega)) (by decide) rfl rfl ?_
        have hb_7 : 0 ≤ (v 59 ((i).toNat)) ∧ (v 59 ((i).toNat)) ≤ 8 := hX 59 ((i).toNat)
        refine r_ex 2 (pc' := 51) (lo' := [some (.inr (.inr (some 58))), some (.inr (.inr (some 66))), some (.inl i), some (.inl s)]) (st' := [.inl (pm_or (v 66 ((s).toNat)) (pm_shl 1 (v 59 ((i).toNat)))), .inl s, .inr (.inr (some 66))]) rfl ?_
        rw [or_eq (x := (v 66 ((s).toNat))) (c := (v 59 ((i).toNat))) (by first | assumption | omega | (unfold R32 at *; omega) | (unfold R64 at *; omega) | (simp only [R32, R64] at *; omega)) (by first | assumption | omega | (unfold R32 at *; omega) | (unfold R64 at *; omega) | (simp only [R32, R64] at *; omega))]
        have hb_8 := setb_in (x := (v 66 ((s).toNat))) (c := (v 59 ((i).toNat))) (k := 12) (by first | assumption | omega | (unfold R32 at *; omega) | (unfold R64 at *; omega) | (simp only [R32, R64] at *; omega)) (by first | assumption | omega | (unfold R32 at *; omega) | (unfold R64 at *; omega) | (simp only [R32, R64] at *; omega))
        refine r_iast2 (pc' := 52) (pc0 := 51) (len := 1) rfl (s_66 _) (by first | assumption | omega | (unfold R32 at *; omega) | (unfold R64 at *; omega) | (simp only [R32, R64] at *; omega)) (by decide) rfl ?_
        have hX_9 : XI (v2 v 66 ((s).toNat) (setb (v 66 ((s).toNat)) (v 59 ((i).toNat)))) := XI.put hX (show 0 ≤ (setb (v 66 ((s).toNat)) (v 59 ((i).toNat))) ∧ (setb (v 66 ((s).toNat)) (v 59 ((i).toNat))) ≤ 511 from (by have := setb_in (x := v 66 s.toNat) (c := v 59 i.toNat) (k := 9) (by omega) (by omega); omega))
        refine r_ex 2 (pc' := 22) (lo' := [some (.inr (.inr (some 58))), some (.inr (.inr (some 66))), some (.inl i), some (.inl (s + 1))]) (st' := []) rfl ?_
        refine ih (v2 v 66 ((s).toNat) (setb (v 66 ((s).toNat)) (v 59 ((i).toNat)))) i (s + 1)  hX_9 (by first | assumption | omega | (unfold R32 at *; omega) | (unfold R64 at *; omega) | (simp only [R32, R64] at *; omega)) (by first | assumption | omega | (unfold R32 at *; omega) | (unfold R64 at *; omega) | (simp only [R32, R64] at *; omega)) (by first | assumption | omega | (unfold R32 at *; omega) | (unfold R64 at *; omega) | (simp only [R32, R64] at *; omega)) hK

theorem of_cl_spread66_22 {rk : Nat} (hk : (rk < 66 ∨ 66 < rk)) : ∀ (f : Nat) {v : VS} {i : Int} {s : Int}, (cl_spread66_22 f v i s) rk = v rk := by
  intro f
  induction f with
  | zero => intro v i s; rfl
  | succ f ih =>
    intro v i s
    rw [cl_spread66_22]
    by_cases hc_ : (v 61 ((i).toNat)) < s
    · rw [if_pos hc_]
      all_goals (show v rk = _)
      all_goals rfl
    · rw [if_neg hc_]
      by_cases hc_ : s < 300
      · rw [if_pos hc_]
        all_goals (rw [ih, v2_row (by omega)])
      · rw [if_neg hc_]
        all_goals (show v rk = _)
        all_goals rfl
theorem o_cl_spread66_22 {rk : Nat} {f : Nat} {v : VS} {i : Int} {s : Int} (hk : (rk < 66 ∨ 66 < rk)) : (cl_spread66_22 f v i s) rk = v rk := of_cl_spread66_22 hk f

theorem l_cl_spread66_7 {X : PX} {d b : Nat} {Q : Option PV → Nat → VS → Prop}  : ∀ (f : Nat) (v : VS) (i : Int) (o3 : Option PV), XI v → (0 ≤ i ∧ i ≤ 6) → (6 < i + f) → (XI (cl_spread66_7 f v i) → Q none b (cl_spread66_7 f v i)) → WV X (d + 1) 59 7 [some (.inr (.inr (some 58))), some (.inr (.inr (some 66))), some (.inl i), o3] [] b v Q := by
  intro f
  induction f with
  | zero =>
    intro v i o3 hX hi_0 hf hQ
    exfalso
    omega
  | succ f ih =>
    intro v i o3 hX hi_0 hf hQ
    rw [cl_spread66_7] at hQ
    refine r_ex 3 (pc' := 12) (lo' := [some (.inr (.inr (some 58))), some (.inr (.inr (some 66))), some (.inl i), o3]) (st' := [.inl (v 58 0), .inl i]) rfl ?_
    have hb_3 : 0 ≤ (v 58 0) ∧ (v 58 0) ≤ 6 := hX 58 0
    refine n_ic_ge (pc0 := 12) (len := 3) (t := 64) rfl (by first | assumption | omega | (unfold R32 at *; omega) | (unfold R64 at *; omega) | (simp only [R32, R64] at *; omega)) (by first | assumption | omega | (unfold R32 at *; omega) | (unfold R64 at *; omega) | (simp only [R32, R64] at *; omega)) (fun h_12 => ?_) (fun h_12 => ?_)
    · show WV _ _ _ 64 _ _ _ _ _
      rw [if_neg h_12] at hQ
      refine r_ret (rr := none) (I := .return_) (pc0 := 64) (len := 1) rfl rfl ?_
      exact hQ hX 
    · show WV _ _ _ 15 _ _ _ _ _
      rw [if_pos h_12] at hQ
      refine r_ex 3 (pc' := 20) (lo' := [some (.inr (.inr (some 58))), some (.inr (.inr (some 66))), some (.inl i), o3]) (st' := [.inl i, .inr (.inr (some 60))]) rfl ?_
      refine r_iald2 (j := 0) (x := (v 60 ((i).toNat))) (pc' := 21) (pc0 := 20) (len := 1) rfl (s_60 _) (by first | assumption | omega | (unfold R32 at *; omega) | (unfold R64 at *; omega) | (simp only [R32, R64] at *; omega)) (by decide) rfl rfl ?_
      have hb_4 : 0 ≤ (v 60 ((i).toNat)) ∧ (v 60 ((i).toNat)) ≤ 299 := hX 60 ((i).toNat)
      refine r_ex 1 (pc' := 22) (lo' := [some (.inr (.inr (some 58))), some (.inr (.inr (some 66))), some (.inl i), some (.inl (v 60 ((i).toNat)))]) (st' := []) rfl ?_
      refine l_cl_spread66_22 301 v i (v 60 ((i).toNat))  hX (by first | assumption | omega | (unfold R32 at *; omega) | (unfold R64 at *; omega) | (simp only [R32, R64] at *; omega)) (by first | assumption | omega | (unfold R32 at *; omega) | (unfold R64 at *; omega) | (simp only [R32, R64] at *; omega)) (by first | assumption | omega | (unfold R32 at *; omega) | (unfold R64 at *; omega) | (simp only [R32, R64] at *; omega)) (fun o3_10 hX_10  => ?_)
      show WV _ _ _ 58 _ _ _ _ _
      refine r_ex 2 (pc' := 7) (lo' := [some (.inr (.inr (some 58))), some (.inr (.inr (some 66))), some (.inl (i + 1)), o3_10]) (st' := []) rfl ?_
      refine ih (cl_spread66_22 301 v i (v 60 ((i).toNat))) (i + 1) _ hX_10 (by first | assumption | omega | (unfold R32 at *; omega) | (unfold R64 at *; omega) | (simp only [R32, R64] at *; omega)) (by first | assumption | omega | (unfold R32 at *; omega) | (unfold R64 at *; omega) | (simp only [R32, R64] at *; omega)) hQ

theorem of_cl_spread66_7 {rk : Nat} (hk : (rk < 66 ∨ 66 < rk)) : ∀ (f : Nat) {v : VS} {i : Int}, (cl_spread66_7 f v i) rk = v rk := by
  intro f
  induction f with
  | zero => intro v i; rfl
  | succ f ih =>
    intro v i
    rw [cl_spread66_7]
    by_cases hc_ : i < (v 58 0)
    · rw [if_pos hc_]
      all_goals (rw [ih, o_cl_spread66_22 (by omega)])
    · rw [if_neg hc_]
      all_goals (show v rk = _)
      all_goals rfl
theorem o_cl_spread66_7 {rk : Nat} {f : Nat} {v : VS} {i : Int} (hk : (rk < 66 ∨ 66 < rk)) : (cl_spread66_7 f v i) rk = v rk := of_cl_spread66_7 hk f

theorem w_cl_spread66 {X : PX} {d b : Nat} {v : VS}  (hX : XI v)  {Q : Option PV → Nat → VS → Prop} (hQ : XI (cl_spread66 v) → Q none b (cl_spread66 v)) : WV X (d + 1) 59 0 [some (.inr (.inr (some 58))), some (.inr (.inr (some 66))), none, none] [] b v Q := by
  rw [cl_spread66] at hQ
  refine r_ex 2 (pc' := 2) (lo' := [some (.inr (.inr (some 58))), some (.inr (.inr (some 66))), none, none]) (st' := [.inl 0, .inr (.inr (some 66))]) rfl ?_
  have hp_1 : 0 ≤ (0 : Int) ∧ (0 : Int) ≤ 511 := (by first | assumption | omega | (unfold R32 at *; omega) | (unfold R64 at *; omega) | (simp only [R32, R64] at *; omega))
  refine r_call (m := 20) (args := [.inr (.inr (some 66)), .inl 0]) (n' := 59) (pc' := 5) (lo' := [some (.inr (.inr (some 58))), some (.inr (.inr (some 66))), none, none]) (st' := []) (I := .invokestatic 20) (pc0 := 2) (len := 3) rfl rfl rfl (e_jf_66 hX hp_1) ?_
  show WV _ _ _ 5 _ [] _ (jf_66 v 0) _
  have hX_2 : XI (jf_66 v 0) := i_jf_66 (v := v) (x := 0) hX hp_1
  refine r_ex 2 (pc' := 7) (lo' := [some (.inr (.inr (some 58))), some (.inr (.inr (some 66))), some (.inl 0), none]) (st' := []) rfl ?_
  exact l_cl_spread66_7 7 (jf_66 v 0) 0 _ hX_2 (by first | assumption | omega | (unfold R32 at *; omega) | (unfold R64 at *; omega) | (simp only [R32, R64] at *; omega)) (by first | assumption | omega | (unfold R32 at *; omega) | (unfold R64 at *; omega) | (simp only [R32, R64] at *; omega)) hQ

theorem e_cl_spread66 {X : PX} {d b : Nat} {v : VS}  (hX : XI v)  : EvV X (d + 1) 59 [.inr (.inr (some 58)), .inr (.inr (some 66))] b v none b (cl_spread66 v) := EvV.of (w_cl_spread66 hX  (fun _ => ⟨rfl, rfl, rfl⟩))

theorem i_cl_spread66 {v : VS}  (hX : XI v)  : XI (cl_spread66 v) := by
  have q : WV (0, fun _ => 0, none) (0 + 1) 59 0 [some (.inr (.inr (some 58))), some (.inr (.inr (some 66))), none, none] [] 1 v (fun _ _ _ => XI (cl_spread66 v)) := w_cl_spread66 (X := (0, fun _ => 0, none)) (d := 0) (b := 1) hX  (fun q => q)
  obtain ⟨_, _, _, _, _, _, _, q⟩ := q
  exact q

theorem o_cl_spread66 {rk : Nat} {v : VS}  (hk : (rk < 66 ∨ 66 < rk)) : (cl_spread66 v ) rk = v rk := by
  unfold cl_spread66
  all_goals (rw [o_cl_spread66_7 (by omega), o_jf_66 (by omega)])

def cl_blow_48 : Nat → VS → Int → Int → Int → Int
  | 0, v, n, s, i => 0
  | f + 1, v, n, s, i => (if i < (v 46 0) then (if (v 48 ((i).toNat)) = s then (cl_blow_48 f v (v 47 ((i).toNat)) s (i + 1)) else (cl_blow_48 f v n s (i + 1))) else n)
def cl_blow_37 : Nat → VS → Int → Int → VS
  | 0, v, n, s => v
  | f + 1, v, n, s => (if s < (v 33 1) then (cl_blow_37 f (v2 v 63 ((s).toNat) (cl_blow_48 7 v n s 0)) (cl_blow_48 7 v n s 0) (s + 1)) else v)
def cl_blow (v : VS)  : VS :=
  (cl_blow_37 301 (cl_spread66 (cl_spread65 (cl_spread64 v))) 0 0)
theorem l_cl_blow_48 {X : PX} {d b : Nat} {Q : Option PV → Nat → VS → Prop}  : ∀ (f : Nat) (v : VS) (n : Int) (s : Int) (i : Int), XI v → (0 ≤ s ∧ s ≤ 300) → (-20 ≤ n ∧ n ≤ 20) → (0 ≤ i ∧ i ≤ 6) → (6 < i + f) → (∀ qx4 : Option PV, (-20 ≤ (cl_blow_48 f v n s i) ∧ (cl_blow_48 f v n s i) ≤ 20) → WV X (d + 1 + 1) 58 91 [some (.inr (.inr (some 62))), some (.inr (.inr (some 33))), some (.inl (cl_blow_48 f v n s i)), some (.inl s), qx4] [] b v Q) → WV X (d + 1 + 1) 58 48 [some (.inr (.inr (some 62))), some (.inr (.inr (some 33))), some (.inl n), some (.inl s), some (.inl i)] [] b v Q := by
  intro f
  induction f with
  | zero =>
    intro v n s i hX hi_0 hi_1 hi_2 hf hK
    exfalso
    omega
  | succ f ih =>
    intro v n s i hX hi_0 hi_1 hi_2 hf hK
    rw [cl_blow_48] at hK
    refine r_ex 4 (pc' := 57) (lo' := [some (.inr (.inr (some 62))), some (.inr (.inr (some 33))), some (.inl n), some (.inl s), some (.inl i)]) (st' := [.inl (v 46 0), .inl i]) rfl ?_
    have hb_5 : 0 ≤ (v 46 0) ∧ (v 46 0) ≤ 6 := hX 46 0
    refine n_ic_ge (pc0 := 57) (len := 3) (t := 91) rfl (by first | assumption | omega | (unfold R32 at *; omega) | (unfold R64 at *; omega) | (simp only [R32, R64] at *; omega)) (by first | assumption | omega | (unfold R32 at *; omega) | (unfold R64 at *; omega) | (simp only [R32, R64] at *; omega)) (fun h_57 => ?_) (fun h_57 => ?_)
    · show WV _ _ _ 91 _ _ _ _ _
      rw [if_neg h_57] at hK
      exact hK _  (by first | assumption | omega | (unfold R32 at *; omega) | (unfold R64 at *; omega) | (simp only [R32, R64] at *; omega))
    · show WV _ _ _ 60 _ _ _ _ _
      rw [if_pos h_57] at hK
      refine r_ex 4 (pc' := 69) (lo' := [some (.inr (.inr (some 62))), some (.inr (.inr (some 33))), some (.inl n), some (.inl s), some (.inl i)]) (st' := [.inl i, .inr (.inr (some 48))]) rfl ?_
      refine r_iald2 (j := 0) (x := (v 48 ((i).toNat))) (pc' := 70) (pc0 := 69) (len := 1) rfl (s_48 _) (by first | assumption | omega | (unfold R32 at *; omega) | (unfold R64 at *; omega) | (simp only [R32, R64] at *; omega)) (by decide) rfl rfl ?_
      have hb_6 : 0 ≤ (v 48 ((i).toNat)) ∧ (v 48 ((i).toNat)) ≤ 299 := hX 48 ((i).toNat)
      refine r_ex 1 (pc' := 71) (lo' := [some (.inr (.inr (some 62))), some (.inr (.inr (some 33))), some (.inl n), some (.inl s), some (.inl i)]) (st' := [.inl s, .inl (v 48 ((i).toNat))]) rfl ?_
      refine n_ic_ne (pc0 := 71) (len := 3) (t := 85) rfl (by first | assumption | omega | (unfold R32 at *; omega) | (unfold R64 at *; omega) | (simp only [R32, R64] at *; omega)) (by first | assumption | omega | (unfold R32 at *; omega) | (unfold R64 at *; omega) | (simp only [R32, R64] at *; omega)) (fun h_71 => ?_) (fun h_71 => ?_)
      · show WV _ _ _ 85 _ _ _ _ _
        rw [if_neg h_71] at hK
        refine r_ex 2 (pc' := 48) (lo' := [some (.inr (.inr (some 62))), some (.inr (.inr (some 33))), some (.inl n), some (.inl s), some (.inl (i + 1))]) (st' := []) rfl ?_
        refine ih v n s (i + 1)  hX (by first | assumption | omega | (unfold R32 at *; omega) | (unfold R64 at *; omega) | (simp only [R32, R64] at *; omega)) (by first | assumption | omega | (unfold R32 at *; omega) | (unfold R64 at *; omega) | (simp only [R32, R64] at *; omega)) (by first | assumption | omega | (unfold R32 at *; omega) | (unfold R64 at *; omega) | (simp only [R32, R64] at *; omega)) (by first | assumption | omega | (unfold R32 at *; omega) | (unfold R64 at *; omega) | (simp only [R32, R64] at *; omega)) hK
      · show WV _ _ _ 74 _ _ _ _ _
        rw [if_pos h_71] at hK
        refine r_ex 4 (pc' := 83) (lo' := [some (.inr (.inr (some 62))), some (.inr (.inr (some 33))), some (.inl n), some (.inl s), some (.inl i)]) (st' := [.inl i, .inr (.inr (some 47))]) rfl ?_
        refine r_iald2 (j := 0) (x := (v 47 ((i).toNat))) (pc' := 84) (pc0 := 83) (len := 1) rfl (s_47 _) (by first | assumption | omega | (unfold R32 at *; omega) | (unfold R64 at *; omega) | (simp only [R32, R64] at *; omega)) (by decide) rfl rfl ?_
        have hb_7 : -20 ≤ (v 47 ((i).toNat)) ∧ (v 47 ((i).toNat)) ≤ 20 := hX 47 ((i).toNat)
        refine r_ex 3 (pc' := 48) (lo' := [some (.inr (.inr (some 62))), some (.inr (.inr (some 33))), some (.inl (v 47 ((i).toNat))), some (.inl s), some (.inl (i + 1))]) (st' := []) rfl ?_
        refine ih v (v 47 ((i).toNat)) s (i + 1)  hX (by first | assumption | omega | (unfold R32 at *; omega) | (unfold R64 at *; omega) | (simp only [R32, R64] at *; omega)) (by first | assumption | omega | (unfold R32 at *; omega) | (unfold R64 at *; omega) | (simp only [R32, R64] at *; omega)) (by first | assumption | omega | (unfold R32 at *; omega) | (unfold R64 at *; omega) | (simp only [R32, R64] at *; omega)) (by first | assumption | omega | (unfold R32 at *; omega) | (unfold R64 at *; omega) | (simp only [R32, R64] at *; omega)) hK

theorem l_cl_blow_37 {X : PX} {d b : Nat} {Q : Option PV → Nat → VS → Prop}  : ∀ (f : Nat) (v : VS) (n : Int) (s : Int) (o4 : Option PV), XI v → (0 ≤ s ∧ s ≤ 300) → (-20 ≤ n ∧ n ≤ 20) → (300 < s + f) → (XI (cl_blow_37 f v n s) → Q none b (cl_blow_37 f v n s)) → WV X (d + 1 + 1) 58 37 [some (.inr (.inr (some 62))), some (.inr (.inr (some 33))), some (.inl n), some (.inl s), o4] [] b v Q := by
  intro f
  induction f with
  | zero =>
    intro v n s o4 hX hi_0 hi_1 hf hQ
    exfalso
    omega
  | succ f ih =>
    intro v n s o4 hX hi_0 hi_1 hf hQ
    rw [cl_blow_37] at hQ
    refine r_ex 3 (pc' := 42) (lo' := [some (.inr (.inr (some 62))), some (.inr (.inr (some 33))), some (.inl n), some (.inl s), o4]) (st' := [.inl (v 33 1), .inl s]) rfl ?_
    have hb_4 : 0 ≤ (v 33 1) ∧ (v 33 1) ≤ 300 := hX 33 1
    refine n_ic_ge (pc0 := 42) (len := 3) (t := 104) rfl (by first | assumption | omega | (unfold R32 at *; omega) | (unfold R64 at *; omega) | (simp only [R32, R64] at *; omega)) (by first | assumption | omega | (unfold R32 at *; omega) | (unfold R64 at *; omega) | (simp only [R32, R64] at *; omega)) (fun h_42 => ?_) (fun h_42 => ?_)
    · show WV _ _ _ 104 _ _ _ _ _
      rw [if_neg h_42] at hQ
      refine r_ret (rr := none) (I := .return_) (pc0 := 104) (len := 1) rfl rfl ?_
      exact hQ hX 
    · show WV _ _ _ 45 _ _ _ _ _
      rw [if_pos h_42] at hQ
      refine r_ex 2 (pc' := 48) (lo' := [some (.inr (.inr (some 62))), some (.inr (.inr (some 33))), some (.inl n), some (.inl s), some (.inl 0)]) (st' := []) rfl ?_
      refine l_cl_blow_48 7 v n s 0  hX (by first | assumption | omega | (unfold R32 at *; omega) | (unfold R64 at *; omega) | (simp only [R32, R64] at *; omega)) (by first | assumption | omega | (unfold R32 at *; omega) | (unfold R64 at *; omega) | (simp only [R32, R64] at *; omega)) (by first | assumption | omega | (unfold R32 at *; omega) | (unfold R64 at *; omega) | (simp only [R32, R64] at *; omega)) (by first | assumption | omega | (unfold R32 at *; omega) | (unfold R64 at *; omega) | (simp only [R32, R64] at *; omega)) (fun o4_8  hv_8_0 => ?_)
      show WV _ _ _ 91 _ _ _ _ _
      refine r_ex 4 (pc' := 97) (lo' := [some (.inr (.inr (some 62))), some (.inr (.inr (some 33))), some (.inl (cl_blow_48 7 v n s 0)), some (.inl s), o4_8]) (st' := [.inl (cl_blow_48 7 v n s 0), .inl s, .inr (.inr (some 63))]) rfl ?_
      refine r_iast2 (pc' := 98) (pc0 := 97) (len := 1) rfl (s_63 _) (by first | assumption | omega | (unfold R32 at *; omega) | (unfold R64 at *; omega) | (simp only [R32, R64] at *; omega)) (by decide) rfl ?_
      have hX_9 : XI (v2 v 63 ((s).toNat) (cl_blow_48 7 v n s 0)) := XI.put hX (show -20 ≤ (cl_blow_48 7 v n s 0) ∧ (cl_blow_48 7 v n s 0) ≤ 20 from (by first | assumption | omega | (unfold R32 at *; omega) | (unfold R64 at *; omega) | (simp only [R32, R64] at *; omega)))
      refine r_ex 2 (pc' := 37) (lo' := [some (.inr (.inr (some 62))), some (.inr (.inr (some 33))), some (.inl (cl_blow_48 7 v n s 0)), some (.inl (s + 1)), o4_8]) (st' := []) rfl ?_
      refine ih (v2 v 63 ((s).toNat) (cl_blow_48 7 v n s 0)) (cl_blow_48 7 v n s 0) (s + 1) _ hX_9 (by first | assumption | omega | (unfold R32 at *; omega) | (unfold R64 at *; omega) | (simp only [R32, R64] at *; omega)) (by first | assumption | omega | (unfold R32 at *; omega) | (unfold R64 at *; omega) | (simp only [R32, R64] at *; omega)) (by first | assumption | omega | (unfold R32 at *; omega) | (unfold R64 at *; omega) | (simp only [R32, R64] at *; omega)) hQ

theorem of_cl_blow_37 {rk : Nat} (hk : (rk < 63 ∨ 63 < rk)) : ∀ (f : Nat) {v : VS} {n : Int} {s : Int}, (cl_blow_37 f v n s) rk = v rk := by
  intro f
  induction f with
  | zero => intro v n s; rfl
  | succ f ih =>
    intro v n s
    rw [cl_blow_37]
    by_cases hc_ : s < (v 33 1)
    · rw [if_pos hc_]
      all_goals (rw [ih, v2_row (by omega)])
    · rw [if_neg hc_]
      all_goals (show v rk = _)
      all_goals rfl
theorem o_cl_blow_37 {rk : Nat} {f : Nat} {v : VS} {n : Int} {s : Int} (hk : (rk < 63 ∨ 63 < rk)) : (cl_blow_37 f v n s) rk = v rk := of_cl_blow_37 hk f

theorem w_cl_blow {X : PX} {d b : Nat} {v : VS}  (hX : XI v)  {Q : Option PV → Nat → VS → Prop} (hQ : XI (cl_blow v) → Q none b (cl_blow v)) : WV X (d + 1 + 1) 58 0 [some (.inr (.inr (some 62))), some (.inr (.inr (some 33))), none, none, none] [] b v Q := by
  rw [cl_blow] at hQ
  refine r_ex 4 (pc' := 8) (lo' := [some (.inr (.inr (some 62))), some (.inr (.inr (some 33))), none, none, none]) (st' := [.inr (.inr (some 64)), .inr (.inr (some 50))]) rfl ?_
  refine r_call (m := 59) (args := [.inr (.inr (some 50)), .inr (.inr (some 64))]) (n' := 58) (pc' := 11) (lo' := [some (.inr (.inr (some 62))), some (.inr (.inr (some 33))), none, none, none]) (st' := []) (I := .invokestatic 59) (pc0 := 8) (len := 3) rfl rfl rfl (e_cl_spread64 hX) ?_
  show WV _ _ _ 11 _ [] _ (cl_spread64 v) _
  have hX_1 : XI (cl_spread64 v) := i_cl_spread64 (v := v) hX
  refine r_ex 4 (pc' := 19) (lo' := [some (.inr (.inr (some 62))), some (.inr (.inr (some 33))), none, none, none]) (st' := [.inr (.inr (some 65)), .inr (.inr (some 54))]) rfl ?_
  refine r_call (m := 59) (args := [.inr (.inr (some 54)), .inr (.inr (some 65))]) (n' := 58) (pc' := 22) (lo' := [some (.inr (.inr (some 62))), some (.inr (.inr (some 33))), none, none, none]) (st' := []) (I := .invokestatic 59) (pc0 := 19) (len := 3) rfl rfl rfl (e_cl_spread65 hX_1) ?_
  show WV _ _ _ 22 _ [] _ (cl_spread65 (cl_spread64 v)) _
  have hX_2 : XI (cl_spread65 (cl_spread64 v)) := i_cl_spread65 (v := (cl_spread64 v)) hX_1
  refine r_ex 4 (pc' := 30) (lo' := [some (.inr (.inr (some 62))), some (.inr (.inr (some 33))), none, none, none]) (st' := [.inr (.inr (some 66)), .inr (.inr (some 58))]) rfl ?_
  refine r_call (m := 59) (args := [.inr (.inr (some 58)), .inr (.inr (some 66))]) (n' := 58) (pc' := 33) (lo' := [some (.inr (.inr (some 62))), some (.inr (.inr (some 33))), none, none, none]) (st' := []) (I := .invokestatic 59) (pc0 := 30) (len := 3) rfl rfl rfl (e_cl_spread66 hX_2) ?_
  show WV _ _ _ 33 _ [] _ (cl_spread66 (cl_spread65 (cl_spread64 v))) _
  have hX_3 : XI (cl_spread66 (cl_spread65 (cl_spread64 v))) := i_cl_spread66 (v := (cl_spread65 (cl_spread64 v))) hX_2
  refine r_ex 4 (pc' := 37) (lo' := [some (.inr (.inr (some 62))), some (.inr (.inr (some 33))), some (.inl 0), some (.inl 0), none]) (st' := []) rfl ?_
  exact l_cl_blow_37 301 (cl_spread66 (cl_spread65 (cl_spread64 v))) 0 0 _ hX_3 (by first | assumption | omega | (unfold R32 at *; omega) | (unfold R64 at *; omega) | (simp only [R32, R64] at *; omega)) (by first | assumption | omega | (unfold R32 at *; omega) | (unfold R64 at *; omega) | (simp only [R32, R64] at *; omega)) (by first | assumption | omega | (unfold R32 at *; omega) | (unfold R64 at *; omega) | (simp only [R32, R64] at *; omega)) hQ

theorem e_cl_blow {X : PX} {d b : Nat} {v : VS}  (hX : XI v)  : EvV X (d + 1 + 1) 58 [.inr (.inr (some 62)), .inr (.inr (some 33))] b v none b (cl_blow v) := EvV.of (w_cl_blow hX  (fun _ => ⟨rfl, rfl, rfl⟩))

theorem i_cl_blow {v : VS}  (hX : XI v)  : XI (cl_blow v) := by
  have q : WV (0, fun _ => 0, none) (0 + 1 + 1) 58 0 [some (.inr (.inr (some 62))), some (.inr (.inr (some 33))), none, none, none] [] 1 v (fun _ _ _ => XI (cl_blow v)) := w_cl_blow (X := (0, fun _ => 0, none)) (d := 0) (b := 1) hX  (fun q => q)
  obtain ⟨_, _, _, _, _, _, _, q⟩ := q
  exact q

theorem o_cl_blow {rk : Nat} {v : VS}  (hk : (rk < 63 ∨ 66 < rk)) : (cl_blow v ) rk = v rk := by
  unfold cl_blow
  all_goals (rw [o_cl_blow_37 (by omega), o_cl_spread66 (by omega), o_cl_spread65 (by omega), o_cl_spread64 (by omega)])

def cl_renew (v : VS)  : VS :=
  (v2 (cl_blow v) 0 10 1)
theorem w_cl_renew {X : PX} {d b : Nat} {v : VS}  (hX : XI v)  {Q : Option PV → Nat → VS → Prop} (hQ : XI (cl_renew v) → Q none b (cl_renew v)) : WV X (d + 1 + 1 + 1) 57 0 [some (.inr (.inr (some 0)))] [] b v Q := by
  rw [cl_renew] at hQ
  refine r_ex 4 (pc' := 8) (lo' := [some (.inr (.inr (some 0)))]) (st' := [.inr (.inr (some 33)), .inr (.inr (some 62))]) rfl ?_
  refine r_call (m := 58) (args := [.inr (.inr (some 62)), .inr (.inr (some 33))]) (n' := 57) (pc' := 11) (lo' := [some (.inr (.inr (some 0)))]) (st' := []) (I := .invokevirtual 58) (pc0 := 8) (len := 3) rfl rfl rfl (e_cl_blow hX) ?_
  show WV _ _ _ 11 _ [] _ (cl_blow v) _
  have hX_1 : XI (cl_blow v) := i_cl_blow (v := v) hX
  refine r_ex 2 (pc' := 13) (lo' := [some (.inr (.inr (some 0)))]) (st' := [.inl 1, .inr (.inr (some 0))]) rfl ?_
  refine r_puti2 (j := 10) (pc' := 16) (pc0 := 13) (len := 3) rfl (s_0 _) rfl rfl rfl (Or.inr rfl) rfl rfl ?_
  have hX_2 : XI (v2 (cl_blow v) 0 10 1) := XI.put hX_1 (show 0 ≤ 1 ∧ 1 ≤ 1 from (by first | assumption | omega | (unfold R32 at *; omega) | (unfold R64 at *; omega) | (simp only [R32, R64] at *; omega)))
  refine r_ret (rr := none) (I := .return_) (pc0 := 16) (len := 1) rfl rfl ?_
  exact hQ hX_2 

theorem e_cl_renew {X : PX} {d b : Nat} {v : VS}  (hX : XI v)  : EvV X (d + 1 + 1 + 1) 57 [.inr (.inr (some 0))] b v none b (cl_renew v) := EvV.of (w_cl_renew hX  (fun _ => ⟨rfl, rfl, rfl⟩))

theorem i_cl_renew {v : VS}  (hX : XI v)  : XI (cl_renew v) := by
  have q : WV (0, fun _ => 0, none) (0 + 1 + 1 + 1) 57 0 [some (.inr (.inr (some 0)))] [] 1 v (fun _ _ _ => XI (cl_renew v)) := w_cl_renew (X := (0, fun _ => 0, none)) (d := 0) (b := 1) hX  (fun q => q)
  obtain ⟨_, _, _, _, _, _, _, q⟩ := q
  exact q

theorem o_cl_renew {rk : Nat} {v : VS}  (hk : (rk < 0 ∨ 0 < rk) ∧ (rk < 63 ∨ 66 < rk)) : (cl_renew v ) rk = v rk := by
  unfold cl_renew
  all_goals (show (v2 (cl_blow v) 0 10 1) rk = _)
  all_goals (rw [v2_row (by omega), o_cl_blow (by omega)])

def cl_keep (v : VS) (k : Int) : Int × VS :=
  (if k < 0 then ((-2), v) else (if k < 3 then (if k = 0 then (0, (v2 (cl_copy116_33 v) 0 13 (setb ((cl_copy116_33 v) 0 13) 0))) else (if k = 1 then (0, (v2 (cl_copy145_33 v) 0 13 (setb ((cl_copy145_33 v) 0 13) 1))) else (0, (v2 (cl_copy174_33 v) 0 13 (setb ((cl_copy174_33 v) 0 13) 2))))) else ((-2), v)))
theorem w_cl_keep {X : PX} {d b : Nat} {v : VS} {k : Int} (hX : XI v) (hp_a : R32 k) {Q : Option PV → Nat → VS → Prop} (hQ : XI (cl_keep v k).2 → Q (some (.inl (cl_keep v k).1)) b (cl_keep v k).2) : WV X (d + 1 + 1) 190 0 [some (.inr (.inr (some 0))), some (.inl k)] [] b v Q := by
  rw [cl_keep] at hQ
  refine r_ex 1 (pc' := 1) (lo' := [some (.inr (.inr (some 0))), some (.inl k)]) (st' := [.inl k]) rfl ?_
  refine n_if_lt (pc0 := 1) (len := 3) (t := 9) rfl (by first | assumption | omega | (unfold R32 at *; omega) | (unfold R64 at *; omega) | (simp only [R32, R64] at *; omega)) (fun h_1 => ?_) (fun h_1 => ?_)
  · show WV _ _ _ 9 _ _ _ _ _
    rw [if_pos h_1] at hQ
    refine r_ex 1 (pc' := 11) (lo' := [some (.inr (.inr (some 0))), some (.inl k)]) (st' := [.inl (-2)]) rfl ?_
    refine r_ret (rr := some (.inl (-2))) (I := .ireturn) (pc0 := 11) (len := 1) rfl rfl ?_
    exact hQ hX 
  · show WV _ _ _ 4 _ _ _ _ _
    rw [if_neg h_1] at hQ
    refine r_ex 2 (pc' := 6) (lo' := [some (.inr (.inr (some 0))), some (.inl k)]) (st' := [.inl 3, .inl k]) rfl ?_
    refine n_ic_lt (pc0 := 6) (len := 3) (t := 12) rfl (by first | assumption | omega | (unfold R32 at *; omega) | (unfold R64 at *; omega) | (simp only [R32, R64] at *; omega)) (by first | assumption | omega | (unfold R32 at *; omega) | (unfold R64 at *; omega) | (simp only [R32, R64] at *; omega)) (fun h_6 => ?_) (fun h_6 => ?_)
    · show WV _ _ _ 12 _ _ _ _ _
      rw [if_pos h_6] at hQ
      by_cases hk_0 : k = 0
      · rw [if_pos hk_0] at hQ
        subst hk_0
        refine r_ex 3 (pc' := 17) (lo' := [some (.inr (.inr (some 0))), some (.inl 0)]) (st' := [.inl 0, .inr (.inr (some 115))]) rfl ?_
        refine r_aald2 (z := some 116) (pc' := 18) (pc0 := 17) (len := 1) rfl (s_115 _) (Or.inr rfl) (by first | assumption | omega | (unfold R32 at *; omega) | (unfold R64 at *; omega) | (simp only [R32, R64] at *; omega)) (by decide) rfl rfl ?_
        refine r_ex 2 (pc' := 22) (lo' := [some (.inr (.inr (some 0))), some (.inl 0)]) (st' := [.inr (.inr (some 33)), .inr (.inr (some 116))]) rfl ?_
        refine r_call (m := 53) (args := [.inr (.inr (some 116)), .inr (.inr (some 33))]) (n' := 190) (pc' := 25) (lo' := [some (.inr (.inr (some 0))), some (.inl 0)]) (st' := []) (I := .invokevirtual 53) (pc0 := 22) (len := 3) rfl rfl rfl (e_cl_copy116_33 hX) ?_
        show WV _ _ _ 25 _ [] _ (cl_copy116_33 v) _
        have hX_1 : XI (cl_copy116_33 v) := i_cl_copy116_33 (v := v) hX
        refine r_ex 7 (pc' := 34) (lo' := [some (.inr (.inr (some 0))), some (.inl 0)]) (st' := [.inl (pm_or ((cl_copy116_33 v) 0 13) (pm_shl 1 0)), .inr (.inr (some 0))]) rfl ?_
        have hb_2 : 0 ≤ ((cl_copy116_33 v) 0 13) ∧ ((cl_copy116_33 v) 0 13) ≤ 7 := hX_1 0 13
        rw [or_eq (x := ((cl_copy116_33 v) 0 13)) (c := 0) (by first | assumption | omega | (unfold R32 at *; omega) | (unfold R64 at *; omega) | (simp only [R32, R64] at *; omega)) (by first | assumption | omega | (unfold R32 at *; omega) | (unfold R64 at *; omega) | (simp only [R32, R64] at *; omega))]
        have hb_3 := setb_in (x := ((cl_copy116_33 v) 0 13)) (c := 0) (k := 12) (by first | assumption | omega | (unfold R32 at *; omega) | (unfold R64 at *; omega) | (simp only [R32, R64] at *; omega)) (by first | assumption | omega | (unfold R32 at *; omega) | (unfold R64 at *; omega) | (simp only [R32, R64] at *; omega))
        refine r_puti2 (j := 13) (pc' := 37) (pc0 := 34) (len := 3) rfl (s_0 _) rfl rfl rfl (Or.inl rfl) rfl rfl ?_
        have hX_4 : XI (v2 (cl_copy116_33 v) 0 13 (setb ((cl_copy116_33 v) 0 13) 0)) := XI.put hX_1 (show 0 ≤ (setb ((cl_copy116_33 v) 0 13) 0) ∧ (setb ((cl_copy116_33 v) 0 13) 0) ≤ 7 from (setb3 (by omega) (by omega)))
        refine r_ex 1 (pc' := 38) (lo' := [some (.inr (.inr (some 0))), some (.inl 0)]) (st' := [.inl 0]) rfl ?_
        refine r_ret (rr := some (.inl 0)) (I := .ireturn) (pc0 := 38) (len := 1) rfl rfl ?_
        exact hQ hX_4 
      · rw [if_neg hk_0] at hQ
        by_cases hk_1 : k = 1
        · rw [if_pos hk_1] at hQ
          subst hk_1
          refine r_ex 3 (pc' := 17) (lo' := [some (.inr (.inr (some 0))), some (.inl 1)]) (st' := [.inl 1, .inr (.inr (some 115))]) rfl ?_
          refine r_aald2 (z := some 145) (pc' := 18) (pc0 := 17) (len := 1) rfl (s_115 _) (Or.inr rfl) (by first | assumption | omega | (unfold R32 at *; omega) | (unfold R64 at *; omega) | (simp only [R32, R64] at *; omega)) (by decide) rfl rfl ?_
          refine r_ex 2 (pc' := 22) (lo' := [some (.inr (.inr (some 0))), some (.inl 1)]) (st' := [.inr (.inr (some 33)), .inr (.inr (some 145))]) rfl ?_
          refine r_call (m := 53) (args := [.inr (.inr (some 145)), .inr (.inr (some 33))]) (n' := 190) (pc' := 25) (lo' := [some (.inr (.inr (some 0))), some (.inl 1)]) (st' := []) (I := .invokevirtual 53) (pc0 := 22) (len := 3) rfl rfl rfl (e_cl_copy145_33 hX) ?_
          show WV _ _ _ 25 _ [] _ (cl_copy145_33 v) _
          have hX_5 : XI (cl_copy145_33 v) := i_cl_copy145_33 (v := v) hX
          refine r_ex 7 (pc' := 34) (lo' := [some (.inr (.inr (some 0))), some (.inl 1)]) (st' := [.inl (pm_or ((cl_copy145_33 v) 0 13) (pm_shl 1 1)), .inr (.inr (some 0))]) rfl ?_
          have hb_6 : 0 ≤ ((cl_copy145_33 v) 0 13) ∧ ((cl_copy145_33 v) 0 13) ≤ 7 := hX_5 0 13
          rw [or_eq (x := ((cl_copy145_33 v) 0 13)) (c := 1) (by first | assumption | omega | (unfold R32 at *; omega) | (unfold R64 at *; omega) | (simp only [R32, R64] at *; omega)) (by first | assumption | omega | (unfold R32 at *; omega) | (unfold R64 at *; omega) | (simp only [R32, R64] at *; omega))]
          have hb_7 := setb_in (x := ((cl_copy145_33 v) 0 13)) (c := 1) (k := 12) (by first | assumption | omega | (unfold R32 at *; omega) | (unfold R64 at *; omega) | (simp only [R32, R64] at *; omega)) (by first | assumption | omega | (unfold R32 at *; omega) | (unfold R64 at *; omega) | (simp only [R32, R64] at *; omega))
          refine r_puti2 (j := 13) (pc' := 37) (pc0 := 34) (len := 3) rfl (s_0 _) rfl rfl rfl (Or.inl rfl) rfl rfl ?_
          have hX_8 : XI (v2 (cl_copy145_33 v) 0 13 (setb ((cl_copy145_33 v) 0 13) 1)) := XI.put hX_5 (show 0 ≤ (setb ((cl_copy145_33 v) 0 13) 1) ∧ (setb ((cl_copy145_33 v) 0 13) 1) ≤ 7 from (setb3 (by omega) (by omega)))
          refine r_ex 1 (pc' := 38) (lo' := [some (.inr (.inr (some 0))), some (.inl 1)]) (st' := [.inl 0]) rfl ?_
          refine r_ret (rr := some (.inl 0)) (I := .ireturn) (pc0 := 38) (len := 1) rfl rfl ?_
          exact hQ hX_8 
        · rw [if_neg hk_1] at hQ
          have hk_2 : k = 2 := by omega
          subst hk_2
          refine r_ex 3 (pc' := 17) (lo' := [some (.inr (.inr (some 0))), some (.inl 2)]) (st' := [.inl 2, .inr (.inr (some 115))]) rfl ?_
          refine r_aald2 (z := some 174) (pc' := 18) (pc0 := 17) (len := 1) rfl (s_115 _) (Or.inr rfl) (by first | assumption | omega | (unfold R32 at *; omega) | (unfold R64 at *; omega) | (simp only [R32, R64] at *; omega)) (by decide) rfl rfl ?_
          refine r_ex 2 (pc' := 22) (lo' := [some (.inr (.inr (some 0))), some (.inl 2)]) (st' := [.inr (.inr (some 33)), .inr (.inr (some 174))]) rfl ?_
          refine r_call (m := 53) (args := [.inr (.inr (some 174)), .inr (.inr (some 33))]) (n' := 190) (pc' := 25) (lo' := [some (.inr (.inr (some 0))), some (.inl 2)]) (st' := []) (I := .invokevirtual 53) (pc0 := 22) (len := 3) rfl rfl rfl (e_cl_copy174_33 hX) ?_
          show WV _ _ _ 25 _ [] _ (cl_copy174_33 v) _
          have hX_9 : XI (cl_copy174_33 v) := i_cl_copy174_33 (v := v) hX
          refine r_ex 7 (pc' := 34) (lo' := [some (.inr (.inr (some 0))), some (.inl 2)]) (st' := [.inl (pm_or ((cl_copy174_33 v) 0 13) (pm_shl 1 2)), .inr (.inr (some 0))]) rfl ?_
          have hb_10 : 0 ≤ ((cl_copy174_33 v) 0 13) ∧ ((cl_copy174_33 v) 0 13) ≤ 7 := hX_9 0 13
          rw [or_eq (x := ((cl_copy174_33 v) 0 13)) (c := 2) (by first | assumption | omega | (unfold R32 at *; omega) | (unfold R64 at *; omega) | (simp only [R32, R64] at *; omega)) (by first | assumption | omega | (unfold R32 at *; omega) | (unfold R64 at *; omega) | (simp only [R32, R64] at *; omega))]
          have hb_11 := setb_in (x := ((cl_copy174_33 v) 0 13)) (c := 2) (k := 12) (by first | assumption | omega | (unfold R32 at *; omega) | (unfold R64 at *; omega) | (simp only [R32, R64] at *; omega)) (by first | assumption | omega | (unfold R32 at *; omega) | (unfold R64 at *; omega) | (simp only [R32, R64] at *; omega))
          refine r_puti2 (j := 13) (pc' := 37) (pc0 := 34) (len := 3) rfl (s_0 _) rfl rfl rfl (Or.inl rfl) rfl rfl ?_
          have hX_12 : XI (v2 (cl_copy174_33 v) 0 13 (setb ((cl_copy174_33 v) 0 13) 2)) := XI.put hX_9 (show 0 ≤ (setb ((cl_copy174_33 v) 0 13) 2) ∧ (setb ((cl_copy174_33 v) 0 13) 2) ≤ 7 from (setb3 (by omega) (by omega)))
          refine r_ex 1 (pc' := 38) (lo' := [some (.inr (.inr (some 0))), some (.inl 2)]) (st' := [.inl 0]) rfl ?_
          refine r_ret (rr := some (.inl 0)) (I := .ireturn) (pc0 := 38) (len := 1) rfl rfl ?_
          exact hQ hX_12 
    · show WV _ _ _ 9 _ _ _ _ _
      rw [if_neg h_6] at hQ
      refine r_ex 1 (pc' := 11) (lo' := [some (.inr (.inr (some 0))), some (.inl k)]) (st' := [.inl (-2)]) rfl ?_
      refine r_ret (rr := some (.inl (-2))) (I := .ireturn) (pc0 := 11) (len := 1) rfl rfl ?_
      exact hQ hX 

theorem e_cl_keep {X : PX} {d b : Nat} {v : VS} {k : Int} (hX : XI v) (hp_a : R32 k) : EvV X (d + 1 + 1) 190 [.inr (.inr (some 0)), .inl k] b v (some (.inl (cl_keep v k).1)) b ((cl_keep v k).2) := EvV.of (w_cl_keep hX hp_a (fun _ => ⟨rfl, rfl, rfl⟩))

theorem i_cl_keep {v : VS} {k : Int} (hX : XI v) (hp_a : R32 k) : XI ((cl_keep v k).2) := by
  have q : WV (0, fun _ => 0, none) (0 + 1 + 1) 190 0 [some (.inr (.inr (some 0))), some (.inl k)] [] 1 v (fun _ _ _ => XI ((cl_keep v k).2)) := w_cl_keep (X := (0, fun _ => 0, none)) (d := 0) (b := 1) hX hp_a (fun q => q)
  obtain ⟨_, _, _, _, _, _, _, q⟩ := q
  exact q

theorem o_cl_keep {rk : Nat} {v : VS} {k : Int} (hk : (rk < 0 ∨ 0 < rk) ∧ (rk < 116 ∨ 202 < rk)) : (cl_keep v k).2 rk = v rk := by
  unfold cl_keep
  by_cases hc_ : k < 0
  · rw [if_pos hc_]
    all_goals (show v rk = _)
    all_goals rfl
  · rw [if_neg hc_]
    by_cases hc_ : k < 3
    · rw [if_pos hc_]
      by_cases hc_ : k = 0
      · rw [if_pos hc_]
        all_goals (show (v2 (cl_copy116_33 v) 0 13 (setb ((cl_copy116_33 v) 0 13) 0)) rk = _)
        all_goals (rw [v2_row (by omega), o_cl_copy116_33 (by omega)])
      · rw [if_neg hc_]
        by_cases hc_ : k = 1
        · rw [if_pos hc_]
          all_goals (show (v2 (cl_copy145_33 v) 0 13 (setb ((cl_copy145_33 v) 0 13) 1)) rk = _)
          all_goals (rw [v2_row (by omega), o_cl_copy145_33 (by omega)])
        · rw [if_neg hc_]
          all_goals (show (v2 (cl_copy174_33 v) 0 13 (setb ((cl_copy174_33 v) 0 13) 2)) rk = _)
          all_goals (rw [v2_row (by omega), o_cl_copy174_33 (by omega)])
    · rw [if_neg hc_]
      all_goals (show v rk = _)
      all_goals rfl

def cl_back (v : VS) (k : Int) : Int × VS :=
  (if k < 0 then ((-2), v) else (if k < 3 then (if (cl_bit v (v 0 13) k) = 0 then ((-6), v) else (if k = 0 then (0, (cl_renew (cl_copy33_116 v))) else (if k = 1 then (0, (cl_renew (cl_copy33_145 v))) else (0, (cl_renew (cl_copy33_174 v)))))) else ((-2), v)))
theorem w_cl_back {X : PX} {d b : Nat} {v : VS} {k : Int} (hX : XI v) (hp_a : R32 k) {Q : Option PV → Nat → VS → Prop} (hQ : XI (cl_back v k).2 → Q (some (.inl (cl_back v k).1)) b (cl_back v k).2) : WV X (d + 1 + 1 + 1 + 1) 191 0 [some (.inr (.inr (some 0))), some (.inl k)] [] b v Q := by
  rw [cl_back] at hQ
  refine r_ex 1 (pc' := 1) (lo' := [some (.inr (.inr (some 0))), some (.inl k)]) (st' := [.inl k]) rfl ?_
  refine n_if_lt (pc0 := 1) (len := 3) (t := 9) rfl (by first | assumption | omega | (unfold R32 at *; omega) | (unfold R64 at *; omega) | (simp only [R32, R64] at *; omega)) (fun h_1 => ?_) (fun h_1 => ?_)
  · show WV _ _ _ 9 _ _ _ _ _
    rw [if_pos h_1] at hQ
    refine r_ex 1 (pc' := 11) (lo' := [some (.inr (.inr (some 0))), some (.inl k)]) (st' := [.inl (-2)]) rfl ?_
    refine r_ret (rr := some (.inl (-2))) (I := .ireturn) (pc0 := 11) (len := 1) rfl rfl ?_
    exact hQ hX 
  · show WV _ _ _ 4 _ _ _ _ _
    rw [if_neg h_1] at hQ
    refine r_ex 2 (pc' := 6) (lo' := [some (.inr (.inr (some 0))), some (.inl k)]) (st' := [.inl 3, .inl k]) rfl ?_
    refine n_ic_lt (pc0 := 6) (len := 3) (t := 12) rfl (by first | assumption | omega | (unfold R32 at *; omega) | (unfold R64 at *; omega) | (simp only [R32, R64] at *; omega)) (by first | assumption | omega | (unfold R32 at *; omega) | (unfold R64 at *; omega) | (simp only [R32, R64] at *; omega)) (fun h_6 => ?_) (fun h_6 => ?_)
    · show WV _ _ _ 12 _ _ _ _ _
      rw [if_pos h_6] at hQ
      refine r_ex 3 (pc' := 17) (lo' := [some (.inr (.inr (some 0))), some (.inl k)]) (st' := [.inl k, .inl (v 0 13)]) rfl ?_
      have hb_1 : 0 ≤ (v 0 13) ∧ (v 0 13) ≤ 7 := hX 0 13
      have hp_2 : 0 ≤ (v 0 13) ∧ (v 0 13) < 4096 := (by first | assumption | omega | (unfold R32 at *; omega) | (unfold R64 at *; omega) | (simp only [R32, R64] at *; omega))
      have hp_3 : 0 ≤ k ∧ k < 12 := (by first | assumption | omega | (unfold R32 at *; omega) | (unfold R64 at *; omega) | (simp only [R32, R64] at *; omega))
      refine r_call (m := 63) (args := [.inl (v 0 13), .inl k]) (n' := 191) (pc' := 20) (lo' := [some (.inr (.inr (some 0))), some (.inl k)]) (st' := []) (I := .invokestatic 63) (pc0 := 17) (len := 3) rfl rfl rfl (e_cl_bit hX hp_2 hp_3) ?_
      show WV _ _ _ 20 _ [.inl (cl_bit v (v 0 13) k)] _ _ _
      have hb_4 := n_cl_bit (v := v) (c := (v 0 13)) (k := k) hX hp_2 hp_3
      refine n_if_ne (pc0 := 20) (len := 3) (t := 26) rfl (by first | assumption | omega | (unfold R32 at *; omega) | (unfold R64 at *; omega) | (simp only [R32, R64] at *; omega)) (fun h_20 => ?_) (fun h_20 => ?_)
      · show WV _ _ _ 26 _ _ _ _ _
        rw [if_neg h_20] at hQ
        by_cases hk_0 : k = 0
        · rw [if_pos hk_0] at hQ
          subst hk_0
          refine r_ex 5 (pc' := 35) (lo' := [some (.inr (.inr (some 0))), some (.inl 0)]) (st' := [.inl 0, .inr (.inr (some 115)), .inr (.inr (some 33))]) rfl ?_
          refine r_aald2 (z := some 116) (pc' := 36) (pc0 := 35) (len := 1) rfl (s_115 _) (Or.inr rfl) (by first | assumption | omega | (unfold R32 at *; omega) | (unfold R64 at *; omega) | (simp only [R32, R64] at *; omega)) (by decide) rfl rfl ?_
          refine r_call (m := 53) (args := [.inr (.inr (some 33)), .inr (.inr (some 116))]) (n' := 191) (pc' := 39) (lo' := [some (.inr (.inr (some 0))), some (.inl 0)]) (st' := []) (I := .invokevirtual 53) (pc0 := 36) (len := 3) rfl rfl rfl (e_cl_copy33_116 hX) ?_
          show WV _ _ _ 39 _ [] _ (cl_copy33_116 v) _
          have hX_5 : XI (cl_copy33_116 v) := i_cl_copy33_116 (v := v) hX
          refine r_ex 1 (pc' := 40) (lo' := [some (.inr (.inr (some 0))), some (.inl 0)]) (st' := [.inr (.inr (some 0))]) rfl ?_
          refine r_call (m := 57) (args := [.inr (.inr (some 0))]) (n' := 191) (pc' := 43) (lo' := [some (.inr (.inr (some 0))), some (.inl 0)]) (st' := []) (I := .invokevirtual 57) (pc0 := 40) (len := 3) rfl rfl rfl (e_cl_renew hX_5) ?_
          show WV _ _ _ 43 _ [] _ (cl_renew (cl_copy33_116 v)) _
          have hX_6 : XI (cl_renew (cl_copy33_116 v)) := i_cl_renew (v := (cl_copy33_116 v)) hX_5
          refine r_ex 1 (pc' := 44) (lo' := [some (.inr (.inr (some 0))), some (.inl 0)]) (st' := [.inl 0]) rfl ?_
          refine r_ret (rr := some (.inl 0)) (I := .ireturn) (pc0 := 44) (len := 1) rfl rfl ?_
          exact hQ hX_6 
        · rw [if_neg hk_0] at hQ
          by_cases hk_1 : k = 1
          · rw [if_pos hk_1] at hQ
            subst hk_1
            refine r_ex 5 (pc' := 35) (lo' := [some (.inr (.inr (some 0))), some (.inl 1)]) (st' := [.inl 1, .inr (.inr (some 115)), .inr (.inr (some 33))]) rfl ?_
            refine r_aald2 (z := some 145) (pc' := 36) (pc0 := 35) (len := 1) rfl (s_115 _) (Or.inr rfl) (by first | assumption | omega | (unfold R32 at *; omega) | (unfold R64 at *; omega) | (simp only [R32, R64] at *; omega)) (by decide) rfl rfl ?_
            refine r_call (m := 53) (args := [.inr (.inr (some 33)), .inr (.inr (some 145))]) (n' := 191) (pc' := 39) (lo' := [some (.inr (.inr (some 0))), some (.inl 1)]) (st' := []) (I := .invokevirtual 53) (pc0 := 36) (len := 3) rfl rfl rfl (e_cl_copy33_145 hX) ?_
            show WV _ _ _ 39 _ [] _ (cl_copy33_145 v) _
            have hX_7 : XI (cl_copy33_145 v) := i_cl_copy33_145 (v := v) hX
            refine r_ex 1 (pc' := 40) (lo' := [some (.inr (.inr (some 0))), some (.inl 1)]) (st' := [.inr (.inr (some 0))]) rfl ?_
            refine r_call (m := 57) (args := [.inr (.inr (some 0))]) (n' := 191) (pc' := 43) (lo' := [some (.inr (.inr (some 0))), some (.inl 1)]) (st' := []) (I := .invokevirtual 57) (pc0 := 40) (len := 3) rfl rfl rfl (e_cl_renew hX_7) ?_
            show WV _ _ _ 43 _ [] _ (cl_renew (cl_copy33_145 v)) _
            have hX_8 : XI (cl_renew (cl_copy33_145 v)) := i_cl_renew (v := (cl_copy33_145 v)) hX_7
            refine r_ex 1 (pc' := 44) (lo' := [some (.inr (.inr (some 0))), some (.inl 1)]) (st' := [.inl 0]) rfl ?_
            refine r_ret (rr := some (.inl 0)) (I := .ireturn) (pc0 := 44) (len := 1) rfl rfl ?_
            exact hQ hX_8 
          · rw [if_neg hk_1] at hQ
            have hk_2 : k = 2 := by omega
            subst hk_2
            refine r_ex 5 (pc' := 35) (lo' := [some (.inr (.inr (some 0))), some (.inl 2)]) (st' := [.inl 2, .inr (.inr (some 115)), .inr (.inr (some 33))]) rfl ?_
            refine r_aald2 (z := some 174) (pc' := 36) (pc0 := 35) (len := 1) rfl (s_115 _) (Or.inr rfl) (by first | assumption | omega | (unfold R32 at *; omega) | (unfold R64 at *; omega) | (simp only [R32, R64] at *; omega)) (by decide) rfl rfl ?_
            refine r_call (m := 53) (args := [.inr (.inr (some 33)), .inr (.inr (some 174))]) (n' := 191) (pc' := 39) (lo' := [some (.inr (.inr (some 0))), some (.inl 2)]) (st' := []) (I := .invokevirtual 53) (pc0 := 36) (len := 3) rfl rfl rfl (e_cl_copy33_174 hX) ?_
            show WV _ _ _ 39 _ [] _ (cl_copy33_174 v) _
            have hX_9 : XI (cl_copy33_174 v) := i_cl_copy33_174 (v := v) hX
            refine r_ex 1 (pc' := 40) (lo' := [some (.inr (.inr (some 0))), some (.inl 2)]) (st' := [.inr (.inr (some 0))]) rfl ?_
            refine r_call (m := 57) (args := [.inr (.inr (some 0))]) (n' := 191) (pc' := 43) (lo' := [some (.inr (.inr (some 0))), some (.inl 2)]) (st' := []) (I := .invokevirtual 57) (pc0 := 40) (len := 3) rfl rfl rfl (e_cl_renew hX_9) ?_
            show WV _ _ _ 43 _ [] _ (cl_renew (cl_copy33_174 v)) _
            have hX_10 : XI (cl_renew (cl_copy33_174 v)) := i_cl_renew (v := (cl_copy33_174 v)) hX_9
            refine r_ex 1 (pc' := 44) (lo' := [some (.inr (.inr (some 0))), some (.inl 2)]) (st' := [.inl 0]) rfl ?_
            refine r_ret (rr := some (.inl 0)) (I := .ireturn) (pc0 := 44) (len := 1) rfl rfl ?_
            exact hQ hX_10 
      · show WV _ _ _ 23 _ _ _ _ _
        rw [if_pos h_20] at hQ
        refine r_ex 1 (pc' := 25) (lo' := [some (.inr (.inr (some 0))), some (.inl k)]) (st' := [.inl (-6)]) rfl ?_
        refine r_ret (rr := some (.inl (-6))) (I := .ireturn) (pc0 := 25) (len := 1) rfl rfl ?_
        exact hQ hX 
    · show WV _ _ _ 9 _ _ _ _ _
      rw [if_neg h_6] at hQ
      refine r_ex 1 (pc' := 11) (lo' := [some (.inr (.inr (some 0))), some (.inl k)]) (st' := [.inl (-2)]) rfl ?_
      refine r_ret (rr := some (.inl (-2))) (I := .ireturn) (pc0 := 11) (len := 1) rfl rfl ?_
      exact hQ hX 

theorem e_cl_back {X : PX} {d b : Nat} {v : VS} {k : Int} (hX : XI v) (hp_a : R32 k) : EvV X (d + 1 + 1 + 1 + 1) 191 [.inr (.inr (some 0)), .inl k] b v (some (.inl (cl_back v k).1)) b ((cl_back v k).2) := EvV.of (w_cl_back hX hp_a (fun _ => ⟨rfl, rfl, rfl⟩))

theorem i_cl_back {v : VS} {k : Int} (hX : XI v) (hp_a : R32 k) : XI ((cl_back v k).2) := by
  have q : WV (0, fun _ => 0, none) (0 + 1 + 1 + 1 + 1) 191 0 [some (.inr (.inr (some 0))), some (.inl k)] [] 1 v (fun _ _ _ => XI ((cl_back v k).2)) := w_cl_back (X := (0, fun _ => 0, none)) (d := 0) (b := 1) hX hp_a (fun q => q)
  obtain ⟨_, _, _, _, _, _, _, q⟩ := q
  exact q

theorem o_cl_back {rk : Nat} {v : VS} {k : Int} (hk : (rk < 0 ∨ 0 < rk) ∧ (rk < 33 ∨ 61 < rk) ∧ (rk < 63 ∨ 66 < rk)) : (cl_back v k).2 rk = v rk := by
  unfold cl_back
  by_cases hc_ : k < 0
  · rw [if_pos hc_]
    all_goals (show v rk = _)
    all_goals rfl
  · rw [if_neg hc_]
    by_cases hc_ : k < 3
    · rw [if_pos hc_]
      by_cases hc_ : (cl_bit v (v 0 13) k) = 0
      · rw [if_pos hc_]
        all_goals (show v rk = _)
        all_goals rfl
      · rw [if_neg hc_]
        by_cases hc_ : k = 0
        · rw [if_pos hc_]
          all_goals (show (cl_renew (cl_copy33_116 v)) rk = _)
          all_goals (rw [o_cl_renew (by omega), o_cl_copy33_116 (by omega)])
        · rw [if_neg hc_]
          by_cases hc_ : k = 1
          · rw [if_pos hc_]
            all_goals (show (cl_renew (cl_copy33_145 v)) rk = _)
            all_goals (rw [o_cl_renew (by omega), o_cl_copy33_145 (by omega)])
          · rw [if_neg hc_]
            all_goals (show (cl_renew (cl_copy33_174 v)) rk = _)
            all_goals (rw [o_cl_renew (by omega), o_cl_copy33_174 (by omega)])
    · rw [if_neg hc_]
      all_goals (show v rk = _)
      all_goals rfl
