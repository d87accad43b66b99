/-! the reference: bay -/
theorem z210 {k : Int} (hk : 0 ≤ k ∧ k < 11) : inn (bd 210 (44 + k).toNat) 0 := by
  rcases (show k = 0 ∨ k = 1 ∨ k = 2 ∨ k = 3 ∨ k = 4 ∨ k = 5 ∨ k = 6 ∨ k = 7 ∨ k = 8 ∨ k = 9 ∨ k = 10 by omega) with rfl | rfl | rfl | rfl | rfl | rfl | rfl | rfl | rfl | rfl | rfl
  · exact (show (0 : Int) ≤ 0 ∧ (0 : Int) ≤ 9 by omega)
  · exact (show (0 : Int) ≤ 0 ∧ (0 : Int) ≤ 300 by omega)
  · exact (show (0 : Int) ≤ 0 ∧ (0 : Int) ≤ 9 by omega)
  · exact (show (0 : Int) ≤ 0 ∧ (0 : Int) ≤ 12 by omega)
  · exact (show (0 : Int) ≤ 0 ∧ (0 : Int) ≤ 4 by omega)
  · exact (show (0 : Int) ≤ 0 ∧ (0 : Int) ≤ 6 by omega)
  · exact (show (0 : Int) ≤ 0 ∧ (0 : Int) ≤ 6 by omega)
  · exact (show (0 : Int) ≤ 0 ∧ (0 : Int) ≤ 6 by omega)
  · exact (show (0 : Int) ≤ 0 ∧ (0 : Int) ≤ 6 by omega)
  · exact (show (0 : Int) ≤ 0 ∧ (0 : Int) ≤ 511 by omega)
  · exact (show (0 : Int) ≤ 0 ∧ (0 : Int) ≤ 4095 by omega)

def mo_clears_9 : Nat → VS → Int → VS
  | 0, v, k => v
  | f + 1, v, k => (if k < 11 then (mo_clears_9 f (v2 v 210 (((44 + k)).toNat) 0) (k + 1)) else v)
def mo_clears_33 : Nat → VS → Int → VS
  | 0, v, k => v
  | f + 1, v, k => (if k < 27 then (mo_clears_33 f (v2 v 211 (((108 + k)).toNat) 0) (k + 1)) else v)
def mo_clears (v : VS)  : VS :=
  (mo_clears_33 28 (mo_clears_9 12 (v2 v 209 4 0) 0) 0)
theorem l_mo_clears_9 {X : PX} {d b : Nat} {Q : Option PV → Nat → VS → Prop}  : ∀ (f : Nat) (v : VS) (k : Int), XI v → (0 ≤ k ∧ k ≤ 11) → (CF v) → (11 < k + f) → (∀ qx1 : Option PV, XI (mo_clears_9 f v k) → (CF (mo_clears_9 f v k)) → WV X d 211 31 [some (.inr (.inr (some 203))), qx1] [] b (mo_clears_9 f v k) Q) → WV X d 211 9 [some (.inr (.inr (some 203))), some (.inl k)] [] b v Q := by
  intro f
  induction f with
  | zero =>
    intro v k hX hi_0 hi_1 hf hK
    exfalso
    omega
  | succ f ih =>
    intro v k hX hi_0 hi_1 hf hK
    rw [mo_clears_9] at hK
    refine r_ex 2 (pc' := 12) (lo' := [some (.inr (.inr (some 203))), some (.inl k)]) (st' := [.inl 11, .inl k]) rfl ?_
    refine n_ic_ge (pc0 := 12) (len := 3) (t := 31) rfl (by first | assumption | omega | (unfold R32 at *; omega) | (unfold R64 at *; omega) | (simp only [R32, R64] at *; omega)) (by first | assumption | omega | (unfold R32 at *; omega) | (unfold R64 at *; omega) | (simp only [R32, R64] at *; omega)) (fun h_12 => ?_) (fun h_12 => ?_)
    · show WV _ _ _ 31 _ _ _ _ _
      rw [if_neg h_12] at hK
      exact hK _ hX (hi_1)
    · show WV _ _ _ 15 _ _ _ _ _
      rw [if_pos h_12] at hK
      refine r_ex 6 (pc' := 24) (lo' := [some (.inr (.inr (some 203))), some (.inl k)]) (st' := [.inl 0, .inl (44 + k), .inr (.inr (some 210))]) rfl ?_
      refine r_iast2 (pc' := 25) (pc0 := 24) (len := 1) rfl (s_210 _) (by first | assumption | omega | (unfold R32 at *; omega) | (unfold R64 at *; omega) | (simp only [R32, R64] at *; omega)) (by decide) rfl ?_
      have hX_2 : XI (v2 v 210 (((44 + k)).toNat) 0) := XI.put hX (z210 (by omega))
      refine r_ex 2 (pc' := 9) (lo' := [some (.inr (.inr (some 203))), some (.inl (k + 1))]) (st' := []) rfl ?_
      refine ih (v2 v 210 (((44 + k)).toNat) 0) (k + 1)  hX_2 (by first | assumption | omega | (unfold R32 at *; omega) | (unfold R64 at *; omega) | (simp only [R32, R64] at *; omega)) (show CF (v2 v 210 (((44 + k)).toNat) 0) from (show CF (v2 v 210 (((44 + k)).toNat) 0) from CF.of hi_1 (fun k h1 h2 => by rw [v2_row (by omega)]))) (by first | assumption | omega | (unfold R32 at *; omega) | (unfold R64 at *; omega) | (simp only [R32, R64] at *; omega)) hK

theorem of_mo_clears_9 {rk : Nat} (hk : (rk < 210 ∨ 210 < rk)) : ∀ (f : Nat) {v : VS} {k : Int}, (mo_clears_9 f v k) rk = v rk := by
  intro f
  induction f with
  | zero => intro v k; rfl
  | succ f ih =>
    intro v k
    rw [mo_clears_9]
    by_cases hc_ : k < 11
    · rw [if_pos hc_] <;> clear hc_
      all_goals (rw [ih, v2_row (by omega)])
    · rw [if_neg hc_] <;> clear hc_
      all_goals (show v rk = _)
      all_goals rfl
theorem o_mo_clears_9 {rk : Nat} {f : Nat} {v : VS} {k : Int} (hk : (rk < 210 ∨ 210 < rk)) : (mo_clears_9 f v k) rk = v rk := of_mo_clears_9 hk f

theorem l_mo_clears_33 {X : PX} {d b : Nat} {Q : Option PV → Nat → VS → Prop}  : ∀ (f : Nat) (v : VS) (k : Int), XI v → (0 ≤ k ∧ k ≤ 27) → (CF v) → (27 < k + f) → (XI (mo_clears_33 f v k) → (CF (mo_clears_33 f v k)) → Q none b (mo_clears_33 f v k)) → WV X d 211 33 [some (.inr (.inr (some 203))), some (.inl k)] [] b v Q := by
  intro f
  induction f with
  | zero =>
    intro v k hX hi_0 hi_1 hf hQ
    exfalso
    omega
  | succ f ih =>
    intro v k hX hi_0 hi_1 hf hQ
    rw [mo_clears_33] at hQ
    refine r_ex 2 (pc' := 36) (lo' := [some (.inr (.inr (some 203))), some (.inl k)]) (st' := [.inl 27, .inl k]) rfl ?_
    refine n_ic_ge (pc0 := 36) (len := 3) (t := 55) rfl (by first | assumption | omega | (unfold R32 at *; omega) | (unfold R64 at *; omega) | (simp only [R32, R64] at *; omega)) (by first | assumption | omega | (unfold R32 at *; omega) | (unfold R64 at *; omega) | (simp only [R32, R64] at *; omega)) (fun h_36 => ?_) (fun h_36 => ?_)
    · show WV _ _ _ 55 _ _ _ _ _
      rw [if_neg h_36] at hQ
      refine r_ret (rr := none) (I := .return_) (pc0 := 55) (len := 1) rfl rfl ?_
      exact hQ hX (hi_1)
    · show WV _ _ _ 39 _ _ _ _ _
      rw [if_pos h_36] at hQ
      refine r_ex 6 (pc' := 48) (lo' := [some (.inr (.inr (some 203))), some (.inl k)]) (st' := [.inl 0, .inl (108 + k), .inr (.inr (some 211))]) rfl ?_
      refine r_iast2 (pc' := 49) (pc0 := 48) (len := 1) rfl (s_211 _) (by first | assumption | omega | (unfold R32 at *; omega) | (unfold R64 at *; omega) | (simp only [R32, R64] at *; omega)) (by decide) rfl ?_
      have hX_4 : XI (v2 v 211 (((108 + k)).toNat) 0) := XI.put hX (show 0 ≤ 0 ∧ 0 ≤ 99 from (by first | assumption | omega | (unfold R32 at *; omega) | (unfold R64 at *; omega) | (simp only [R32, R64] at *; omega)))
      refine r_ex 2 (pc' := 33) (lo' := [some (.inr (.inr (some 203))), some (.inl (k + 1))]) (st' := []) rfl ?_
      refine ih (v2 v 211 (((108 + k)).toNat) 0) (k + 1)  hX_4 (by first | assumption | omega | (unfold R32 at *; omega) | (unfold R64 at *; omega) | (simp only [R32, R64] at *; omega)) (show CF (v2 v 211 (((108 + k)).toNat) 0) from (show CF (v2 v 211 (((108 + k)).toNat) 0) from CF.p211 hi_1 (by omega))) (by first | assumption | omega | (unfold R32 at *; omega) | (unfold R64 at *; omega) | (simp only [R32, R64] at *; omega)) hQ

theorem of_mo_clears_33 {rk : Nat} (hk : (rk < 211 ∨ 211 < rk)) : ∀ (f : Nat) {v : VS} {k : Int}, (mo_clears_33 f v k) rk = v rk := by
  intro f
  induction f with
  | zero => intro v k; rfl
  | succ f ih =>
    intro v k
    rw [mo_clears_33]
    by_cases hc_ : k < 27
    · rw [if_pos hc_] <;> clear hc_
      all_goals (rw [ih, v2_row (by omega)])
    · rw [if_neg hc_] <;> clear hc_
      all_goals (show v rk = _)
      all_goals rfl
theorem o_mo_clears_33 {rk : Nat} {f : Nat} {v : VS} {k : Int} (hk : (rk < 211 ∨ 211 < rk)) : (mo_clears_33 f v k) rk = v rk := of_mo_clears_33 hk f

theorem w_mo_clears {X : PX} {d b : Nat} {v : VS}  (hX : XI v) (hp_a : CF v) {Q : Option PV → Nat → VS → Prop} (hQ : XI (mo_clears v) → (CF (mo_clears v)) → Q none b (mo_clears v)) : WV X d 211 0 [some (.inr (.inr (some 203))), none] [] b v Q := by
  rw [mo_clears] at hQ
  refine r_ex 4 (pc' := 6) (lo' := [some (.inr (.inr (some 203))), none]) (st' := [.inl 0, .inl 4, .inr (.inr (some 209))]) rfl ?_
  refine r_iast2 (pc' := 7) (pc0 := 6) (len := 1) rfl (s_209 _) (by first | assumption | omega | (unfold R32 at *; omega) | (unfold R64 at *; omega) | (simp only [R32, R64] at *; omega)) (by decide) rfl ?_
  have hX_1 : XI (v2 v 209 4 0) := XI.put hX (show 0 ≤ 0 ∧ 0 ≤ 2001 from (by first | assumption | omega | (unfold R32 at *; omega) | (unfold R64 at *; omega) | (simp only [R32, R64] at *; omega)))
  show WV _ _ _ 7 _ _ _ (v2 v 209 4 0) _
  refine r_ex 2 (pc' := 9) (lo' := [some (.inr (.inr (some 203))), some (.inl 0)]) (st' := []) rfl ?_
  refine l_mo_clears_9 12 (v2 v 209 4 0) 0  hX_1 (by first | assumption | omega | (unfold R32 at *; omega) | (unfold R64 at *; omega) | (simp only [R32, R64] at *; omega)) (show CF (v2 v 209 4 0) from (show CF (v2 v 209 4 0) from CF.of hp_a (fun k h1 h2 => by rw [v2_row (by omega)]))) (by first | assumption | omega | (unfold R32 at *; omega) | (unfold R64 at *; omega) | (simp only [R32, R64] at *; omega)) (fun o1_3 hX_3 hv_3_0 => ?_)
  show WV _ _ _ 31 _ _ _ _ _
  refine r_ex 2 (pc' := 33) (lo' := [some (.inr (.inr (some 203))), some (.inl 0)]) (st' := []) rfl ?_
  exact l_mo_clears_33 28 (mo_clears_9 12 (v2 v 209 4 0) 0) 0  hX_3 (by first | assumption | omega | (unfold R32 at *; omega) | (unfold R64 at *; omega) | (simp only [R32, R64] at *; omega)) (hv_3_0) (by first | assumption | omega | (unfold R32 at *; omega) | (unfold R64 at *; omega) | (simp only [R32, R64] at *; omega)) hQ

theorem e_mo_clears {X : PX} {d b : Nat} {v : VS}  (hX : XI v) (hp_a : CF v) : EvV X d 211 [.inr (.inr (some 203))] b v none b (mo_clears v) := EvV.of (w_mo_clears hX hp_a (fun _ _ => ⟨rfl, rfl, rfl⟩))

theorem i_mo_clears {v : VS}  (hX : XI v) (hp_a : CF v) : XI (mo_clears v) := by
  have q : WV (0, fun _ => 0, none) 0 211 0 [some (.inr (.inr (some 203))), none] [] 1 v (fun _ _ _ => XI (mo_clears v)) := w_mo_clears (X := (0, fun _ => 0, none)) (d := 0) (b := 1) hX hp_a (fun q _ => q)
  obtain ⟨_, _, _, _, _, _, _, q⟩ := q
  exact q

theorem n_mo_clears {v : VS}  (hX : XI v) (hp_a : CF v) : CF (mo_clears v) := by
  have q : WV (0, fun _ => 0, none) 0 211 0 [some (.inr (.inr (some 203))), none] [] 1 v (fun _ _ _ => CF (mo_clears v)) := w_mo_clears (X := (0, fun _ => 0, none)) (d := 0) (b := 1) hX hp_a (fun _ q => q)
  obtain ⟨_, _, _, _, _, _, _, q⟩ := q
  exact q

theorem o_mo_clears {rk : Nat} {v : VS}  (hk : (rk < 209 ∨ 211 < rk)) : (mo_clears v ) rk = v rk := by
  unfold mo_clears
  all_goals (rw [o_mo_clears_33 (by omega), o_mo_clears_9 (by omega), v2_row (by omega)])

theorem clr9 {j : Nat} (hj : j < 11) : ∀ (f : Nat) (v : VS) (k : Int), 0 ≤ k → 11 < k + f → (k ≤ j ∨ v 210 (44 + j) = 0) → (mo_clears_9 f v k) 210 (44 + j) = 0 := by
  intro f
  induction f with
  | zero =>
    intro v k h0 h1 h2
    rcases h2 with h2 | h2
    · omega
    · exact h2
  | succ f ih =>
    intro v k h0 h1 h2
    rw [mo_clears_9]
    by_cases hk : k < 11
    · rw [if_pos hk]
      refine ih _ _ (by omega) (by omega) ?_
      rw [v2_eq]
      by_cases e : 44 + j = (44 + k).toNat
      · rw [if_pos ⟨rfl, e⟩]; exact Or.inr rfl
      · rw [if_neg (by omega)]
        rcases h2 with h2 | h2
        · exact Or.inl (by omega)
        · exact Or.inr h2
    · rw [if_neg hk]
      rcases h2 with h2 | h2
      · omega
      · exact h2
theorem clr_has {v : VS} {j : Nat} (hj : j < 11) : (mo_clears v) 210 (44 + j) = 0 := by
  unfold mo_clears
  rw [o_mo_clears_33 (by omega)]
  exact clr9 hj _ _ _ (by omega) (by omega) (Or.inl (by omega))
theorem n0_mo_clears {v : VS} (hX : XI v) (hp_a : CF v) : CF (mo_clears v) := n_mo_clears hX hp_a
theorem n1_mo_clears {v : VS} (hX : XI v) (hp_a : CF v) : ((mo_clears v) 209 4) = 0 := by
  unfold mo_clears
  rw [o_mo_clears_33 (by omega), o_mo_clears_9 (by omega)]
  rfl
theorem n2_mo_clears {v : VS} (hX : XI v) (hp_a : CF v) : ((mo_clears v) 210 46) = 0 := clr_has (j := 2) (by omega)
theorem n3_mo_clears {v : VS} (hX : XI v) (hp_a : CF v) : ((mo_clears v) 210 44) = 0 := clr_has (j := 0) (by omega)

def mo_bay_13 : Nat → VS → Int × VS
  | 0, v => (0, v)
  | f + 1, v => (if (v 203 12) = 0 then (if (v 203 8) = 0 then (if ((mo_isOver v) 203 12) = 0 then (((mo_copyBay (mo_isOver v) 4 0) 209 0), (mo_copyBay (mo_isOver v) 4 0)) else ((-4), (mo_isOver v))) else (if (v 209 4) = 0 then (if ((mo_numberW (v2 ((mo_numberW (mo_asks v 1510) 34791381541 1 9).2) 210 44 ((mo_numberW (mo_asks v 1510) 34791381541 1 9).1)) 7434633727 1 300).2 203 12) = 0 then (mo_bay_13 f (v2 (mo_ends (v2 ((mo_numberW (v2 ((mo_numberW (mo_asks v 1510) 34791381541 1 9).2) 210 44 ((mo_numberW (mo_asks v 1510) 34791381541 1 9).1)) 7434633727 1 300).2) 210 45 ((mo_numberW (v2 ((mo_numberW (mo_asks v 1510) 34791381541 1 9).2) 210 44 ((mo_numberW (mo_asks v 1510) 34791381541 1 9).1)) 7434633727 1 300).1))) 209 4 (((mo_ends (v2 ((mo_numberW (v2 ((mo_numberW (mo_asks v 1510) 34791381541 1 9).2) 210 44 ((mo_numberW (mo_asks v 1510) 34791381541 1 9).1)) 7434633727 1 300).2) 210 45 ((mo_numberW (v2 ((mo_numberW (mo_asks v 1510) 34791381541 1 9).2) 210 44 ((mo_numberW (mo_asks v 1510) 34791381541 1 9).1)) 7434633727 1 300).1))) 209 4) + 1))) else (mo_bay_13 f (v2 (v2 ((mo_numberW (v2 ((mo_numberW (mo_asks v 1510) 34791381541 1 9).2) 210 44 ((mo_numberW (mo_asks v 1510) 34791381541 1 9).1)) 7434633727 1 300).2) 210 45 ((mo_numberW (v2 ((mo_numberW (mo_asks v 1510) 34791381541 1 9).2) 210 44 ((mo_numberW (mo_asks v 1510) 34791381541 1 9).1)) 7434633727 1 300).1)) 209 4 (((mo_numberW (v2 ((mo_numberW (mo_asks v 1510) 34791381541 1 9).2) 210 44 ((mo_numberW (mo_asks v 1510) 34791381541 1 9).1)) 7434633727 1 300).2 209 4) + 1)))) else (if ((mo_line v) 203 12) = 0 then (mo_bay_13 f (v2 (mo_ends (mo_line v)) 209 4 (((mo_ends (mo_line v)) 209 4) + 1))) else (mo_bay_13 f (v2 (mo_line v) 209 4 (((mo_line v) 209 4) + 1)))))) else (if ((mo_isOver v) 203 12) = 0 then (((mo_copyBay (mo_isOver v) 4 0) 209 0), (mo_copyBay (mo_isOver v) 4 0)) else ((-4), (mo_isOver v))))
def mo_bay (v : VS)  : Int × VS :=
  (mo_bay_13 2002 (mo_begins (mo_clears (v2 v 203 0 0))))
set_option maxRecDepth 100000 in
theorem l_mo_bay_13 {X : PX} {d b : Nat} {Q : Option PV → Nat → VS → Prop}  : ∀ (f : Nat) (v : VS) , XI v → ((v 203 7) ≤ (v 203 6) ∧ ((v 203 8) = 0 ∨ (v 203 9) < (v 203 7)) ∧ (v 203 9) ≤ (v 203 7)) → ((v 203 12) ≠ 0 ∨ (v 209 4) ≤ (v 203 9)) → ((v 210 46) ≤ (v 210 44)) → ((v 209 4) ≠ 0 ∨ (v 210 46) = 0) → (CF v) → (2001 < (v 209 4) + f) → (XI (mo_bay_13 f v).2 → (CF ((mo_bay_13 f v).2)) → Q (some (.inl (mo_bay_13 f v).1)) b (mo_bay_13 f v).2) → WV X (d + 1 + 1 + 1 + 1 + 1 + 1 + 1) 210 13 [some (.inr (.inr (some 203)))] [] b v Q := by
  intro f
  induction f with
  | zero =>
    intro v hX hi_0 hi_1 hi_2 hi_3 hi_4 hf hQ
    have hz6 : 0 ≤ v 203 6 ∧ v 203 6 ≤ 2000 := hX 203 6
    have hz9 : 0 ≤ v 209 4 ∧ v 209 4 ≤ 2001 := hX 209 4
    have hz : 0 ≤ v 209 4 ∧ v 209 4 ≤ 2001 := hX 209 4
    exfalso
    omega
  | succ f ih =>
    intro v hX hi_0 hi_1 hi_2 hi_3 hi_4 hf hQ
    rw [mo_bay_13] at hQ
    have hz6 : 0 ≤ v 203 6 ∧ v 203 6 ≤ 2000 := hX 203 6
    have hz9 : 0 ≤ v 209 4 ∧ v 209 4 ≤ 2001 := hX 209 4
    refine r_ex 1 (pc' := 14) (lo' := [some (.inr (.inr (some 203)))]) (st' := [.inr (.inr (some 203))]) rfl ?_
    have hb_19 : 0 ≤ v 203 12 ∧ v 203 12 ≤ 3 := hX 203 12
    refine r_callb (P := (v 203 12) = 0) (m := 215) (args := [.inr (.inr (some 203))]) (n' := 210) (pc' := 17) (lo' := [some (.inr (.inr (some 203)))]) (st' := []) (I := .invokevirtual 215) (pc0 := 14) (len := 3) rfl rfl rfl (e_mo_isGood hX) (fun h_14 => ?_) (fun h_14 => ?_)
    · show WV _ _ _ 17 _ _ _ _ _
      rw [if_pos h_14] at hQ
      refine r_ex 3 (pc' := 24) (lo' := [some (.inr (.inr (some 203)))]) (st' := [.inl (v 203 8)]) rfl ?_
      have hb_20 : 0 ≤ (v 203 8) ∧ (v 203 8) ≤ 4 := hX 203 8
      refine n_if_eq (pc0 := 24) (len := 3) (t := 109) rfl (by first | assumption | omega | (unfold R32 at *; omega) | (unfold R64 at *; omega) | (simp only [R32, R64] at *; omega)) (fun h_24 => ?_) (fun h_24 => ?_)
      · show WV _ _ _ 109 _ _ _ _ _
        rw [if_pos h_24] at hQ
        refine r_ex 1 (pc' := 110) (lo' := [some (.inr (.inr (some 203)))]) (st' := [.inr (.inr (some 203))]) rfl ?_
        refine r_call (m := 232) (args := [.inr (.inr (some 203))]) (n' := 210) (pc' := 113) (lo' := [some (.inr (.inr (some 203)))]) (st' := []) (I := .invokevirtual 232) (pc0 := 110) (len := 3) rfl rfl rfl (e_mo_isOver hX) ?_
        show WV _ _ _ 113 _ [] _ (mo_isOver v) _
        have hX_21 : XI (mo_isOver v) := i_mo_isOver (v := v) hX
        have hb_22 : (mo_isOver v) 209 4 = (v 209 4) := by rw [o_mo_isOver (by omega)] <;> rfl
        have hb_23 : (mo_isOver v) 210 44 = (v 210 44) := by rw [o_mo_isOver (by omega)] <;> rfl
        have hb_24 : (mo_isOver v) 210 46 = (v 210 46) := by rw [o_mo_isOver (by omega)] <;> rfl
        refine r_ex 2 (pc' := 117) (lo' := [some (.inr (.inr (some 203)))]) (st' := [.inl ((mo_isOver v) 203 12)]) rfl ?_
        have hb_25 : 0 ≤ ((mo_isOver v) 203 12) ∧ ((mo_isOver v) 203 12) ≤ 3 := hX_21 203 12
        refine n_if_eq (pc0 := 117) (len := 3) (t := 123) rfl (by first | assumption | omega | (unfold R32 at *; omega) | (unfold R64 at *; omega) | (simp only [R32, R64] at *; omega)) (fun h_117 => ?_) (fun h_117 => ?_)
        · show WV _ _ _ 123 _ _ _ _ _
          rw [if_pos h_117] at hQ
          refine r_ex 3 (pc' := 126) (lo' := [some (.inr (.inr (some 203)))]) (st' := [.inl 0, .inl 4, .inr (.inr (some 203))]) rfl ?_
          have hp_26 : 0 ≤ (4 : Int) ∧ (4 : Int) ≤ 4 := (by first | assumption | omega | (unfold R32 at *; omega) | (unfold R64 at *; omega) | (simp only [R32, R64] at *; omega))
          have hp_27 : 0 ≤ (0 : Int) ∧ (0 : Int) ≤ 4 := (by first | assumption | omega | (unfold R32 at *; omega) | (unfold R64 at *; omega) | (simp only [R32, R64] at *; omega))
          have hp_28 : CF (mo_isOver v) := show CF (mo_isOver v) from (show CF (mo_isOver v) from CF.of hi_4 (fun k h1 h2 => by rw [o_mo_isOver (by omega)]))
          refine r_call (m := 233) (args := [.inr (.inr (some 203)), .inl 4, .inl 0]) (n' := 210) (pc' := 129) (lo' := [some (.inr (.inr (some 203)))]) (st' := []) (I := .invokevirtual 233) (pc0 := 126) (len := 3) rfl rfl rfl (e_mo_copyBay hX_21 hp_26 hp_27 hp_28) ?_
          show WV _ _ _ 129 _ [] _ (mo_copyBay (mo_isOver v) 4 0) _
          have hX_29 : XI (mo_copyBay (mo_isOver v) 4 0) := i_mo_copyBay (v := (mo_isOver v)) (i := 4) (o := 0) hX_21 hp_26 hp_27 hp_28
          have hb_30 : (mo_copyBay (mo_isOver v) 4 0) 203 12 = ((mo_isOver v) 203 12) := by rw [o_mo_copyBay (by omega)] <;> rfl
          have hb_31 : (mo_copyBay (mo_isOver v) 4 0) 203 7 = ((mo_isOver v) 203 7) := by rw [o_mo_copyBay (by omega)] <;> rfl
          have hb_32 : (mo_copyBay (mo_isOver v) 4 0) 203 6 = ((mo_isOver v) 203 6) := by rw [o_mo_copyBay (by omega)] <;> rfl
          have hb_33 : (mo_copyBay (mo_isOver v) 4 0) 203 8 = ((mo_isOver v) 203 8) := by rw [o_mo_copyBay (by omega)] <;> rfl
          have hb_34 : (mo_copyBay (mo_isOver v) 4 0) 203 9 = ((mo_isOver v) 203 9) := by rw [o_mo_copyBay (by omega)] <;> rfl
          have hl_35 := n_mo_copyBay (v := (mo_isOver v)) (i := 4) (o := 0) hX_21 hp_26 hp_27 hp_28
          refine r_ex 3 (pc' := 134) (lo' := [some (.inr (.inr (some 203)))]) (st' := [.inl 0, .inr (.inr (some 209))]) rfl ?_
          refine r_iald2 (j := 0) (x := ((mo_copyBay (mo_isOver v) 4 0) 209 0)) (pc' := 135) (pc0 := 134) (len := 1) rfl (s_209 _) (by first | assumption | omega | (unfold R32 at *; omega) | (unfold R64 at *; omega) | (simp only [R32, R64] at *; omega)) (by decide) rfl rfl ?_
          have hb_36 : 0 ≤ ((mo_copyBay (mo_isOver v) 4 0) 209 0) ∧ ((mo_copyBay (mo_isOver v) 4 0) 209 0) ≤ 2001 := hX_29 209 0
          refine r_ret (rr := some (.inl ((mo_copyBay (mo_isOver v) 4 0) 209 0))) (I := .ireturn) (pc0 := 135) (len := 1) rfl rfl ?_
          exact hQ hX_29 (hl_35)
        · show WV _ _ _ 120 _ _ _ _ _
          rw [if_neg h_117] at hQ
          refine r_ex 1 (pc' := 122) (lo' := [some (.inr (.inr (some 203)))]) (st' := [.inl (-4)]) rfl ?_
          refine r_ret (rr := some (.inl (-4))) (I := .ireturn) (pc0 := 122) (len := 1) rfl rfl ?_
          exact hQ hX_21 (show CF (mo_isOver v) from (show CF (mo_isOver v) from CF.of hi_4 (fun k h1 h2 => by rw [o_mo_isOver (by omega)])))
      · show WV _ _ _ 27 _ _ _ _ _
        rw [if_neg h_24] at hQ
        refine r_ex 3 (pc' := 32) (lo' := [some (.inr (.inr (some 203)))]) (st' := [.inl 4, .inr (.inr (some 209))]) rfl ?_
        refine r_iald2 (j := 0) (x := (v 209 4)) (pc' := 33) (pc0 := 32) (len := 1) rfl (s_209 _) (by first | assumption | omega | (unfold R32 at *; omega) | (unfold R64 at *; omega) | (simp only [R32, R64] at *; omega)) (by decide) rfl rfl ?_
        have hb_37 : 0 ≤ (v 209 4) ∧ (v 209 4) ≤ 2001 := hX 209 4
        refine n_if_ne (pc0 := 33) (len := 3) (t := 81) rfl (by first | assumption | omega | (unfold R32 at *; omega) | (unfold R64 at *; omega) | (simp only [R32, R64] at *; omega)) (fun h_33 => ?_) (fun h_33 => ?_)
        · show WV _ _ _ 81 _ _ _ _ _
          rw [if_neg h_33] at hQ
          refine r_ex 1 (pc' := 82) (lo' := [some (.inr (.inr (some 203)))]) (st' := [.inr (.inr (some 203))]) rfl ?_
          have hp_38 : (v 203 7) ≤ (v 203 6) ∧ ((v 203 8) = 0 ∨ (v 203 9) < (v 203 7)) ∧ (v 203 9) ≤ (v 203 7) := (show (v 203 7) ≤ (v 203 6) ∧ ((v 203 8) = 0 ∨ (v 203 9) < (v 203 7)) ∧ (v 203 9) ≤ (v 203 7) from (by first | assumption | omega | (unfold R32 at *; omega) | (unfold R64 at *; omega) | (simp only [R32, R64] at *; omega)))
          have hp_39 : (v 210 46) ≤ (v 210 44) := (show (v 210 46) ≤ (v 210 44) from (by first | assumption | omega | (unfold R32 at *; omega) | (unfold R64 at *; omega) | (simp only [R32, R64] at *; omega)))
          have hp_40 : CF v := hi_4
          refine r_call (m := 222) (args := [.inr (.inr (some 203))]) (n' := 210) (pc' := 85) (lo' := [some (.inr (.inr (some 203)))]) (st' := []) (I := .invokevirtual 222) (pc0 := 82) (len := 3) rfl rfl rfl (e_mo_line hX hp_38 hp_39 hp_40) ?_
          show WV _ _ _ 85 _ [] _ (mo_line v) _
          have hX_41 : XI (mo_line v) := i_mo_line (v := v) hX hp_38 hp_39 hp_40
          have hb_42 : (mo_line v) 209 4 = (v 209 4) := by rw [o_mo_line (by omega)] <;> rfl
          have hb_43 : ((mo_line v) 203 7) ≤ ((mo_line v) 203 6) ∧ (((mo_line v) 203 8) = 0 ∨ ((mo_line v) 203 9) < ((mo_line v) 203 7)) ∧ ((mo_line v) 203 9) ≤ ((mo_line v) 203 7) := n0_mo_line (v := v) hX hp_38 hp_39 hp_40
          have hb_44 : (v 203 9) ≤ ((mo_line v) 203 9) := n1_mo_line (v := v) hX hp_38 hp_39 hp_40
          have hb_45 : ((mo_line v) 210 46) ≤ ((mo_line v) 210 44) := n2_mo_line (v := v) hX hp_38 hp_39 hp_40
          have hl_46 := n3_mo_line (v := v) hX hp_38 hp_39 hp_40
          refine r_ex 1 (pc' := 86) (lo' := [some (.inr (.inr (some 203)))]) (st' := [.inr (.inr (some 203))]) rfl ?_
          have hb_47 : 0 ≤ (mo_line v) 203 12 ∧ (mo_line v) 203 12 ≤ 3 := hX_41 203 12
          refine r_callb (P := ((mo_line v) 203 12) = 0) (m := 215) (args := [.inr (.inr (some 203))]) (n' := 210) (pc' := 89) (lo' := [some (.inr (.inr (some 203)))]) (st' := []) (I := .invokevirtual 215) (pc0 := 86) (len := 3) rfl rfl rfl (e_mo_isGood hX_41) (fun h_86 => ?_) (fun h_86 => ?_)
          · show WV _ _ _ 89 _ _ _ _ _
            rw [if_pos h_86] at hQ
            refine r_ex 2 (pc' := 93) (lo' := [some (.inr (.inr (some 203)))]) (st' := [.inr (.inr (some 203))]) rfl ?_
            have hp_48 : ((mo_line v) 203 7) ≤ ((mo_line v) 203 6) ∧ (((mo_line v) 203 8) = 0 ∨ ((mo_line v) 203 9) < ((mo_line v) 203 7)) ∧ ((mo_line v) 203 9) ≤ ((mo_line v) 203 7) := (show ((mo_line v) 203 7) ≤ ((mo_line v) 203 6) ∧ (((mo_line v) 203 8) = 0 ∨ ((mo_line v) 203 9) < ((mo_line v) 203 7)) ∧ ((mo_line v) 203 9) ≤ ((mo_line v) 203 7) from (by first | assumption | omega | (unfold R32 at *; omega) | (unfold R64 at *; omega) | (simp only [R32, R64] at *; omega)))
            refine r_call (m := 231) (args := [.inr (.inr (some 203))]) (n' := 210) (pc' := 96) (lo' := [some (.inr (.inr (some 203)))]) (st' := []) (I := .invokevirtual 231) (pc0 := 93) (len := 3) rfl rfl rfl (e_mo_ends hX_41 hp_48) ?_
            show WV _ _ _ 96 _ [] _ (mo_ends (mo_line v)) _
            have hX_49 : XI (mo_ends (mo_line v)) := i_mo_ends (v := (mo_line v)) hX_41 hp_48
            have hb_50 : (mo_ends (mo_line v)) 209 4 = ((mo_line v) 209 4) := by rw [o_mo_ends (by omega)] <;> rfl
            have hb_51 : (mo_ends (mo_line v)) 210 44 = ((mo_line v) 210 44) := by rw [o_mo_ends (by omega)] <;> rfl
            have hb_52 : (mo_ends (mo_line v)) 210 46 = ((mo_line v) 210 46) := by rw [o_mo_ends (by omega)] <;> rfl
            have hb_53 : ((mo_ends (mo_line v)) 203 7) ≤ ((mo_ends (mo_line v)) 203 6) ∧ (((mo_ends (mo_line v)) 203 8) = 0 ∨ ((mo_ends (mo_line v)) 203 9) < ((mo_ends (mo_line v)) 203 7)) ∧ ((mo_ends (mo_line v)) 203 9) ≤ ((mo_ends (mo_line v)) 203 7) := n0_mo_ends (v := (mo_line v)) hX_41 hp_48
            have hb_54 : ((mo_line v) 203 9) ≤ ((mo_ends (mo_line v)) 203 9) := n1_mo_ends (v := (mo_line v)) hX_41 hp_48
            have hb_55 : ((mo_ends (mo_line v)) 203 12) ≠ 0 ∨ ((mo_line v) 203 9) < ((mo_ends (mo_line v)) 203 9) := n2_mo_ends (v := (mo_line v)) hX_41 hp_48
            refine r_ex 4 (pc' := 102) (lo' := [some (.inr (.inr (some 203)))]) (st' := [.inl 4, .inr (.inr (some 209)), .inl 4, .inr (.inr (some 209))]) rfl ?_
            refine r_iald2 (j := 0) (x := ((mo_ends (mo_line v)) 209 4)) (pc' := 103) (pc0 := 102) (len := 1) rfl (s_209 _) (by first | assumption | omega | (unfold R32 at *; omega) | (unfold R64 at *; omega) | (simp only [R32, R64] at *; omega)) (by decide) rfl rfl ?_
            have hb_56 : 0 ≤ ((mo_ends (mo_line v)) 209 4) ∧ ((mo_ends (mo_line v)) 209 4) ≤ 2001 := hX_49 209 4
            refine r_ex 2 (pc' := 105) (lo' := [some (.inr (.inr (some 203)))]) (st' := [.inl (((mo_ends (mo_line v)) 209 4) + 1), .inl 4, .inr (.inr (some 209))]) rfl ?_
            refine r_iast2 (pc' := 106) (pc0 := 105) (len := 1) rfl (s_209 _) (by first | assumption | omega | (unfold R32 at *; omega) | (unfold R64 at *; omega) | (simp only [R32, R64] at *; omega)) (by decide) rfl ?_
            have hX_57 : XI (v2 (mo_ends (mo_line v)) 209 4 (((mo_ends (mo_line v)) 209 4) + 1)) := XI.put hX_49 (show 0 ≤ (((mo_ends (mo_line v)) 209 4) + 1) ∧ (((mo_ends (mo_line v)) 209 4) + 1) ≤ 2001 from (by first | assumption | omega | (unfold R32 at *; omega) | (unfold R64 at *; omega) | (simp only [R32, R64] at *; omega)))
            show WV _ _ _ 106 _ _ _ (v2 (mo_ends (mo_line v)) 209 4 (((mo_ends (mo_line v)) 209 4) + 1)) _
            refine r_ex 1 (pc' := 13) (lo' := [some (.inr (.inr (some 203)))]) (st' := []) rfl ?_
            refine ih (v2 (mo_ends (mo_line v)) 209 4 (((mo_ends (mo_line v)) 209 4) + 1))   hX_57 (show ((mo_ends (mo_line v)) 203 7) ≤ ((mo_ends (mo_line v)) 203 6) ∧ (((mo_ends (mo_line v)) 203 8) = 0 ∨ ((mo_ends (mo_line v)) 203 9) < ((mo_ends (mo_line v)) 203 7)) ∧ ((mo_ends (mo_line v)) 203 9) ≤ ((mo_ends (mo_line v)) 203 7) from (by first | assumption | omega | (unfold R32 at *; omega) | (unfold R64 at *; omega) | (simp only [R32, R64] at *; omega))) (show ((mo_ends (mo_line v)) 203 12) ≠ 0 ∨ (((mo_ends (mo_line v)) 209 4) + 1) ≤ ((mo_ends (mo_line v)) 203 9) from (by first | assumption | omega | (unfold R32 at *; omega) | (unfold R64 at *; omega) | (simp only [R32, R64] at *; omega))) (show ((mo_ends (mo_line v)) 210 46) ≤ ((mo_ends (mo_line v)) 210 44) from (by first | assumption | omega | (unfold R32 at *; omega) | (unfold R64 at *; omega) | (simp only [R32, R64] at *; omega))) (show (((mo_ends (mo_line v)) 209 4) + 1) ≠ 0 ∨ ((mo_ends (mo_line v)) 210 46) = 0 from (by first | assumption | omega | (unfold R32 at *; omega) | (unfold R64 at *; omega) | (simp only [R32, R64] at *; omega))) (show CF (v2 (mo_ends (mo_line v)) 209 4 (((mo_ends (mo_line v)) 209 4) + 1)) from (show CF (v2 (mo_ends (mo_line v)) 209 4 (((mo_ends (mo_line v)) 209 4) + 1)) from CF.of hl_46 (fun k h1 h2 => by rw [v2_row (by omega), o_mo_ends (by omega)]))) (show 2001 < (((mo_ends (mo_line v)) 209 4) + 1) + f from (by first | assumption | omega | (unfold R32 at *; omega) | (unfold R64 at *; omega) | (simp only [R32, R64] at *; omega))) hQ
          · show WV _ _ _ 89 _ _ _ _ _
            rw [if_neg h_86] at hQ
            refine r_ex 5 (pc' := 102) (lo' := [some (.inr (.inr (some 203)))]) (st' := [.inl 4, .inr (.inr (some 209)), .inl 4, .inr (.inr (some 209))]) rfl ?_
            refine r_iald2 (j := 0) (x := ((mo_line v) 209 4)) (pc' := 103) (pc0 := 102) (len := 1) rfl (s_209 _) (by first | assumption | omega | (unfold R32 at *; omega) | (unfold R64 at *; omega) | (simp only [R32, R64] at *; omega)) (by decide) rfl rfl ?_
            have hb_58 : 0 ≤ ((mo_line v) 209 4) ∧ ((mo_line v) 209 4) ≤ 2001 := hX_41 209 4
            refine r_ex 2 (pc' := 105) (lo' := [some (.inr (.inr (some 203)))]) (st' := [.inl (((mo_line v) 209 4) + 1), .inl 4, .inr (.inr (some 209))]) rfl ?_
            refine r_iast2 (pc' := 106) (pc0 := 105) (len := 1) rfl (s_209 _) (by first | assumption | omega | (unfold R32 at *; omega) | (unfold R64 at *; omega) | (simp only [R32, R64] at *; omega)) (by decide) rfl ?_
            have hX_59 : XI (v2 (mo_line v) 209 4 (((mo_line v) 209 4) + 1)) := XI.put hX_41 (show 0 ≤ (((mo_line v) 209 4) + 1) ∧ (((mo_line v) 209 4) + 1) ≤ 2001 from (by first | assumption | omega | (unfold R32 at *; omega) | (unfold R64 at *; omega) | (simp only [R32, R64] at *; omega)))
            show WV _ _ _ 106 _ _ _ (v2 (mo_line v) 209 4 (((mo_line v) 209 4) + 1)) _
            refine r_ex 1 (pc' := 13) (lo' := [some (.inr (.inr (some 203)))]) (st' := []) rfl ?_
            refine ih (v2 (mo_line v) 209 4 (((mo_line v) 209 4) + 1))   hX_59 (show ((mo_line v) 203 7) ≤ ((mo_line v) 203 6) ∧ (((mo_line v) 203 8) = 0 ∨ ((mo_line v) 203 9) < ((mo_line v) 203 7)) ∧ ((mo_line v) 203 9) ≤ ((mo_line v) 203 7) from (by first | assumption | omega | (unfold R32 at *; omega) | (unfold R64 at *; omega) | (simp only [R32, R64] at *; omega))) (show ((mo_line v) 203 12) ≠ 0 ∨ (((mo_line v) 209 4) + 1) ≤ ((mo_line v) 203 9) from (by first | assumption | omega | (unfold R32 at *; omega) | (unfold R64 at *; omega) | (simp only [R32, R64] at *; omega))) (show ((mo_line v) 210 46) ≤ ((mo_line v) 210 44) from (by first | assumption | omega | (unfold R32 at *; omega) | (unfold R64 at *; omega) | (simp only [R32, R64] at *; omega))) (show (((mo_line v) 209 4) + 1) ≠ 0 ∨ ((mo_line v) 210 46) = 0 from (by first | assumption | omega | (unfold R32 at *; omega) | (unfold R64 at *; omega) | (simp only [R32, R64] at *; omega))) (show CF (v2 (mo_line v) 209 4 (((mo_line v) 209 4) + 1)) from (show CF (v2 (mo_line v) 209 4 (((mo_line v) 209 4) + 1)) from CF.of hl_46 (fun k h1 h2 => by rw [v2_row (by omega)]))) (show 2001 < (((mo_line v) 209 4) + 1) + f from (by first | assumption | omega | (unfold R32 at *; omega) | (unfold R64 at *; omega) | (simp only [R32, R64] at *; omega))) hQ
        · show WV _ _ _ 36 _ _ _ _ _
          rw [if_pos h_33] at hQ
          refine r_ex 2 (pc' := 40) (lo' := [some (.inr (.inr (some 203)))]) (st' := [.inr (.inl 1510), .inr (.inr (some 203))]) rfl ?_
          have hp_60 : R64 (1510 : Int) := (by first | assumption | omega | (unfold R32 at *; omega) | (unfold R64 at *; omega) | (simp only [R32, R64] at *; omega))
          have hp_61 : (v 203 7) ≤ (v 203 6) ∧ ((v 203 8) = 0 ∨ (v 203 9) < (v 203 7)) ∧ (v 203 9) ≤ (v 203 7) := (show (v 203 7) ≤ (v 203 6) ∧ ((v 203 8) = 0 ∨ (v 203 9) < (v 203 7)) ∧ (v 203 9) ≤ (v 203 7) from (by first | assumption | omega | (unfold R32 at *; omega) | (unfold R64 at *; omega) | (simp only [R32, R64] at *; omega)))
          refine r_call (m := 216) (args := [.inr (.inr (some 203)), .inr (.inl 1510)]) (n' := 210) (pc' := 43) (lo' := [some (.inr (.inr (some 203)))]) (st' := []) (I := .invokevirtual 216) (pc0 := 40) (len := 3) rfl rfl rfl (e_mo_asks hX hp_60 hp_61) ?_
          show WV _ _ _ 43 _ [] _ (mo_asks v 1510) _
          have hX_62 : XI (mo_asks v 1510) := i_mo_asks (v := v) (y := 1510) hX hp_60 hp_61
          have hb_63 : (mo_asks v 1510) 209 4 = (v 209 4) := by rw [o_mo_asks (by omega)] <;> rfl
          have hb_64 : (mo_asks v 1510) 210 44 = (v 210 44) := by rw [o_mo_asks (by omega)] <;> rfl
          have hb_65 : (mo_asks v 1510) 210 46 = (v 210 46) := by rw [o_mo_asks (by omega)] <;> rfl
          have hb_66 : ((mo_asks v 1510) 203 7) ≤ ((mo_asks v 1510) 203 6) ∧ (((mo_asks v 1510) 203 8) = 0 ∨ ((mo_asks v 1510) 203 9) < ((mo_asks v 1510) 203 7)) ∧ ((mo_asks v 1510) 203 9) ≤ ((mo_asks v 1510) 203 7) := n0_mo_asks (v := v) (y := 1510) hX hp_60 hp_61
          have hb_67 : (v 203 9) ≤ ((mo_asks v 1510) 203 9) := n1_mo_asks (v := v) (y := 1510) hX hp_60 hp_61
          refine r_ex 7 (pc' := 56) (lo' := [some (.inr (.inr (some 203)))]) (st' := [.inl 9, .inl 1, .inr (.inl 34791381541), .inr (.inr (some 203)), .inl 44, .inr (.inr (some 210))]) rfl ?_
          have hp_68 : R64 (34791381541 : Int) := (by first | assumption | omega | (unfold R32 at *; omega) | (unfold R64 at *; omega) | (simp only [R32, R64] at *; omega))
          have hp_69 : 0 ≤ (1 : Int) ∧ (1 : Int) ≤ 300 := (by first | assumption | omega | (unfold R32 at *; omega) | (unfold R64 at *; omega) | (simp only [R32, R64] at *; omega))
          have hp_70 : -1 ≤ (9 : Int) ∧ (9 : Int) ≤ 300 := (by first | assumption | omega | (unfold R32 at *; omega) | (unfold R64 at *; omega) | (simp only [R32, R64] at *; omega))
          have hp_71 : ((mo_asks v 1510) 203 7) ≤ ((mo_asks v 1510) 203 6) ∧ (((mo_asks v 1510) 203 8) = 0 ∨ ((mo_asks v 1510) 203 9) < ((mo_asks v 1510) 203 7)) ∧ ((mo_asks v 1510) 203 9) ≤ ((mo_asks v 1510) 203 7) := (show ((mo_asks v 1510) 203 7) ≤ ((mo_asks v 1510) 203 6) ∧ (((mo_asks v 1510) 203 8) = 0 ∨ ((mo_asks v 1510) 203 9) < ((mo_asks v 1510) 203 7)) ∧ ((mo_asks v 1510) 203 9) ≤ ((mo_asks v 1510) 203 7) from (by first | assumption | omega | (unfold R32 at *; omega) | (unfold R64 at *; omega) | (simp only [R32, R64] at *; omega)))
          refine r_call (m := 220) (args := [.inr (.inr (some 203)), .inr (.inl 34791381541), .inl 1, .inl 9]) (n' := 210) (pc' := 59) (lo' := [some (.inr (.inr (some 203)))]) (st' := [.inl 44, .inr (.inr (some 210))]) (I := .invokevirtual 220) (pc0 := 56) (len := 3) rfl rfl rfl (e_mo_numberW hX_62 hp_68 hp_69 hp_70 hp_71) ?_
          show WV _ _ _ 59 _ [.inl ((mo_numberW (mo_asks v 1510) 34791381541 1 9).1), .inl 44, .inr (.inr (some 210))] _ (mo_numberW (mo_asks v 1510) 34791381541 1 9).2 _
          have hX_72 : XI (mo_numberW (mo_asks v 1510) 34791381541 1 9).2 := i_mo_numberW (v := (mo_asks v 1510)) (y := 34791381541) (l := 1) (g := 9) hX_62 hp_68 hp_69 hp_70 hp_71
          have hb_73 : ((mo_numberW (mo_asks v 1510) 34791381541 1 9).2) 209 4 = ((mo_asks v 1510) 209 4) := by rw [o_mo_numberW (by omega)] <;> rfl
          have hb_74 : ((mo_numberW (mo_asks v 1510) 34791381541 1 9).2) 210 44 = ((mo_asks v 1510) 210 44) := by rw [o_mo_numberW (by omega)] <;> rfl
          have hb_75 : ((mo_numberW (mo_asks v 1510) 34791381541 1 9).2) 210 46 = ((mo_asks v 1510) 210 46) := by rw [o_mo_numberW (by omega)] <;> rfl
          have hb_76 := n0_mo_numberW (v := (mo_asks v 1510)) (y := 34791381541) (l := 1) (g := 9) hX_62 hp_68 hp_69 hp_70 hp_71
          have hb_77 : ((mo_numberW (mo_asks v 1510) 34791381541 1 9).2 203 7) ≤ ((mo_numberW (mo_asks v 1510) 34791381541 1 9).2 203 6) ∧ (((mo_numberW (mo_asks v 1510) 34791381541 1 9).2 203 8) = 0 ∨ ((mo_numberW (mo_asks v 1510) 34791381541 1 9).2 203 9) < ((mo_numberW (mo_asks v 1510) 34791381541 1 9).2 203 7)) ∧ ((mo_numberW (mo_asks v 1510) 34791381541 1 9).2 203 9) ≤ ((mo_numberW (mo_asks v 1510) 34791381541 1 9).2 203 7) := n1_mo_numberW (v := (mo_asks v 1510)) (y := 34791381541) (l := 1) (g := 9) hX_62 hp_68 hp_69 hp_70 hp_71
          have hb_78 : ((mo_asks v 1510) 203 9) ≤ ((mo_numberW (mo_asks v 1510) 34791381541 1 9).2 203 9) := n2_mo_numberW (v := (mo_asks v 1510)) (y := 34791381541) (l := 1) (g := 9) hX_62 hp_68 hp_69 hp_70 hp_71
          refine r_iast2 (pc' := 60) (pc0 := 59) (len := 1) rfl (s_210 _) (by first | assumption | omega | (unfold R32 at *; omega) | (unfold R64 at *; omega) | (simp only [R32, R64] at *; omega)) (by decide) rfl ?_
          have hX_79 : XI (v2 ((mo_numberW (mo_asks v 1510) 34791381541 1 9).2) 210 44 ((mo_numberW (mo_asks v 1510) 34791381541 1 9).1)) := XI.put hX_72 (show 0 ≤ (mo_numberW (mo_asks v 1510) 34791381541 1 9).1 ∧ (mo_numberW (mo_asks v 1510) 34791381541 1 9).1 ≤ 9 from (by first | assumption | omega | (unfold R32 at *; omega) | (unfold R64 at *; omega) | (simp only [R32, R64] at *; omega)))
          show WV _ _ _ 60 _ _ _ (v2 ((mo_numberW (mo_asks v 1510) 34791381541 1 9).2) 210 44 ((mo_numberW (mo_asks v 1510) 34791381541 1 9).1)) _
          refine r_ex 7 (pc' := 74) (lo' := [some (.inr (.inr (some 203)))]) (st' := [.inl 300, .inl 1, .inr (.inl 7434633727), .inr (.inr (some 203)), .inl 45, .inr (.inr (some 210))]) rfl ?_
          have hp_80 : R64 (7434633727 : Int) := (by first | assumption | omega | (unfold R32 at *; omega) | (unfold R64 at *; omega) | (simp only [R32, R64] at *; omega))
          have hp_81 : 0 ≤ (1 : Int) ∧ (1 : Int) ≤ 300 := (by first | assumption | omega | (unfold R32 at *; omega) | (unfold R64 at *; omega) | (simp only [R32, R64] at *; omega))
          have hp_82 : -1 ≤ (300 : Int) ∧ (300 : Int) ≤ 300 := (by first | assumption | omega | (unfold R32 at *; omega) | (unfold R64 at *; omega) | (simp only [R32, R64] at *; omega))
          have hp_83 : ((v2 ((mo_numberW (mo_asks v 1510) 34791381541 1 9).2) 210 44 ((mo_numberW (mo_asks v 1510) 34791381541 1 9).1)) 203 7) ≤ ((v2 ((mo_numberW (mo_asks v 1510) 34791381541 1 9).2) 210 44 ((mo_numberW (mo_asks v 1510) 34791381541 1 9).1)) 203 6) ∧ (((v2 ((mo_numberW (mo_asks v 1510) 34791381541 1 9).2) 210 44 ((mo_numberW (mo_asks v 1510) 34791381541 1 9).1)) 203 8) = 0 ∨ ((v2 ((mo_numberW (mo_asks v 1510) 34791381541 1 9).2) 210 44 ((mo_numberW (mo_asks v 1510) 34791381541 1 9).1)) 203 9) < ((v2 ((mo_numberW (mo_asks v 1510) 34791381541 1 9).2) 210 44 ((mo_numberW (mo_asks v 1510) 34791381541 1 9).1)) 203 7)) ∧ ((v2 ((mo_numberW (mo_asks v 1510) 34791381541 1 9).2) 210 44 ((mo_numberW (mo_asks v 1510) 34791381541 1 9).1)) 203 9) ≤ ((v2 ((mo_numberW (mo_asks v 1510) 34791381541 1 9).2) 210 44 ((mo_numberW (mo_asks v 1510) 34791381541 1 9).1)) 203 7) := (show ((mo_numberW (mo_asks v 1510) 34791381541 1 9).2 203 7) ≤ ((mo_numberW (mo_asks v 1510) 34791381541 1 9).2 203 6) ∧ (((mo_numberW (mo_asks v 1510) 34791381541 1 9).2 203 8) = 0 ∨ ((mo_numberW (mo_asks v 1510) 34791381541 1 9).2 203 9) < ((mo_numberW (mo_asks v 1510) 34791381541 1 9).2 203 7)) ∧ ((mo_numberW (mo_asks v 1510) 34791381541 1 9).2 203 9) ≤ ((mo_numberW (mo_asks v 1510) 34791381541 1 9).2 203 7) from (by first | assumption | omega | (unfold R32 at *; omega) | (unfold R64 at *; omega) | (simp only [R32, R64] at *; omega)))
          refine r_call (m := 220) (args := [.inr (.inr (some 203)), .inr (.inl 7434633727), .inl 1, .inl 300]) (n' := 210) (pc' := 77) (lo' := [some (.inr (.inr (some 203)))]) (st' := [.inl 45, .inr (.inr (some 210))]) (I := .invokevirtual 220) (pc0 := 74) (len := 3) rfl rfl rfl (e_mo_numberW hX_79 hp_80 hp_81 hp_82 hp_83) ?_
          show WV _ _ _ 77 _ [.inl ((mo_numberW (v2 ((mo_numberW (mo_asks v 1510) 34791381541 1 9).2) 210 44 ((mo_numberW (mo_asks v 1510) 34791381541 1 9).1)) 7434633727 1 300).1), .inl 45, .inr (.inr (some 210))] _ (mo_numberW (v2 ((mo_numberW (mo_asks v 1510) 34791381541 1 9).2) 210 44 ((mo_numberW (mo_asks v 1510) 34791381541 1 9).1)) 7434633727 1 300).2 _
          have hX_84 : XI (mo_numberW (v2 ((mo_numberW (mo_asks v 1510) 34791381541 1 9).2) 210 44 ((mo_numberW (mo_asks v 1510) 34791381541 1 9).1)) 7434633727 1 300).2 := i_mo_numberW (v := (v2 ((mo_numberW (mo_asks v 1510) 34791381541 1 9).2) 210 44 ((mo_numberW (mo_asks v 1510) 34791381541 1 9).1))) (y := 7434633727) (l := 1) (g := 300) hX_79 hp_80 hp_81 hp_82 hp_83
          have hb_85 : ((mo_numberW (v2 ((mo_numberW (mo_asks v 1510) 34791381541 1 9).2) 210 44 ((mo_numberW (mo_asks v 1510) 34791381541 1 9).1)) 7434633727 1 300).2) 209 4 = ((mo_numberW (mo_asks v 1510) 34791381541 1 9).2 209 4) := by rw [o_mo_numberW (by omega)] <;> rfl
          have hb_86 : ((mo_numberW (v2 ((mo_numberW (mo_asks v 1510) 34791381541 1 9).2) 210 44 ((mo_numberW (mo_asks v 1510) 34791381541 1 9).1)) 7434633727 1 300).2) 210 44 = (mo_numberW (mo_asks v 1510) 34791381541 1 9).1 := by rw [o_mo_numberW (by omega)] <;> rfl
          have hb_87 : ((mo_numberW (v2 ((mo_numberW (mo_asks v 1510) 34791381541 1 9).2) 210 44 ((mo_numberW (mo_asks v 1510) 34791381541 1 9).1)) 7434633727 1 300).2) 210 46 = ((mo_numberW (mo_asks v 1510) 34791381541 1 9).2 210 46) := by rw [o_mo_numberW (by omega)] <;> rfl
          have hb_88 := n0_mo_numberW (v := (v2 ((mo_numberW (mo_asks v 1510) 34791381541 1 9).2) 210 44 ((mo_numberW (mo_asks v 1510) 34791381541 1 9).1))) (y := 7434633727) (l := 1) (g := 300) hX_79 hp_80 hp_81 hp_82 hp_83
          have hb_89 : ((mo_numberW (v2 ((mo_numberW (mo_asks v 1510) 34791381541 1 9).2) 210 44 ((mo_numberW (mo_asks v 1510) 34791381541 1 9).1)) 7434633727 1 300).2 203 7) ≤ ((mo_numberW (v2 ((mo_numberW (mo_asks v 1510) 34791381541 1 9).2) 210 44 ((mo_numberW (mo_asks v 1510) 34791381541 1 9).1)) 7434633727 1 300).2 203 6) ∧ (((mo_numberW (v2 ((mo_numberW (mo_asks v 1510) 34791381541 1 9).2) 210 44 ((mo_numberW (mo_asks v 1510) 34791381541 1 9).1)) 7434633727 1 300).2 203 8) = 0 ∨ ((mo_numberW (v2 ((mo_numberW (mo_asks v 1510) 34791381541 1 9).2) 210 44 ((mo_numberW (mo_asks v 1510) 34791381541 1 9).1)) 7434633727 1 300).2 203 9) < ((mo_numberW (v2 ((mo_numberW (mo_asks v 1510) 34791381541 1 9).2) 210 44 ((mo_numberW (mo_asks v 1510) 34791381541 1 9).1)) 7434633727 1 300).2 203 7)) ∧ ((mo_numberW (v2 ((mo_numberW (mo_asks v 1510) 34791381541 1 9).2) 210 44 ((mo_numberW (mo_asks v 1510) 34791381541 1 9).1)) 7434633727 1 300).2 203 9) ≤ ((mo_numberW (v2 ((mo_numberW (mo_asks v 1510) 34791381541 1 9).2) 210 44 ((mo_numberW (mo_asks v 1510) 34791381541 1 9).1)) 7434633727 1 300).2 203 7) := n1_mo_numberW (v := (v2 ((mo_numberW (mo_asks v 1510) 34791381541 1 9).2) 210 44 ((mo_numberW (mo_asks v 1510) 34791381541 1 9).1))) (y := 7434633727) (l := 1) (g := 300) hX_79 hp_80 hp_81 hp_82 hp_83
          have hb_90 : ((mo_numberW (mo_asks v 1510) 34791381541 1 9).2 203 9) ≤ ((mo_numberW (v2 ((mo_numberW (mo_asks v 1510) 34791381541 1 9).2) 210 44 ((mo_numberW (mo_asks v 1510) 34791381541 1 9).1)) 7434633727 1 300).2 203 9) := n2_mo_numberW (v := (v2 ((mo_numberW (mo_asks v 1510) 34791381541 1 9).2) 210 44 ((mo_numberW (mo_asks v 1510) 34791381541 1 9).1))) (y := 7434633727) (l := 1) (g := 300) hX_79 hp_80 hp_81 hp_82 hp_83
          refine r_iast2 (pc' := 78) (pc0 := 77) (len := 1) rfl (s_210 _) (by first | assumption | omega | (unfold R32 at *; omega) | (unfold R64 at *; omega) | (simp only [R32, R64] at *; omega)) (by decide) rfl ?_
          have hX_91 : XI (v2 ((mo_numberW (v2 ((mo_numberW (mo_asks v 1510) 34791381541 1 9).2) 210 44 ((mo_numberW (mo_asks v 1510) 34791381541 1 9).1)) 7434633727 1 300).2) 210 45 ((mo_numberW (v2 ((mo_numberW (mo_asks v 1510) 34791381541 1 9).2) 210 44 ((mo_numberW (mo_asks v 1510) 34791381541 1 9).1)) 7434633727 1 300).1)) := XI.put hX_84 (show 0 ≤ (mo_numberW (v2 ((mo_numberW (mo_asks v 1510) 34791381541 1 9).2) 210 44 ((mo_numberW (mo_asks v 1510) 34791381541 1 9).1)) 7434633727 1 300).1 ∧ (mo_numberW (v2 ((mo_numberW (mo_asks v 1510) 34791381541 1 9).2) 210 44 ((mo_numberW (mo_asks v 1510) 34791381541 1 9).1)) 7434633727 1 300).1 ≤ 300 from (by first | assumption | omega | (unfold R32 at *; omega) | (unfold R64 at *; omega) | (simp only [R32, R64] at *; omega)))
          show WV _ _ _ 78 _ _ _ (v2 ((mo_numberW (v2 ((mo_numberW (mo_asks v 1510) 34791381541 1 9).2) 210 44 ((mo_numberW (mo_asks v 1510) 34791381541 1 9).1)) 7434633727 1 300).2) 210 45 ((mo_numberW (v2 ((mo_numberW (mo_asks v 1510) 34791381541 1 9).2) 210 44 ((mo_numberW (mo_asks v 1510) 34791381541 1 9).1)) 7434633727 1 300).1)) _
          refine r_ex 2 (pc' := 86) (lo' := [some (.inr (.inr (some 203)))]) (st' := [.inr (.inr (some 203))]) rfl ?_
          have hb_92 : 0 ≤ (v2 ((mo_numberW (v2 ((mo_numberW (mo_asks v 1510) 34791381541 1 9).2) 210 44 ((mo_numberW (mo_asks v 1510) 34791381541 1 9).1)) 7434633727 1 300).2) 210 45 ((mo_numberW (v2 ((mo_numberW (mo_asks v 1510) 34791381541 1 9).2) 210 44 ((mo_numberW (mo_asks v 1510) 34791381541 1 9).1)) 7434633727 1 300).1)) 203 12 ∧ (v2 ((mo_numberW (v2 ((mo_numberW (mo_asks v 1510) 34791381541 1 9).2) 210 44 ((mo_numberW (mo_asks v 1510) 34791381541 1 9).1)) 7434633727 1 300).2) 210 45 ((mo_numberW (v2 ((mo_numberW (mo_asks v 1510) 34791381541 1 9).2) 210 44 ((mo_numberW (mo_asks v 1510) 34791381541 1 9).1)) 7434633727 1 300).1)) 203 12 ≤ 3 := hX_91 203 12
          refine r_callb (P := ((mo_numberW (v2 ((mo_numberW (mo_asks v 1510) 34791381541 1 9).2) 210 44 ((mo_numberW (mo_asks v 1510) 34791381541 1 9).1)) 7434633727 1 300).2 203 12) = 0) (m := 215) (args := [.inr (.inr (some 203))]) (n' := 210) (pc' := 89) (lo' := [some (.inr (.inr (some 203)))]) (st' := []) (I := .invokevirtual 215) (pc0 := 86) (len := 3) rfl rfl rfl (e_mo_isGood hX_91) (fun h_86 => ?_) (fun h_86 => ?_)
          · show WV _ _ _ 89 _ _ _ _ _
            rw [if_pos h_86] at hQ
            refine r_ex 2 (pc' := 93) (lo' := [some (.inr (.inr (some 203)))]) (st' := [.inr (.inr (some 203))]) rfl ?_
            have hp_93 : ((v2 ((mo_numberW (v2 ((mo_numberW (mo_asks v 1510) 34791381541 1 9).2) 210 44 ((mo_numberW (mo_asks v 1510) 34791381541 1 9).1)) 7434633727 1 300).2) 210 45 ((mo_numberW (v2 ((mo_numberW (mo_asks v 1510) 34791381541 1 9).2) 210 44 ((mo_numberW (mo_asks v 1510) 34791381541 1 9).1)) 7434633727 1 300).1)) 203 7) ≤ ((v2 ((mo_numberW (v2 ((mo_numberW (mo_asks v 1510) 34791381541 1 9).2) 210 44 ((mo_numberW (mo_asks v 1510) 34791381541 1 9).1)) 7434633727 1 300).2) 210 45 ((mo_numberW (v2 ((mo_numberW (mo_asks v 1510) 34791381541 1 9).2) 210 44 ((mo_numberW (mo_asks v 1510) 34791381541 1 9).1)) 7434633727 1 300).1)) 203 6) ∧ (((v2 ((mo_numberW (v2 ((mo_numberW (mo_asks v 1510) 34791381541 1 9).2) 210 44 ((mo_numberW (mo_asks v 1510) 34791381541 1 9).1)) 7434633727 1 300).2) 210 45 ((mo_numberW (v2 ((mo_numberW (mo_asks v 1510) 34791381541 1 9).2) 210 44 ((mo_numberW (mo_asks v 1510) 34791381541 1 9).1)) 7434633727 1 300).1)) 203 8) = 0 ∨ ((v2 ((mo_numberW (v2 ((mo_numberW (mo_asks v 1510) 34791381541 1 9).2) 210 44 ((mo_numberW (mo_asks v 1510) 34791381541 1 9).1)) 7434633727 1 300).2) 210 45 ((mo_numberW (v2 ((mo_numberW (mo_asks v 1510) 34791381541 1 9).2) 210 44 ((mo_numberW (mo_asks v 1510) 34791381541 1 9).1)) 7434633727 1 300).1)) 203 9) < ((v2 ((mo_numberW (v2 ((mo_numberW (mo_asks v 1510) 34791381541 1 9).2) 210 44 ((mo_numberW (mo_asks v 1510) 34791381541 1 9).1)) 7434633727 1 300).2) 210 45 ((mo_numberW (v2 ((mo_numberW (mo_asks v 1510) 34791381541 1 9).2) 210 44 ((mo_numberW (mo_asks v 1510) 34791381541 1 9).1)) 7434633727 1 300).1)) 203 7)) ∧ ((v2 ((mo_numberW (v2 ((mo_numberW (mo_asks v 1510) 34791381541 1 9).2) 210 44 ((mo_numberW (mo_asks v 1510) 34791381541 1 9).1)) 7434633727 1 300).2) 210 45 ((mo_numberW (v2 ((mo_numberW (mo_asks v 1510) 34791381541 1 9).2) 210 44 ((mo_numberW (mo_asks v 1510) 34791381541 1 9).1)) 7434633727 1 300).1)) 203 9) ≤ ((v2 ((mo_numberW (v2 ((mo_numberW (mo_asks v 1510) 34791381541 1 9).2) 210 44 ((mo_numberW (mo_asks v 1510) 34791381541 1 9).1)) 7434633727 1 300).2) 210 45 ((mo_numberW (v2 ((mo_numberW (mo_asks v 1510) 34791381541 1 9).2) 210 44 ((mo_numberW (mo_asks v 1510) 34791381541 1 9).1)) 7434633727 1 300).1)) 203 7) := (show ((mo_numberW (v2 ((mo_numberW (mo_asks v 1510) 34791381541 1 9).2) 210 44 ((mo_numberW (mo_asks v 1510) 34791381541 1 9).1)) 7434633727 1 300).2 203 7) ≤ ((mo_numberW (v2 ((mo_numberW (mo_asks v 1510) 34791381541 1 9).2) 210 44 ((mo_numberW (mo_asks v 1510) 34791381541 1 9).1)) 7434633727 1 300).2 203 6) ∧ (((mo_numberW (v2 ((mo_numberW (mo_asks v 1510) 34791381541 1 9).2) 210 44 ((mo_numberW (mo_asks v 1510) 34791381541 1 9).1)) 7434633727 1 300).2 203 8) = 0 ∨ ((mo_numberW (v2 ((mo_numberW (mo_asks v 1510) 34791381541 1 9).2) 210 44 ((mo_numberW (mo_asks v 1510) 34791381541 1 9).1)) 7434633727 1 300).2 203 9) < ((mo_numberW (v2 ((mo_numberW (mo_asks v 1510) 34791381541 1 9).2) 210 44 ((mo_numberW (mo_asks v 1510) 34791381541 1 9).1)) 7434633727 1 300).2 203 7)) ∧ ((mo_numberW (v2 ((mo_numberW (mo_asks v 1510) 34791381541 1 9).2) 210 44 ((mo_numberW (mo_asks v 1510) 34791381541 1 9).1)) 7434633727 1 300).2 203 9) ≤ ((mo_numberW (v2 ((mo_numberW (mo_asks v 1510) 34791381541 1 9).2) 210 44 ((mo_numberW (mo_asks v 1510) 34791381541 1 9).1)) 7434633727 1 300).2 203 7) from (by first | assumption | omega | (unfold R32 at *; omega) | (unfold R64 at *; omega) | (simp only [R32, R64] at *; omega)))
            refine r_call (m := 231) (args := [.inr (.inr (some 203))]) (n' := 210) (pc' := 96) (lo' := [some (.inr (.inr (some 203)))]) (st' := []) (I := .invokevirtual 231) (pc0 := 93) (len := 3) rfl rfl rfl (e_mo_ends hX_91 hp_93) ?_
            show WV _ _ _ 96 _ [] _ (mo_ends (v2 ((mo_numberW (v2 ((mo_numberW (mo_asks v 1510) 34791381541 1 9).2) 210 44 ((mo_numberW (mo_asks v 1510) 34791381541 1 9).1)) 7434633727 1 300).2) 210 45 ((mo_numberW (v2 ((mo_numberW (mo_asks v 1510) 34791381541 1 9).2) 210 44 ((mo_numberW (mo_asks v 1510) 34791381541 1 9).1)) 7434633727 1 300).1))) _
            have hX_94 : XI (mo_ends (v2 ((mo_numberW (v2 ((mo_numberW (mo_asks v 1510) 34791381541 1 9).2) 210 44 ((mo_numberW (mo_asks v 1510) 34791381541 1 9).1)) 7434633727 1 300).2) 210 45 ((mo_numberW (v2 ((mo_numberW (mo_asks v 1510) 34791381541 1 9).2) 210 44 ((mo_numberW (mo_asks v 1510) 34791381541 1 9).1)) 7434633727 1 300).1))) := i_mo_ends (v := (v2 ((mo_numberW (v2 ((mo_numberW (mo_asks v 1510) 34791381541 1 9).2) 210 44 ((mo_numberW (mo_asks v 1510) 34791381541 1 9).1)) 7434633727 1 300).2) 210 45 ((mo_numberW (v2 ((mo_numberW (mo_asks v 1510) 34791381541 1 9).2) 210 44 ((mo_numberW (mo_asks v 1510) 34791381541 1 9).1)) 7434633727 1 300).1))) hX_91 hp_93
            have hb_95 : (mo_ends (v2 ((mo_numberW (v2 ((mo_numberW (mo_asks v 1510) 34791381541 1 9).2) 210 44 ((mo_numberW (mo_asks v 1510) 34791381541 1 9).1)) 7434633727 1 300).2) 210 45 ((mo_numberW (v2 ((mo_numberW (mo_asks v 1510) 34791381541 1 9).2) 210 44 ((mo_numberW (mo_asks v 1510) 34791381541 1 9).1)) 7434633727 1 300).1))) 209 4 = ((mo_numberW (v2 ((mo_numberW (mo_asks v 1510) 34791381541 1 9).2) 210 44 ((mo_numberW (mo_asks v 1510) 34791381541 1 9).1)) 7434633727 1 300).2 209 4) := by rw [o_mo_ends (by omega)] <;> rfl
            have hb_96 : (mo_ends (v2 ((mo_numberW (v2 ((mo_numberW (mo_asks v 1510) 34791381541 1 9).2) 210 44 ((mo_numberW (mo_asks v 1510) 34791381541 1 9).1)) 7434633727 1 300).2) 210 45 ((mo_numberW (v2 ((mo_numberW (mo_asks v 1510) 34791381541 1 9).2) 210 44 ((mo_numberW (mo_asks v 1510) 34791381541 1 9).1)) 7434633727 1 300).1))) 210 44 = ((mo_numberW (v2 ((mo_numberW (mo_asks v 1510) 34791381541 1 9).2) 210 44 ((mo_numberW (mo_asks v 1510) 34791381541 1 9).1)) 7434633727 1 300).2 210 44) := by rw [o_mo_ends (by omega)] <;> rfl
            have hb_97 : (mo_ends (v2 ((mo_numberW (v2 ((mo_numberW (mo_asks v 1510) 34791381541 1 9).2) 210 44 ((mo_numberW (mo_asks v 1510) 34791381541 1 9).1)) 7434633727 1 300).2) 210 45 ((mo_numberW (v2 ((mo_numberW (mo_asks v 1510) 34791381541 1 9).2) 210 44 ((mo_numberW (mo_asks v 1510) 34791381541 1 9).1)) 7434633727 1 300).1))) 210 46 = ((mo_numberW (v2 ((mo_numberW (mo_asks v 1510) 34791381541 1 9).2) 210 44 ((mo_numberW (mo_asks v 1510) 34791381541 1 9).1)) 7434633727 1 300).2 210 46) := by rw [o_mo_ends (by omega)] <;> rfl
            have hb_98 : ((mo_ends (v2 ((mo_numberW (v2 ((mo_numberW (mo_asks v 1510) 34791381541 1 9).2) 210 44 ((mo_numberW (mo_asks v 1510) 34791381541 1 9).1)) 7434633727 1 300).2) 210 45 ((mo_numberW (v2 ((mo_numberW (mo_asks v 1510) 34791381541 1 9).2) 210 44 ((mo_numberW (mo_asks v 1510) 34791381541 1 9).1)) 7434633727 1 300).1))) 203 7) ≤ ((mo_ends (v2 ((mo_numberW (v2 ((mo_numberW (mo_asks v 1510) 34791381541 1 9).2) 210 44 ((mo_numberW (mo_asks v 1510) 34791381541 1 9).1)) 7434633727 1 300).2) 210 45 ((mo_numberW (v2 ((mo_numberW (mo_asks v 1510) 34791381541 1 9).2) 210 44 ((mo_numberW (mo_asks v 1510) 34791381541 1 9).1)) 7434633727 1 300).1))) 203 6) ∧ (((mo_ends (v2 ((mo_numberW (v2 ((mo_numberW (mo_asks v 1510) 34791381541 1 9).2) 210 44 ((mo_numberW (mo_asks v 1510) 34791381541 1 9).1)) 7434633727 1 300).2) 210 45 ((mo_numberW (v2 ((mo_numberW (mo_asks v 1510) 34791381541 1 9).2) 210 44 ((mo_numberW (mo_asks v 1510) 34791381541 1 9).1)) 7434633727 1 300).1))) 203 8) = 0 ∨ ((mo_ends (v2 ((mo_numberW (v2 ((mo_numberW (mo_asks v 1510) 34791381541 1 9).2) 210 44 ((mo_numberW (mo_asks v 1510) 34791381541 1 9).1)) 7434633727 1 300).2) 210 45 ((mo_numberW (v2 ((mo_numberW (mo_asks v 1510) 34791381541 1 9).2) 210 44 ((mo_numberW (mo_asks v 1510) 34791381541 1 9).1)) 7434633727 1 300).1))) 203 9) < ((mo_ends (v2 ((mo_numberW (v2 ((mo_numberW (mo_asks v 1510) 34791381541 1 9).2) 210 44 ((mo_numberW (mo_asks v 1510) 34791381541 1 9).1)) 7434633727 1 300).2) 210 45 ((mo_numberW (v2 ((mo_numberW (mo_asks v 1510) 34791381541 1 9).2) 210 44 ((mo_numberW (mo_asks v 1510) 34791381541 1 9).1)) 7434633727 1 300).1))) 203 7)) ∧ ((mo_ends (v2 ((mo_numberW (v2 ((mo_numberW (mo_asks v 1510) 34791381541 1 9).2) 210 44 ((mo_numberW (mo_asks v 1510) 34791381541 1 9).1)) 7434633727 1 300).2) 210 45 ((mo_numberW (v2 ((mo_numberW (mo_asks v 1510) 34791381541 1 9).2) 210 44 ((mo_numberW (mo_asks v 1510) 34791381541 1 9).1)) 7434633727 1 300).1))) 203 9) ≤ ((mo_ends (v2 ((mo_numberW (v2 ((mo_numberW (mo_asks v 1510) 34791381541 1 9).2) 210 44 ((mo_numberW (mo_asks v 1510) 34791381541 1 9).1)) 7434633727 1 300).2) 210 45 ((mo_numberW (v2 ((mo_numberW (mo_asks v 1510) 34791381541 1 9).2) 210 44 ((mo_numberW (mo_asks v 1510) 34791381541 1 9).1)) 7434633727 1 300).1))) 203 7) := n0_mo_ends (v := (v2 ((mo_numberW (v2 ((mo_numberW (mo_asks v 1510) 34791381541 1 9).2) 210 44 ((mo_numberW (mo_asks v 1510) 34791381541 1 9).1)) 7434633727 1 300).2) 210 45 ((mo_numberW (v2 ((mo_numberW (mo_asks v 1510) 34791381541 1 9).2) 210 44 ((mo_numberW (mo_asks v 1510) 34791381541 1 9).1)) 7434633727 1 300).1))) hX_91 hp_93
            have hb_99 : ((mo_numberW (v2 ((mo_numberW (mo_asks v 1510) 34791381541 1 9).2) 210 44 ((mo_numberW (mo_asks v 1510) 34791381541 1 9).1)) 7434633727 1 300).2 203 9) ≤ ((mo_ends (v2 ((mo_numberW (v2 ((mo_numberW (mo_asks v 1510) 34791381541 1 9).2) 210 44 ((mo_numberW (mo_asks v 1510) 34791381541 1 9).1)) 7434633727 1 300).2) 210 45 ((mo_numberW (v2 ((mo_numberW (mo_asks v 1510) 34791381541 1 9).2) 210 44 ((mo_numberW (mo_asks v 1510) 34791381541 1 9).1)) 7434633727 1 300).1))) 203 9) := n1_mo_ends (v := (v2 ((mo_numberW (v2 ((mo_numberW (mo_asks v 1510) 34791381541 1 9).2) 210 44 ((mo_numberW (mo_asks v 1510) 34791381541 1 9).1)) 7434633727 1 300).2) 210 45 ((mo_numberW (v2 ((mo_numberW (mo_asks v 1510) 34791381541 1 9).2) 210 44 ((mo_numberW (mo_asks v 1510) 34791381541 1 9).1)) 7434633727 1 300).1))) hX_91 hp_93
            have hb_100 : ((mo_ends (v2 ((mo_numberW (v2 ((mo_numberW (mo_asks v 1510) 34791381541 1 9).2) 210 44 ((mo_numberW (mo_asks v 1510) 34791381541 1 9).1)) 7434633727 1 300).2) 210 45 ((mo_numberW (v2 ((mo_numberW (mo_asks v 1510) 34791381541 1 9).2) 210 44 ((mo_numberW (mo_asks v 1510) 34791381541 1 9).1)) 7434633727 1 300).1))) 203 12) ≠ 0 ∨ ((mo_numberW (v2 ((mo_numberW (mo_asks v 1510) 34791381541 1 9).2) 210 44 ((mo_numberW (mo_asks v 1510) 34791381541 1 9).1)) 7434633727 1 300).2 203 9) < ((mo_ends (v2 ((mo_numberW (v2 ((mo_numberW (mo_asks v 1510) 34791381541 1 9).2) 210 44 ((mo_numberW (mo_asks v 1510) 34791381541 1 9).1)) 7434633727 1 300).2) 210 45 ((mo_numberW (v2 ((mo_numberW (mo_asks v 1510) 34791381541 1 9).2) 210 44 ((mo_numberW (mo_asks v 1510) 34791381541 1 9).1)) 7434633727 1 300).1))) 203 9) := n2_mo_ends (v := (v2 ((mo_numberW (v2 ((mo_numberW (mo_asks v 1510) 34791381541 1 9).2) 210 44 ((mo_numberW (mo_asks v 1510) 34791381541 1 9).1)) 7434633727 1 300).2) 210 45 ((mo_numberW (v2 ((mo_numberW (mo_asks v 1510) 34791381541 1 9).2) 210 44 ((mo_numberW (mo_asks v 1510) 34791381541 1 9).1)) 7434633727 1 300).1))) hX_91 hp_93
            refine r_ex 4 (pc' := 102) (lo' := [some (.inr (.inr (some 203)))]) (st' := [.inl 4, .inr (.inr (some 209)), .inl 4, .inr (.inr (some 209))]) rfl ?_
            refine r_iald2 (j := 0) (x := ((mo_ends (v2 ((mo_numberW (v2 ((mo_numberW (mo_asks v 1510) 34791381541 1 9).2) 210 44 ((mo_numberW (mo_asks v 1510) 34791381541 1 9).1)) 7434633727 1 300).2) 210 45 ((mo_numberW (v2 ((mo_numberW (mo_asks v 1510) 34791381541 1 9).2) 210 44 ((mo_numberW (mo_asks v 1510) 34791381541 1 9).1)) 7434633727 1 300).1))) 209 4)) (pc' := 103) (pc0 := 102) (len := 1) rfl (s_209 _) (by first | assumption | omega | (unfold R32 at *; omega) | (unfold R64 at *; omega) | (simp only [R32, R64] at *; omega)) (by decide) rfl rfl ?_
            have hb_101 : 0 ≤ ((mo_ends (v2 ((mo_numberW (v2 ((mo_numberW (mo_asks v 1510) 34791381541 1 9).2) 210 44 ((mo_numberW (mo_asks v 1510) 34791381541 1 9).1)) 7434633727 1 300).2) 210 45 ((mo_numberW (v2 ((mo_numberW (mo_asks v 1510) 34791381541 1 9).2) 210 44 ((mo_numberW (mo_asks v 1510) 34791381541 1 9).1)) 7434633727 1 300).1))) 209 4) ∧ ((mo_ends (v2 ((mo_numberW (v2 ((mo_numberW (mo_asks v 1510) 34791381541 1 9).2) 210 44 ((mo_numberW (mo_asks v 1510) 34791381541 1 9).1)) 7434633727 1 300).2) 210 45 ((mo_numberW (v2 ((mo_numberW (mo_asks v 1510) 34791381541 1 9).2) 210 44 ((mo_numberW (mo_asks v 1510) 34791381541 1 9).1)) 7434633727 1 300).1))) 209 4) ≤ 2001 := hX_94 209 4
            refine r_ex 2 (pc' := 105) (lo' := [some (.inr (.inr (some 203)))]) (st' := [.inl (((mo_ends (v2 ((mo_numberW (v2 ((mo_numberW (mo_asks v 1510) 34791381541 1 9).2) 210 44 ((mo_numberW (mo_asks v 1510) 34791381541 1 9).1)) 7434633727 1 300).2) 210 45 ((mo_numberW (v2 ((mo_numberW (mo_asks v 1510) 34791381541 1 9).2) 210 44 ((mo_numberW (mo_asks v 1510) 34791381541 1 9).1)) 7434633727 1 300).1))) 209 4) + 1), .inl 4, .inr (.inr (some 209))]) rfl ?_
            refine r_iast2 (pc' := 106) (pc0 := 105) (len := 1) rfl (s_209 _) (by first | assumption | omega | (unfold R32 at *; omega) | (unfold R64 at *; omega) | (simp only [R32, R64] at *; omega)) (by decide) rfl ?_
            have hX_102 : XI (v2 (mo_ends (v2 ((mo_numberW (v2 ((mo_numberW (mo_asks v 1510) 34791381541 1 9).2) 210 44 ((mo_numberW (mo_asks v 1510) 34791381541 1 9).1)) 7434633727 1 300).2) 210 45 ((mo_numberW (v2 ((mo_numberW (mo_asks v 1510) 34791381541 1 9).2) 210 44 ((mo_numberW (mo_asks v 1510) 34791381541 1 9).1)) 7434633727 1 300).1))) 209 4 (((mo_ends (v2 ((mo_numberW (v2 ((mo_numberW (mo_asks v 1510) 34791381541 1 9).2) 210 44 ((mo_numberW (mo_asks v 1510) 34791381541 1 9).1)) 7434633727 1 300).2) 210 45 ((mo_numberW (v2 ((mo_numberW (mo_asks v 1510) 34791381541 1 9).2) 210 44 ((mo_numberW (mo_asks v 1510) 34791381541 1 9).1)) 7434633727 1 300).1))) 209 4) + 1)) := XI.put hX_94 (show 0 ≤ (((mo_ends (v2 ((mo_numberW (v2 ((mo_numberW (mo_asks v 1510) 34791381541 1 9).2) 210 44 ((mo_numberW (mo_asks v 1510) 34791381541 1 9).1)) 7434633727 1 300).2) 210 45 ((mo_numberW (v2 ((mo_numberW (mo_asks v 1510) 34791381541 1 9).2) 210 44 ((mo_numberW (mo_asks v 1510) 34791381541 1 9).1)) 7434633727 1 300).1))) 209 4) + 1) ∧ (((mo_ends (v2 ((mo_numberW (v2 ((mo_numberW (mo_asks v 1510) 34791381541 1 9).2) 210 44 ((mo_numberW (mo_asks v 1510) 34791381541 1 9).1)) 7434633727 1 300).2) 210 45 ((mo_numberW (v2 ((mo_numberW (mo_asks v 1510) 34791381541 1 9).2) 210 44 ((mo_numberW (mo_asks v 1510) 34791381541 1 9).1)) 7434633727 1 300).1))) 209 4) + 1) ≤ 2001 from (by first | assumption | omega | (unfold R32 at *; omega) | (unfold R64 at *; omega) | (simp only [R32, R64] at *; omega)))
            show WV _ _ _ 106 _ _ _ (v2 (mo_ends (v2 ((mo_numberW (v2 ((mo_numberW (mo_asks v 1510) 34791381541 1 9).2) 210 44 ((mo_numberW (mo_asks v 1510) 34791381541 1 9).1)) 7434633727 1 300).2) 210 45 ((mo_numberW (v2 ((mo_numberW (mo_asks v 1510) 34791381541 1 9).2) 210 44 ((mo_numberW (mo_asks v 1510) 34791381541 1 9).1)) 7434633727 1 300).1))) 209 4 (((mo_ends (v2 ((mo_numberW (v2 ((mo_numberW (mo_asks v 1510) 34791381541 1 9).2) 210 44 ((mo_numberW (mo_asks v 1510) 34791381541 1 9).1)) 7434633727 1 300).2) 210 45 ((mo_numberW (v2 ((mo_numberW (mo_asks v 1510) 34791381541 1 9).2) 210 44 ((mo_numberW (mo_asks v 1510) 34791381541 1 9).1)) 7434633727 1 300).1))) 209 4) + 1)) _
            refine r_ex 1 (pc' := 13) (lo' := [some (.inr (.inr (some 203)))]) (st' := []) rfl ?_
            refine ih (v2 (mo_ends (v2 ((mo_numberW (v2 ((mo_numberW (mo_asks v 1510) 34791381541 1 9).2) 210 44 ((mo_numberW (mo_asks v 1510) 34791381541 1 9).1)) 7434633727 1 300).2) 210 45 ((mo_numberW (v2 ((mo_numberW (mo_asks v 1510) 34791381541 1 9).2) 210 44 ((mo_numberW (mo_asks v 1510) 34791381541 1 9).1)) 7434633727 1 300).1))) 209 4 (((mo_ends (v2 ((mo_numberW (v2 ((mo_numberW (mo_asks v 1510) 34791381541 1 9).2) 210 44 ((mo_numberW (mo_asks v 1510) 34791381541 1 9).1)) 7434633727 1 300).2) 210 45 ((mo_numberW (v2 ((mo_numberW (mo_asks v 1510) 34791381541 1 9).2) 210 44 ((mo_numberW (mo_asks v 1510) 34791381541 1 9).1)) 7434633727 1 300).1))) 209 4) + 1))   hX_102 (show ((mo_ends (v2 ((mo_numberW (v2 ((mo_numberW (mo_asks v 1510) 34791381541 1 9).2) 210 44 ((mo_numberW (mo_asks v 1510) 34791381541 1 9).1)) 7434633727 1 300).2) 210 45 ((mo_numberW (v2 ((mo_numberW (mo_asks v 1510) 34791381541 1 9).2) 210 44 ((mo_numberW (mo_asks v 1510) 34791381541 1 9).1)) 7434633727 1 300).1))) 203 7) ≤ ((mo_ends (v2 ((mo_numberW (v2 ((mo_numberW (mo_asks v 1510) 34791381541 1 9).2) 210 44 ((mo_numberW (mo_asks v 1510) 34791381541 1 9).1)) 7434633727 1 300).2) 210 45 ((mo_numberW (v2 ((mo_numberW (mo_asks v 1510) 34791381541 1 9).2) 210 44 ((mo_numberW (mo_asks v 1510) 34791381541 1 9).1)) 7434633727 1 300).1))) 203 6) ∧ (((mo_ends (v2 ((mo_numberW (v2 ((mo_numberW (mo_asks v 1510) 34791381541 1 9).2) 210 44 ((mo_numberW (mo_asks v 1510) 34791381541 1 9).1)) 7434633727 1 300).2) 210 45 ((mo_numberW (v2 ((mo_numberW (mo_asks v 1510) 34791381541 1 9).2) 210 44 ((mo_numberW (mo_asks v 1510) 34791381541 1 9).1)) 7434633727 1 300).1))) 203 8) = 0 ∨ ((mo_ends (v2 ((mo_numberW (v2 ((mo_numberW (mo_asks v 1510) 34791381541 1 9).2) 210 44 ((mo_numberW (mo_asks v 1510) 34791381541 1 9).1)) 7434633727 1 300).2) 210 45 ((mo_numberW (v2 ((mo_numberW (mo_asks v 1510) 34791381541 1 9).2) 210 44 ((mo_numberW (mo_asks v 1510) 34791381541 1 9).1)) 7434633727 1 300).1))) 203 9) < ((mo_ends (v2 ((mo_numberW (v2 ((mo_numberW (mo_asks v 1510) 34791381541 1 9).2) 210 44 ((mo_numberW (mo_asks v 1510) 34791381541 1 9).1)) 7434633727 1 300).2) 210 45 ((mo_numberW (v2 ((mo_numberW (mo_asks v 1510) 34791381541 1 9).2) 210 44 ((mo_numberW (mo_asks v 1510) 34791381541 1 9).1)) 7434633727 1 300).1))) 203 7)) ∧ ((mo_ends (v2 ((mo_numberW (v2 ((mo_numberW (mo_asks v 1510) 34791381541 1 9).2) 210 44 ((mo_numberW (mo_asks v 1510) 34791381541 1 9).1)) 7434633727 1 300).2) 210 45 ((mo_numberW (v2 ((mo_numberW (mo_asks v 1510) 34791381541 1 9).2) 210 44 ((mo_numberW (mo_asks v 1510) 34791381541 1 9).1)) 7434633727 1 300).1))) 203 9) ≤ ((mo_ends (v2 ((mo_numberW (v2 ((mo_numberW (mo_asks v 1510) 34791381541 1 9).2) 210 44 ((mo_numberW (mo_asks v 1510) 34791381541 1 9).1)) 7434633727 1 300).2) 210 45 ((mo_numberW (v2 ((mo_numberW (mo_asks v 1510) 34791381541 1 9).2) 210 44 ((mo_numberW (mo_asks v 1510) 34791381541 1 9).1)) 7434633727 1 300).1))) 203 7) from (by first | assumption | omega | (unfold R32 at *; omega) | (unfold R64 at *; omega) | (simp only [R32, R64] at *; omega))) (show ((mo_ends (v2 ((mo_numberW (v2 ((mo_numberW (mo_asks v 1510) 34791381541 1 9).2) 210 44 ((mo_numberW (mo_asks v 1510) 34791381541 1 9).1)) 7434633727 1 300).2) 210 45 ((mo_numberW (v2 ((mo_numberW (mo_asks v 1510) 34791381541 1 9).2) 210 44 ((mo_numberW (mo_asks v 1510) 34791381541 1 9).1)) 7434633727 1 300).1))) 203 12) ≠ 0 ∨ (((mo_ends (v2 ((mo_numberW (v2 ((mo_numberW (mo_asks v 1510) 34791381541 1 9).2) 210 44 ((mo_numberW (mo_asks v 1510) 34791381541 1 9).1)) 7434633727 1 300).2) 210 45 ((mo_numberW (v2 ((mo_numberW (mo_asks v 1510) 34791381541 1 9).2) 210 44 ((mo_numberW (mo_asks v 1510) 34791381541 1 9).1)) 7434633727 1 300).1))) 209 4) + 1) ≤ ((mo_ends (v2 ((mo_numberW (v2 ((mo_numberW (mo_asks v 1510) 34791381541 1 9).2) 210 44 ((mo_numberW (mo_asks v 1510) 34791381541 1 9).1)) 7434633727 1 300).2) 210 45 ((mo_numberW (v2 ((mo_numberW (mo_asks v 1510) 34791381541 1 9).2) 210 44 ((mo_numberW (mo_asks v 1510) 34791381541 1 9).1)) 7434633727 1 300).1))) 203 9) from (by first | assumption | omega | (unfold R32 at *; omega) | (unfold R64 at *; omega) | (simp only [R32, R64] at *; omega))) (show ((mo_ends (v2 ((mo_numberW (v2 ((mo_numberW (mo_asks v 1510) 34791381541 1 9).2) 210 44 ((mo_numberW (mo_asks v 1510) 34791381541 1 9).1)) 7434633727 1 300).2) 210 45 ((mo_numberW (v2 ((mo_numberW (mo_asks v 1510) 34791381541 1 9).2) 210 44 ((mo_numberW (mo_asks v 1510) 34791381541 1 9).1)) 7434633727 1 300).1))) 210 46) ≤ ((mo_ends (v2 ((mo_numberW (v2 ((mo_numberW (mo_asks v 1510) 34791381541 1 9).2) 210 44 ((mo_numberW (mo_asks v 1510) 34791381541 1 9).1)) 7434633727 1 300).2) 210 45 ((mo_numberW (v2 ((mo_numberW (mo_asks v 1510) 34791381541 1 9).2) 210 44 ((mo_numberW (mo_asks v 1510) 34791381541 1 9).1)) 7434633727 1 300).1))) 210 44) from (by first | assumption | omega | (unfold R32 at *; omega) | (unfold R64 at *; omega) | (simp only [R32, R64] at *; omega))) (show (((mo_ends (v2 ((mo_numberW (v2 ((mo_numberW (mo_asks v 1510) 34791381541 1 9).2) 210 44 ((mo_numberW (mo_asks v 1510) 34791381541 1 9).1)) 7434633727 1 300).2) 210 45 ((mo_numberW (v2 ((mo_numberW (mo_asks v 1510) 34791381541 1 9).2) 210 44 ((mo_numberW (mo_asks v 1510) 34791381541 1 9).1)) 7434633727 1 300).1))) 209 4) + 1) ≠ 0 ∨ ((mo_ends (v2 ((mo_numberW (v2 ((mo_numberW (mo_asks v 1510) 34791381541 1 9).2) 210 44 ((mo_numberW (mo_asks v 1510) 34791381541 1 9).1)) 7434633727 1 300).2) 210 45 ((mo_numberW (v2 ((mo_numberW (mo_asks v 1510) 34791381541 1 9).2) 210 44 ((mo_numberW (mo_asks v 1510) 34791381541 1 9).1)) 7434633727 1 300).1))) 210 46) = 0 from (by first | assumption | omega | (unfold R32 at *; omega) | (unfold R64 at *; omega) | (simp only [R32, R64] at *; omega))) (show CF (v2 (mo_ends (v2 ((mo_numberW (v2 ((mo_numberW (mo_asks v 1510) 34791381541 1 9).2) 210 44 ((mo_numberW (mo_asks v 1510) 34791381541 1 9).1)) 7434633727 1 300).2) 210 45 ((mo_numberW (v2 ((mo_numberW (mo_asks v 1510) 34791381541 1 9).2) 210 44 ((mo_numberW (mo_asks v 1510) 34791381541 1 9).1)) 7434633727 1 300).1))) 209 4 (((mo_ends (v2 ((mo_numberW (v2 ((mo_numberW (mo_asks v 1510) 34791381541 1 9).2) 210 44 ((mo_numberW (mo_asks v 1510) 34791381541 1 9).1)) 7434633727 1 300).2) 210 45 ((mo_numberW (v2 ((mo_numberW (mo_asks v 1510) 34791381541 1 9).2) 210 44 ((mo_numberW (mo_asks v 1510) 34791381541 1 9).1)) 7434633727 1 300).1))) 209 4) + 1)) from (show CF (v2 (mo_ends (v2 ((mo_numberW (v2 ((mo_numberW (mo_asks v 1510) 34791381541 1 9).2) 210 44 ((mo_numberW (mo_asks v 1510) 34791381541 1 9).1)) 7434633727 1 300).2) 210 45 ((mo_numberW (v2 ((mo_numberW (mo_asks v 1510) 34791381541 1 9).2) 210 44 ((mo_numberW (mo_asks v 1510) 34791381541 1 9).1)) 7434633727 1 300).1))) 209 4 (((mo_ends (v2 ((mo_numberW (v2 ((mo_numberW (mo_asks v 1510) 34791381541 1 9).2) 210 44 ((mo_numberW (mo_asks v 1510) 34791381541 1 9).1)) 7434633727 1 300).2) 210 45 ((mo_numberW (v2 ((mo_numberW (mo_asks v 1510) 34791381541 1 9).2) 210 44 ((mo_numberW (mo_asks v 1510) 34791381541 1 9).1)) 7434633727 1 300).1))) 209 4) + 1)) from CF.of hi_4 (fun k h1 h2 => by rw [v2_row (by omega), o_mo_ends (by omega), v2_row (by omega), o_mo_numberW (by omega), v2_row (by omega), o_mo_numberW (by omega), o_mo_asks (by omega)]))) (show 2001 < (((mo_ends (v2 ((mo_numberW (v2 ((mo_numberW (mo_asks v 1510) 34791381541 1 9).2) 210 44 ((mo_numberW (mo_asks v 1510) 34791381541 1 9).1)) 7434633727 1 300).2) 210 45 ((mo_numberW (v2 ((mo_numberW (mo_asks v 1510) 34791381541 1 9).2) 210 44 ((mo_numberW (mo_asks v 1510) 34791381541 1 9).1)) 7434633727 1 300).1))) 209 4) + 1) + f from (by first | assumption | omega | (unfold R32 at *; omega) | (unfold R64 at *; omega) | (simp only [R32, R64] at *; omega))) hQ
          · show WV _ _ _ 89 _ _ _ _ _
            rw [if_neg h_86] at hQ
            refine r_ex 5 (pc' := 102) (lo' := [some (.inr (.inr (some 203)))]) (st' := [.inl 4, .inr (.inr (some 209)), .inl 4, .inr (.inr (some 209))]) rfl ?_
            refine r_iald2 (j := 0) (x := ((mo_numberW (v2 ((mo_numberW (mo_asks v 1510) 34791381541 1 9).2) 210 44 ((mo_numberW (mo_asks v 1510) 34791381541 1 9).1)) 7434633727 1 300).2 209 4)) (pc' := 103) (pc0 := 102) (len := 1) rfl (s_209 _) (by first | assumption | omega | (unfold R32 at *; omega) | (unfold R64 at *; omega) | (simp only [R32, R64] at *; omega)) (by decide) rfl rfl ?_
            have hb_103 : 0 ≤ ((mo_numberW (v2 ((mo_numberW (mo_asks v 1510) 34791381541 1 9).2) 210 44 ((mo_numberW (mo_asks v 1510) 34791381541 1 9).1)) 7434633727 1 300).2 209 4) ∧ ((mo_numberW (v2 ((mo_numberW (mo_asks v 1510) 34791381541 1 9).2) 210 44 ((mo_numberW (mo_asks v 1510) 34791381541 1 9).1)) 7434633727 1 300).2 209 4) ≤ 2001 := hX_91 209 4
            refine r_ex 2 (pc' := 105) (lo' := [some (.inr (.inr (some 203)))]) (st' := [.inl (((mo_numberW (v2 ((mo_numberW (mo_asks v 1510) 34791381541 1 9).2) 210 44 ((mo_numberW (mo_asks v 1510) 34791381541 1 9).1)) 7434633727 1 300).2 209 4) + 1), .inl 4, .inr (.inr (some 209))]) rfl ?_
            refine r_iast2 (pc' := 106) (pc0 := 105) (len := 1) rfl (s_209 _) (by first | assumption | omega | (unfold R32 at *; omega) | (unfold R64 at *; omega) | (simp only [R32, R64] at *; omega)) (by decide) rfl ?_
            have hX_104 : XI (v2 (v2 ((mo_numberW (v2 ((mo_numberW (mo_asks v 1510) 34791381541 1 9).2) 210 44 ((mo_numberW (mo_asks v 1510) 34791381541 1 9).1)) 7434633727 1 300).2) 210 45 ((mo_numberW (v2 ((mo_numberW (mo_asks v 1510) 34791381541 1 9).2) 210 44 ((mo_numberW (mo_asks v 1510) 34791381541 1 9).1)) 7434633727 1 300).1)) 209 4 (((mo_numberW (v2 ((mo_numberW (mo_asks v 1510) 34791381541 1 9).2) 210 44 ((mo_numberW (mo_asks v 1510) 34791381541 1 9).1)) 7434633727 1 300).2 209 4) + 1)) := XI.put hX_91 (show 0 ≤ (((mo_numberW (v2 ((mo_numberW (mo_asks v 1510) 34791381541 1 9).2) 210 44 ((mo_numberW (mo_asks v 1510) 34791381541 1 9).1)) 7434633727 1 300).2 209 4) + 1) ∧ (((mo_numberW (v2 ((mo_numberW (mo_asks v 1510) 34791381541 1 9).2) 210 44 ((mo_numberW (mo_asks v 1510) 34791381541 1 9).1)) 7434633727 1 300).2 209 4) + 1) ≤ 2001 from (by first | assumption | omega | (unfold R32 at *; omega) | (unfold R64 at *; omega) | (simp only [R32, R64] at *; omega)))
            show WV _ _ _ 106 _ _ _ (v2 (v2 ((mo_numberW (v2 ((mo_numberW (mo_asks v 1510) 34791381541 1 9).2) 210 44 ((mo_numberW (mo_asks v 1510) 34791381541 1 9).1)) 7434633727 1 300).2) 210 45 ((mo_numberW (v2 ((mo_numberW (mo_asks v 1510) 34791381541 1 9).2) 210 44 ((mo_numberW (mo_asks v 1510) 34791381541 1 9).1)) 7434633727 1 300).1)) 209 4 (((mo_numberW (v2 ((mo_numberW (mo_asks v 1510) 34791381541 1 9).2) 210 44 ((mo_numberW (mo_asks v 1510) 34791381541 1 9).1)) 7434633727 1 300).2 209 4) + 1)) _
            refine r_ex 1 (pc' := 13) (lo' := [some (.inr (.inr (some 203)))]) (st' := []) rfl ?_
            refine ih (v2 (v2 ((mo_numberW (v2 ((mo_numberW (mo_asks v 1510) 34791381541 1 9).2) 210 44 ((mo_numberW (mo_asks v 1510) 34791381541 1 9).1)) 7434633727 1 300).2) 210 45 ((mo_numberW (v2 ((mo_numberW (mo_asks v 1510) 34791381541 1 9).2) 210 44 ((mo_numberW (mo_asks v 1510) 34791381541 1 9).1)) 7434633727 1 300).1)) 209 4 (((mo_numberW (v2 ((mo_numberW (mo_asks v 1510) 34791381541 1 9).2) 210 44 ((mo_numberW (mo_asks v 1510) 34791381541 1 9).1)) 7434633727 1 300).2 209 4) + 1))   hX_104 (show ((mo_numberW (v2 ((mo_numberW (mo_asks v 1510) 34791381541 1 9).2) 210 44 ((mo_numberW (mo_asks v 1510) 34791381541 1 9).1)) 7434633727 1 300).2 203 7) ≤ ((mo_numberW (v2 ((mo_numberW (mo_asks v 1510) 34791381541 1 9).2) 210 44 ((mo_numberW (mo_asks v 1510) 34791381541 1 9).1)) 7434633727 1 300).2 203 6) ∧ (((mo_numberW (v2 ((mo_numberW (mo_asks v 1510) 34791381541 1 9).2) 210 44 ((mo_numberW (mo_asks v 1510) 34791381541 1 9).1)) 7434633727 1 300).2 203 8) = 0 ∨ ((mo_numberW (v2 ((mo_numberW (mo_asks v 1510) 34791381541 1 9).2) 210 44 ((mo_numberW (mo_asks v 1510) 34791381541 1 9).1)) 7434633727 1 300).2 203 9) < ((mo_numberW (v2 ((mo_numberW (mo_asks v 1510) 34791381541 1 9).2) 210 44 ((mo_numberW (mo_asks v 1510) 34791381541 1 9).1)) 7434633727 1 300).2 203 7)) ∧ ((mo_numberW (v2 ((mo_numberW (mo_asks v 1510) 34791381541 1 9).2) 210 44 ((mo_numberW (mo_asks v 1510) 34791381541 1 9).1)) 7434633727 1 300).2 203 9) ≤ ((mo_numberW (v2 ((mo_numberW (mo_asks v 1510) 34791381541 1 9).2) 210 44 ((mo_numberW (mo_asks v 1510) 34791381541 1 9).1)) 7434633727 1 300).2 203 7) from (by first | assumption | omega | (unfold R32 at *; omega) | (unfold R64 at *; omega) | (simp only [R32, R64] at *; omega))) (show ((mo_numberW (v2 ((mo_numberW (mo_asks v 1510) 34791381541 1 9).2) 210 44 ((mo_numberW (mo_asks v 1510) 34791381541 1 9).1)) 7434633727 1 300).2 203 12) ≠ 0 ∨ (((mo_numberW (v2 ((mo_numberW (mo_asks v 1510) 34791381541 1 9).2) 210 44 ((mo_numberW (mo_asks v 1510) 34791381541 1 9).1)) 7434633727 1 300).2 209 4) + 1) ≤ ((mo_numberW (v2 ((mo_numberW (mo_asks v 1510) 34791381541 1 9).2) 210 44 ((mo_numberW (mo_asks v 1510) 34791381541 1 9).1)) 7434633727 1 300).2 203 9) from (by first | assumption | omega | (unfold R32 at *; omega) | (unfold R64 at *; omega) | (simp only [R32, R64] at *; omega))) (show ((mo_numberW (v2 ((mo_numberW (mo_asks v 1510) 34791381541 1 9).2) 210 44 ((mo_numberW (mo_asks v 1510) 34791381541 1 9).1)) 7434633727 1 300).2 210 46) ≤ ((mo_numberW (v2 ((mo_numberW (mo_asks v 1510) 34791381541 1 9).2) 210 44 ((mo_numberW (mo_asks v 1510) 34791381541 1 9).1)) 7434633727 1 300).2 210 44) from (by first | assumption | omega | (unfold R32 at *; omega) | (unfold R64 at *; omega) | (simp only [R32, R64] at *; omega))) (show (((mo_numberW (v2 ((mo_numberW (mo_asks v 1510) 34791381541 1 9).2) 210 44 ((mo_numberW (mo_asks v 1510) 34791381541 1 9).1)) 7434633727 1 300).2 209 4) + 1) ≠ 0 ∨ ((mo_numberW (v2 ((mo_numberW (mo_asks v 1510) 34791381541 1 9).2) 210 44 ((mo_numberW (mo_asks v 1510) 34791381541 1 9).1)) 7434633727 1 300).2 210 46) = 0 from (by first | assumption | omega | (unfold R32 at *; omega) | (unfold R64 at *; omega) | (simp only [R32, R64] at *; omega))) (show CF (v2 (v2 ((mo_numberW (v2 ((mo_numberW (mo_asks v 1510) 34791381541 1 9).2) 210 44 ((mo_numberW (mo_asks v 1510) 34791381541 1 9).1)) 7434633727 1 300).2) 210 45 ((mo_numberW (v2 ((mo_numberW (mo_asks v 1510) 34791381541 1 9).2) 210 44 ((mo_numberW (mo_asks v 1510) 34791381541 1 9).1)) 7434633727 1 300).1)) 209 4 (((mo_numberW (v2 ((mo_numberW (mo_asks v 1510) 34791381541 1 9).2) 210 44 ((mo_numberW (mo_asks v 1510) 34791381541 1 9).1)) 7434633727 1 300).2 209 4) + 1)) from (show CF (v2 (v2 ((mo_numberW (v2 ((mo_numberW (mo_asks v 1510) 34791381541 1 9).2) 210 44 ((mo_numberW (mo_asks v 1510) 34791381541 1 9).1)) 7434633727 1 300).2) 210 45 ((mo_numberW (v2 ((mo_numberW (mo_asks v 1510) 34791381541 1 9).2) 210 44 ((mo_numberW (mo_asks v 1510) 34791381541 1 9).1)) 7434633727 1 300).1)) 209 4 (((mo_numberW (v2 ((mo_numberW (mo_asks v 1510) 34791381541 1 9).2) 210 44 ((mo_numberW (mo_asks v 1510) 34791381541 1 9).1)) 7434633727 1 300).2 209 4) + 1)) from CF.of hi_4 (fun k h1 h2 => by rw [v2_row (by omega), v2_row (by omega), o_mo_numberW (by omega), v2_row (by omega), o_mo_numberW (by omega), o_mo_asks (by omega)]))) (show 2001 < (((mo_numberW (v2 ((mo_numberW (mo_asks v 1510) 34791381541 1 9).2) 210 44 ((mo_numberW (mo_asks v 1510) 34791381541 1 9).1)) 7434633727 1 300).2 209 4) + 1) + f from (by first | assumption | omega | (unfold R32 at *; omega) | (unfold R64 at *; omega) | (simp only [R32, R64] at *; omega))) hQ
    · show WV _ _ _ 17 _ _ _ _ _
      rw [if_neg h_14] at hQ
      refine r_ex 2 (pc' := 110) (lo' := [some (.inr (.inr (some 203)))]) (st' := [.inr (.inr (some 203))]) rfl ?_
      refine r_call (m := 232) (args := [.inr (.inr (some 203))]) (n' := 210) (pc' := 113) (lo' := [some (.inr (.inr (some 203)))]) (st' := []) (I := .invokevirtual 232) (pc0 := 110) (len := 3) rfl rfl rfl (e_mo_isOver hX) ?_
      show WV _ _ _ 113 _ [] _ (mo_isOver v) _
      have hX_105 : XI (mo_isOver v) := i_mo_isOver (v := v) hX
      have hb_106 : (mo_isOver v) 209 4 = (v 209 4) := by rw [o_mo_isOver (by omega)] <;> rfl
      have hb_107 : (mo_isOver v) 210 44 = (v 210 44) := by rw [o_mo_isOver (by omega)] <;> rfl
      have hb_108 : (mo_isOver v) 210 46 = (v 210 46) := by rw [o_mo_isOver (by omega)] <;> rfl
      refine r_ex 2 (pc' := 117) (lo' := [some (.inr (.inr (some 203)))]) (st' := [.inl ((mo_isOver v) 203 12)]) rfl ?_
      have hb_109 : 0 ≤ ((mo_isOver v) 203 12) ∧ ((mo_isOver v) 203 12) ≤ 3 := hX_105 203 12
      refine n_if_eq (pc0 := 117) (len := 3) (t := 123) rfl (by first | assumption | omega | (unfold R32 at *; omega) | (unfold R64 at *; omega) | (simp only [R32, R64] at *; omega)) (fun h_117 => ?_) (fun h_117 => ?_)
      · show WV _ _ _ 123 _ _ _ _ _
        rw [if_pos h_117] at hQ
        refine r_ex 3 (pc' := 126) (lo' := [some (.inr (.inr (some 203)))]) (st' := [.inl 0, .inl 4, .inr (.inr (some 203))]) rfl ?_
        have hp_110 : 0 ≤ (4 : Int) ∧ (4 : Int) ≤ 4 := (by first | assumption | omega | (unfold R32 at *; omega) | (unfold R64 at *; omega) | (simp only [R32, R64] at *; omega))
        have hp_111 : 0 ≤ (0 : Int) ∧ (0 : Int) ≤ 4 := (by first | assumption | omega | (unfold R32 at *; omega) | (unfold R64 at *; omega) | (simp only [R32, R64] at *; omega))
        have hp_112 : CF (mo_isOver v) := show CF (mo_isOver v) from (show CF (mo_isOver v) from CF.of hi_4 (fun k h1 h2 => by rw [o_mo_isOver (by omega)]))
        refine r_call (m := 233) (args := [.inr (.inr (some 203)), .inl 4, .inl 0]) (n' := 210) (pc' := 129) (lo' := [some (.inr (.inr (some 203)))]) (st' := []) (I := .invokevirtual 233) (pc0 := 126) (len := 3) rfl rfl rfl (e_mo_copyBay hX_105 hp_110 hp_111 hp_112) ?_
        show WV _ _ _ 129 _ [] _ (mo_copyBay (mo_isOver v) 4 0) _
        have hX_113 : XI (mo_copyBay (mo_isOver v) 4 0) := i_mo_copyBay (v := (mo_isOver v)) (i := 4) (o := 0) hX_105 hp_110 hp_111 hp_112
        have hb_114 : (mo_copyBay (mo_isOver v) 4 0) 203 12 = ((mo_isOver v) 203 12) := by rw [o_mo_copyBay (by omega)] <;> rfl
        have hb_115 : (mo_copyBay (mo_isOver v) 4 0) 203 7 = ((mo_isOver v) 203 7) := by rw [o_mo_copyBay (by omega)] <;> rfl
        have hb_116 : (mo_copyBay (mo_isOver v) 4 0) 203 6 = ((mo_isOver v) 203 6) := by rw [o_mo_copyBay (by omega)] <;> rfl
        have hb_117 : (mo_copyBay (mo_isOver v) 4 0) 203 8 = ((mo_isOver v) 203 8) := by rw [o_mo_copyBay (by omega)] <;> rfl
        have hb_118 : (mo_copyBay (mo_isOver v) 4 0) 203 9 = ((mo_isOver v) 203 9) := by rw [o_mo_copyBay (by omega)] <;> rfl
        have hl_119 := n_mo_copyBay (v := (mo_isOver v)) (i := 4) (o := 0) hX_105 hp_110 hp_111 hp_112
        refine r_ex 3 (pc' := 134) (lo' := [some (.inr (.inr (some 203)))]) (st' := [.inl 0, .inr (.inr (some 209))]) rfl ?_
        refine r_iald2 (j := 0) (x := ((mo_copyBay (mo_isOver v) 4 0) 209 0)) (pc' := 135) (pc0 := 134) (len := 1) rfl (s_209 _) (by first | assumption | omega | (unfold R32 at *; omega) | (unfold R64 at *; omega) | (simp only [R32, R64] at *; omega)) (by decide) rfl rfl ?_
        have hb_120 : 0 ≤ ((mo_copyBay (mo_isOver v) 4 0) 209 0) ∧ ((mo_copyBay (mo_isOver v) 4 0) 209 0) ≤ 2001 := hX_113 209 0
        refine r_ret (rr := some (.inl ((mo_copyBay (mo_isOver v) 4 0) 209 0))) (I := .ireturn) (pc0 := 135) (len := 1) rfl rfl ?_
        exact hQ hX_113 (hl_119)
      · show WV _ _ _ 120 _ _ _ _ _
        rw [if_neg h_117] at hQ
        refine r_ex 1 (pc' := 122) (lo' := [some (.inr (.inr (some 203)))]) (st' := [.inl (-4)]) rfl ?_
        refine r_ret (rr := some (.inl (-4))) (I := .ireturn) (pc0 := 122) (len := 1) rfl rfl ?_
        exact hQ hX_105 (show CF (mo_isOver v) from (show CF (mo_isOver v) from CF.of hi_4 (fun k h1 h2 => by rw [o_mo_isOver (by omega)])))

theorem of_mo_bay_13 {rk : Nat} (hk : (rk < 203 ∨ 203 < rk) ∧ (rk < 209 ∨ 217 < rk)) : ∀ (f : Nat) {v : VS} , (mo_bay_13 f v ).2 rk = v rk := by
  intro f
  induction f with
  | zero => intro v ; rfl
  | succ f ih =>
    intro v 
    rw [mo_bay_13]
    by_cases hc_ : (v 203 12) = 0
    · rw [if_pos hc_] <;> clear hc_
      by_cases hc_ : (v 203 8) = 0
      · rw [if_pos hc_] <;> clear hc_
        by_cases hc_ : ((mo_isOver v) 203 12) = 0
        · rw [if_pos hc_] <;> clear hc_
          all_goals (show (mo_copyBay (mo_isOver v) 4 0) rk = _)
          all_goals (rw [o_mo_copyBay (by omega), o_mo_isOver (by omega)])
        · rw [if_neg hc_] <;> clear hc_
          all_goals (show (mo_isOver v) rk = _)
          all_goals (rw [o_mo_isOver (by omega)])
      · rw [if_neg hc_] <;> clear hc_
        by_cases hc_ : (v 209 4) = 0
        · rw [if_pos hc_] <;> clear hc_
          by_cases hc_ : ((mo_numberW (v2 ((mo_numberW (mo_asks v 1510) 34791381541 1 9).2) 210 44 ((mo_numberW (mo_asks v 1510) 34791381541 1 9).1)) 7434633727 1 300).2 203 12) = 0
          · rw [if_pos hc_] <;> clear hc_
            all_goals (rw [ih, v2_row (by omega), o_mo_ends (by omega), v2_row (by omega), o_mo_numberW (by omega), v2_row (by omega), o_mo_numberW (by omega), o_mo_asks (by omega)])
          · rw [if_neg hc_] <;> clear hc_
            all_goals (rw [ih, v2_row (by omega), v2_row (by omega), o_mo_numberW (by omega), v2_row (by omega), o_mo_numberW (by omega), o_mo_asks (by omega)])
        · rw [if_neg hc_] <;> clear hc_
          by_cases hc_ : ((mo_line v) 203 12) = 0
          · rw [if_pos hc_] <;> clear hc_
            all_goals (rw [ih, v2_row (by omega), o_mo_ends (by omega), o_mo_line (by omega)])
          · rw [if_neg hc_] <;> clear hc_
            all_goals (rw [ih, v2_row (by omega), o_mo_line (by omega)])
    · rw [if_neg hc_] <;> clear hc_
      by_cases hc_ : ((mo_isOver v) 203 12) = 0
      · rw [if_pos hc_] <;> clear hc_
        all_goals (show (mo_copyBay (mo_isOver v) 4 0) rk = _)
        all_goals (rw [o_mo_copyBay (by omega), o_mo_isOver (by omega)])
      · rw [if_neg hc_] <;> clear hc_
        all_goals (show (mo_isOver v) rk = _)
        all_goals (rw [o_mo_isOver (by omega)])
theorem o_mo_bay_13 {rk : Nat} {f : Nat} {v : VS}  (hk : (rk < 203 ∨ 203 < rk) ∧ (rk < 209 ∨ 217 < rk)) : (mo_bay_13 f v ).2 rk = v rk := of_mo_bay_13 hk f

set_option maxRecDepth 100000 in
theorem w_mo_bay {X : PX} {d b : Nat} {v : VS}  (hX : XI v) (hp_a : CF v) {Q : Option PV → Nat → VS → Prop} (hQ : XI (mo_bay v).2 → (CF ((mo_bay v).2)) → Q (some (.inl (mo_bay v).1)) b (mo_bay v).2) : WV X (d + 1 + 1 + 1 + 1 + 1 + 1 + 1) 210 0 [some (.inr (.inr (some 203)))] [] b v Q := by
  rw [mo_bay] at hQ
  have hz6 : 0 ≤ v 203 6 ∧ v 203 6 ≤ 2000 := hX 203 6
  have hz9 : 0 ≤ v 209 4 ∧ v 209 4 ≤ 2001 := hX 209 4
  refine r_ex 2 (pc' := 2) (lo' := [some (.inr (.inr (some 203)))]) (st' := [.inl 0, .inr (.inr (some 203))]) rfl ?_
  refine r_puti2 (j := 0) (pc' := 5) (pc0 := 2) (len := 3) rfl (s_203 _) rfl rfl rfl (Or.inl rfl) rfl rfl ?_
  have hX_1 : XI (v2 v 203 0 0) := XI.put hX trivial
  refine r_ex 1 (pc' := 6) (lo' := [some (.inr (.inr (some 203)))]) (st' := [.inr (.inr (some 203))]) rfl ?_
  have hp_2 : CF (v2 v 203 0 0) := show CF (v2 v 203 0 0) from (show CF (v2 v 203 0 0) from CF.of hp_a (fun k h1 h2 => by rw [v2_row (by omega)]))
  refine r_call (m := 211) (args := [.inr (.inr (some 203))]) (n' := 210) (pc' := 9) (lo' := [some (.inr (.inr (some 203)))]) (st' := []) (I := .invokevirtual 211) (pc0 := 6) (len := 3) rfl rfl rfl (e_mo_clears hX_1 hp_2) ?_
  show WV _ _ _ 9 _ [] _ (mo_clears (v2 v 203 0 0)) _
  have hX_3 : XI (mo_clears (v2 v 203 0 0)) := i_mo_clears (v := (v2 v 203 0 0)) hX_1 hp_2
  have hb_4 : (mo_clears (v2 v 203 0 0)) 203 12 = (v 203 12) := by rw [o_mo_clears (by omega)] <;> rfl
  have hb_5 : (mo_clears (v2 v 203 0 0)) 203 7 = (v 203 7) := by rw [o_mo_clears (by omega)] <;> rfl
  have hb_6 : (mo_clears (v2 v 203 0 0)) 203 6 = (v 203 6) := by rw [o_mo_clears (by omega)] <;> rfl
  have hb_7 : (mo_clears (v2 v 203 0 0)) 203 8 = (v 203 8) := by rw [o_mo_clears (by omega)] <;> rfl
  have hb_8 : (mo_clears (v2 v 203 0 0)) 203 9 = (v 203 9) := by rw [o_mo_clears (by omega)] <;> rfl
  have hl_9 := n0_mo_clears (v := (v2 v 203 0 0)) hX_1 hp_2
  have hb_10 : ((mo_clears (v2 v 203 0 0)) 209 4) = 0 := n1_mo_clears (v := (v2 v 203 0 0)) hX_1 hp_2
  have hb_11 : ((mo_clears (v2 v 203 0 0)) 210 46) = 0 := n2_mo_clears (v := (v2 v 203 0 0)) hX_1 hp_2
  have hb_12 : ((mo_clears (v2 v 203 0 0)) 210 44) = 0 := n3_mo_clears (v := (v2 v 203 0 0)) hX_1 hp_2
  refine r_ex 1 (pc' := 10) (lo' := [some (.inr (.inr (some 203)))]) (st' := [.inr (.inr (some 203))]) rfl ?_
  refine r_call (m := 212) (args := [.inr (.inr (some 203))]) (n' := 210) (pc' := 13) (lo' := [some (.inr (.inr (some 203)))]) (st' := []) (I := .invokevirtual 212) (pc0 := 10) (len := 3) rfl rfl rfl (e_mo_begins hX_3) ?_
  show WV _ _ _ 13 _ [] _ (mo_begins (mo_clears (v2 v 203 0 0))) _
  have hX_13 : XI (mo_begins (mo_clears (v2 v 203 0 0))) := i_mo_begins (v := (mo_clears (v2 v 203 0 0))) hX_3
  have hb_14 : (mo_begins (mo_clears (v2 v 203 0 0))) 209 4 = ((mo_clears (v2 v 203 0 0)) 209 4) := by rw [o_mo_begins (by omega)] <;> rfl
  have hb_15 : (mo_begins (mo_clears (v2 v 203 0 0))) 210 44 = ((mo_clears (v2 v 203 0 0)) 210 44) := by rw [o_mo_begins (by omega)] <;> rfl
  have hb_16 : (mo_begins (mo_clears (v2 v 203 0 0))) 210 46 = ((mo_clears (v2 v 203 0 0)) 210 46) := by rw [o_mo_begins (by omega)] <;> rfl
  have hb_17 : ((mo_begins (mo_clears (v2 v 203 0 0))) 203 7) ≤ ((mo_begins (mo_clears (v2 v 203 0 0))) 203 6) ∧ (((mo_begins (mo_clears (v2 v 203 0 0))) 203 8) = 0 ∨ ((mo_begins (mo_clears (v2 v 203 0 0))) 203 9) < ((mo_begins (mo_clears (v2 v 203 0 0))) 203 7)) ∧ ((mo_begins (mo_clears (v2 v 203 0 0))) 203 9) ≤ ((mo_begins (mo_clears (v2 v 203 0 0))) 203 7) := n0_mo_begins (v := (mo_clears (v2 v 203 0 0))) hX_3
  have hb_18 : ((mo_begins (mo_clears (v2 v 203 0 0))) 203 12) = 0 := n1_mo_begins (v := (mo_clears (v2 v 203 0 0))) hX_3
  have hz9_ : 0 ≤ (mo_begins (mo_clears (v2 v 203 0 0))) 203 9 ∧ (mo_begins (mo_clears (v2 v 203 0 0))) 203 9 ≤ 2000 := hX_13 203 9
  exact l_mo_bay_13 2002 (mo_begins (mo_clears (v2 v 203 0 0)))   hX_13 (show ((mo_begins (mo_clears (v2 v 203 0 0))) 203 7) ≤ ((mo_begins (mo_clears (v2 v 203 0 0))) 203 6) ∧ (((mo_begins (mo_clears (v2 v 203 0 0))) 203 8) = 0 ∨ ((mo_begins (mo_clears (v2 v 203 0 0))) 203 9) < ((mo_begins (mo_clears (v2 v 203 0 0))) 203 7)) ∧ ((mo_begins (mo_clears (v2 v 203 0 0))) 203 9) ≤ ((mo_begins (mo_clears (v2 v 203 0 0))) 203 7) from (by first | assumption | omega | (unfold R32 at *; omega) | (unfold R64 at *; omega) | (simp only [R32, R64] at *; omega))) (show ((mo_begins (mo_clears (v2 v 203 0 0))) 203 12) ≠ 0 ∨ ((mo_begins (mo_clears (v2 v 203 0 0))) 209 4) ≤ ((mo_begins (mo_clears (v2 v 203 0 0))) 203 9) from (by first | assumption | omega | (unfold R32 at *; omega) | (unfold R64 at *; omega) | (simp only [R32, R64] at *; omega))) (show ((mo_begins (mo_clears (v2 v 203 0 0))) 210 46) ≤ ((mo_begins (mo_clears (v2 v 203 0 0))) 210 44) from (by first | assumption | omega | (unfold R32 at *; omega) | (unfold R64 at *; omega) | (simp only [R32, R64] at *; omega))) (show ((mo_begins (mo_clears (v2 v 203 0 0))) 209 4) ≠ 0 ∨ ((mo_begins (mo_clears (v2 v 203 0 0))) 210 46) = 0 from (by first | assumption | omega | (unfold R32 at *; omega) | (unfold R64 at *; omega) | (simp only [R32, R64] at *; omega))) (show CF (mo_begins (mo_clears (v2 v 203 0 0))) from (show CF (mo_begins (mo_clears (v2 v 203 0 0))) from CF.of hl_9 (fun k h1 h2 => by rw [o_mo_begins (by omega)]))) (show 2001 < ((mo_begins (mo_clears (v2 v 203 0 0))) 209 4) + (2002 : Nat) from (by first | assumption | omega | (unfold R32 at *; omega) | (unfold R64 at *; omega) | (simp only [R32, R64] at *; omega))) hQ

theorem e_mo_bay {X : PX} {d b : Nat} {v : VS}  (hX : XI v) (hp_a : CF v) : EvV X (d + 1 + 1 + 1 + 1 + 1 + 1 + 1) 210 [.inr (.inr (some 203))] b v (some (.inl (mo_bay v).1)) b ((mo_bay v).2) := EvV.of (w_mo_bay hX hp_a (fun _ _ => ⟨rfl, rfl, rfl⟩))

theorem i_mo_bay {v : VS}  (hX : XI v) (hp_a : CF v) : XI ((mo_bay v).2) := by
  have q : WV (0, fun _ => 0, none) (0 + 1 + 1 + 1 + 1 + 1 + 1 + 1) 210 0 [some (.inr (.inr (some 203)))] [] 1 v (fun _ _ _ => XI ((mo_bay v).2)) := w_mo_bay (X := (0, fun _ => 0, none)) (d := 0) (b := 1) hX hp_a (fun q _ => q)
  obtain ⟨_, _, _, _, _, _, _, q⟩ := q
  exact q

theorem n_mo_bay {v : VS}  (hX : XI v) (hp_a : CF v) : CF ((mo_bay v).2) := by
  have q : WV (0, fun _ => 0, none) (0 + 1 + 1 + 1 + 1 + 1 + 1 + 1) 210 0 [some (.inr (.inr (some 203)))] [] 1 v (fun _ _ _ => CF ((mo_bay v).2)) := w_mo_bay (X := (0, fun _ => 0, none)) (d := 0) (b := 1) hX hp_a (fun _ q => q)
  obtain ⟨_, _, _, _, _, _, _, q⟩ := q
  exact q

theorem o_mo_bay {rk : Nat} {v : VS}  (hk : (rk < 203 ∨ 203 < rk) ∧ (rk < 209 ∨ 217 < rk)) : (mo_bay v ).2 rk = v rk := by
  unfold mo_bay
  all_goals (rw [o_mo_bay_13 (by omega), o_mo_begins (by omega), o_mo_clears (by omega), v2_row (by omega)])
