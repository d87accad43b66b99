/-! the reader: lines -/
def cl_number (v : VS) (l : Int) (g : Int) : Int × VS :=
  (if (v 2 1) = 0 then (if (v 2 5) = 2 then (if (v 2 8) < l then (l, (cl_fail v 2)) else (if g < (v 2 8) then (l, (cl_fail v 2)) else ((v 2 8), (cl_advance v)))) else (l, (cl_fail v 1))) else (l, v))
theorem w_cl_number {X : PX} {d : Nat} {v : VS} {l : Int} {g : Int} (hX : XI v) (hp_a : 0 ≤ l ∧ l ≤ 300) (hp_b : -1 ≤ g ∧ g ≤ 300) (hp_c : (v 2 7) ≤ (v 2 4)) {Q : Option PV → Nat → VS → Prop} (hQ : XI (cl_number v l g).2 → (l ≤ (cl_number v l g).1 ∧ ((cl_number v l g).1 ≤ g ∨ (cl_number v l g).1 = l)) → (((cl_number v l g).2 2 7) ≤ ((cl_number v l g).2 2 4)) → Q (some (.inl (cl_number v l g).1)) 1 (cl_number v l g).2) : WV X (d + 1 + 1) 40 0 [some (.inr (.inr (some 2))), some (.inl l), some (.inl g), none] [] 1 v Q := by
  rw [cl_number] at hQ
  refine r_ex 2 (pc' := 4) (lo' := [some (.inr (.inr (some 2))), some (.inl l), some (.inl g), none]) (st' := [.inl (v 2 1)]) rfl ?_
  have hb_1 : 0 ≤ (v 2 1) ∧ (v 2 1) ≤ 3 := hX 2 1
  refine n_if_eq (pc0 := 4) (len := 3) (t := 9) rfl (by first | assumption | omega | (unfold R32 at *; omega) | (unfold R64 at *; omega) | (simp only [R32, R64] at *; omega)) (fun h_4 => ?_) (fun h_4 => ?_)
  · show WV _ _ _ 9 _ _ _ _ _
    rw [if_pos h_4] at hQ
    refine r_ex 3 (pc' := 14) (lo' := [some (.inr (.inr (some 2))), some (.inl l), some (.inl g), none]) (st' := [.inl 2, .inl (v 2 5)]) rfl ?_
    have hb_2 : 0 ≤ (v 2 5) ∧ (v 2 5) ≤ 4 := hX 2 5
    refine n_ic_eq (pc0 := 14) (len := 3) (t := 24) rfl (by first | assumption | omega | (unfold R32 at *; omega) | (unfold R64 at *; omega) | (simp only [R32, R64] at *; omega)) (by first | assumption | omega | (unfold R32 at *; omega) | (unfold R64 at *; omega) | (simp only [R32, R64] at *; omega)) (fun h_14 => ?_) (fun h_14 => ?_)
    · show WV _ _ _ 24 _ _ _ _ _
      rw [if_pos h_14] at hQ
      refine r_ex 3 (pc' := 29) (lo' := [some (.inr (.inr (some 2))), some (.inl l), some (.inl g), none]) (st' := [.inl l, .inl (v 2 8)]) rfl ?_
      have hb_3 : 0 ≤ (v 2 8) ∧ (v 2 8) ≤ 1000000 := hX 2 8
      refine n_ic_lt (pc0 := 29) (len := 3) (t := 40) rfl (by first | assumption | omega | (unfold R32 at *; omega) | (unfold R64 at *; omega) | (simp only [R32, R64] at *; omega)) (by first | assumption | omega | (unfold R32 at *; omega) | (unfold R64 at *; omega) | (simp only [R32, R64] at *; omega)) (fun h_29 => ?_) (fun h_29 => ?_)
      · show WV _ _ _ 40 _ _ _ _ _
        rw [if_pos h_29] at hQ
        refine r_ex 2 (pc' := 42) (lo' := [some (.inr (.inr (some 2))), some (.inl l), some (.inl g), none]) (st' := [.inl 2, .inr (.inr (some 2))]) rfl ?_
        have hp_4 : 1 ≤ (2 : Int) ∧ (2 : Int) ≤ 3 := (by first | assumption | omega | (unfold R32 at *; omega) | (unfold R64 at *; omega) | (simp only [R32, R64] at *; omega))
        have hp_5 : (v 2 7) ≤ (v 2 4) := (show (v 2 7) ≤ (v 2 4) from (by first | assumption | omega | (unfold R32 at *; omega) | (unfold R64 at *; omega) | (simp only [R32, R64] at *; omega)))
        refine r_call (m := 39) (args := [.inr (.inr (some 2)), .inl 2]) (n' := 40) (pc' := 45) (lo' := [some (.inr (.inr (some 2))), some (.inl l), some (.inl g), none]) (st' := []) (I := .invokevirtual 39) (pc0 := 42) (len := 3) rfl rfl rfl (e_cl_fail hX hp_4 hp_5) ?_
        show WV _ _ _ 45 _ [] _ (cl_fail v 2) _
        have hX_6 : XI (cl_fail v 2) := i_cl_fail (v := v) (k := 2) hX hp_4 hp_5
        have hb_7 : ((cl_fail v 2) 2 7) ≤ ((cl_fail v 2) 2 4) := n_cl_fail (v := v) (k := 2) hX hp_4 hp_5
        refine r_ex 1 (pc' := 46) (lo' := [some (.inr (.inr (some 2))), some (.inl l), some (.inl g), none]) (st' := [.inl l]) rfl ?_
        refine r_ret (rr := some (.inl l)) (I := .ireturn) (pc0 := 46) (len := 1) rfl rfl ?_
        exact hQ hX_6 (by first | assumption | omega | (unfold R32 at *; omega) | (unfold R64 at *; omega) | (simp only [R32, R64] at *; omega)) (show ((cl_fail v 2) 2 7) ≤ ((cl_fail v 2) 2 4) from (by first | assumption | omega | (unfold R32 at *; omega) | (unfold R64 at *; omega) | (simp only [R32, R64] at *; omega)))
      · show WV _ _ _ 32 _ _ _ _ _
        rw [if_neg h_29] at hQ
        refine r_ex 3 (pc' := 37) (lo' := [some (.inr (.inr (some 2))), some (.inl l), some (.inl g), none]) (st' := [.inl g, .inl (v 2 8)]) rfl ?_
        refine n_ic_le (pc0 := 37) (len := 3) (t := 47) rfl (by first | assumption | omega | (unfold R32 at *; omega) | (unfold R64 at *; omega) | (simp only [R32, R64] at *; omega)) (by first | assumption | omega | (unfold R32 at *; omega) | (unfold R64 at *; omega) | (simp only [R32, R64] at *; omega)) (fun h_37 => ?_) (fun h_37 => ?_)
        · show WV _ _ _ 47 _ _ _ _ _
          rw [if_neg h_37] at hQ
          refine r_ex 4 (pc' := 53) (lo' := [some (.inr (.inr (some 2))), some (.inl l), some (.inl g), some (.inl (v 2 8))]) (st' := [.inr (.inr (some 2))]) rfl ?_
          have hp_8 : (v 2 7) ≤ (v 2 4) := (show (v 2 7) ≤ (v 2 4) from (by first | assumption | omega | (unfold R32 at *; omega) | (unfold R64 at *; omega) | (simp only [R32, R64] at *; omega)))
          refine r_call (m := 21) (args := [.inr (.inr (some 2))]) (n' := 40) (pc' := 56) (lo' := [some (.inr (.inr (some 2))), some (.inl l), some (.inl g), some (.inl (v 2 8))]) (st' := []) (I := .invokevirtual 21) (pc0 := 53) (len := 3) rfl rfl rfl (e_cl_advance hX hp_8) ?_
          show WV _ _ _ 56 _ [] _ (cl_advance v) _
          have hX_9 : XI (cl_advance v) := i_cl_advance (v := v) hX hp_8
          have hb_10 : ((cl_advance v) 2 7) ≤ ((cl_advance v) 2 4) := n_cl_advance (v := v) hX hp_8
          refine r_ex 1 (pc' := 57) (lo' := [some (.inr (.inr (some 2))), some (.inl l), some (.inl g), some (.inl (v 2 8))]) (st' := [.inl (v 2 8)]) rfl ?_
          refine r_ret (rr := some (.inl (v 2 8))) (I := .ireturn) (pc0 := 57) (len := 1) rfl rfl ?_
          exact hQ hX_9 (by first | assumption | omega | (unfold R32 at *; omega) | (unfold R64 at *; omega) | (simp only [R32, R64] at *; omega)) (show ((cl_advance v) 2 7) ≤ ((cl_advance v) 2 4) from (by first | assumption | omega | (unfold R32 at *; omega) | (unfold R64 at *; omega) | (simp only [R32, R64] at *; omega)))
        · show WV _ _ _ 40 _ _ _ _ _
          rw [if_pos h_37] at hQ
          refine r_ex 2 (pc' := 42) (lo' := [some (.inr (.inr (some 2))), some (.inl l), some (.inl g), none]) (st' := [.inl 2, .inr (.inr (some 2))]) rfl ?_
          have hp_11 : 1 ≤ (2 : Int) ∧ (2 : Int) ≤ 3 := (by first | assumption | omega | (unfold R32 at *; omega) | (unfold R64 at *; omega) | (simp only [R32, R64] at *; omega))
          have hp_12 : (v 2 7) ≤ (v 2 4) := (show (v 2 7) ≤ (v 2 4) from (by first | assumption | omega | (unfold R32 at *; omega) | (unfold R64 at *; omega) | (simp only [R32, R64] at *; omega)))
          refine r_call (m := 39) (args := [.inr (.inr (some 2)), .inl 2]) (n' := 40) (pc' := 45) (lo' := [some (.inr (.inr (some 2))), some (.inl l), some (.inl g), none]) (st' := []) (I := .invokevirtual 39) (pc0 := 42) (len := 3) rfl rfl rfl (e_cl_fail hX hp_11 hp_12) ?_
          show WV _ _ _ 45 _ [] _ (cl_fail v 2) _
          have hX_13 : XI (cl_fail v 2) := i_cl_fail (v := v) (k := 2) hX hp_11 hp_12
          have hb_14 : ((cl_fail v 2) 2 7) ≤ ((cl_fail v 2) 2 4) := n_cl_fail (v := v) (k := 2) hX hp_11 hp_12
          refine r_ex 1 (pc' := 46) (lo' := [some (.inr (.inr (some 2))), some (.inl l), some (.inl g), none]) (st' := [.inl l]) rfl ?_
          refine r_ret (rr := some (.inl l)) (I := .ireturn) (pc0 := 46) (len := 1) rfl rfl ?_
          exact hQ hX_13 (by first | assumption | omega | (unfold R32 at *; omega) | (unfold R64 at *; omega) | (simp only [R32, R64] at *; omega)) (show ((cl_fail v 2) 2 7) ≤ ((cl_fail v 2) 2 4) from (by first | assumption | omega | (unfold R32 at *; omega) | (unfold R64 at *; omega) | (simp only [R32, R64] at *; omega)))
    · show WV _ _ _ 17 _ _ _ _ _
      rw [if_neg h_14] at hQ
      refine r_ex 2 (pc' := 19) (lo' := [some (.inr (.inr (some 2))), some (.inl l), some (.inl g), none]) (st' := [.inl 1, .inr (.inr (some 2))]) rfl ?_
      have hp_15 : 1 ≤ (1 : Int) ∧ (1 : Int) ≤ 3 := (by first | assumption | omega | (unfold R32 at *; omega) | (unfold R64 at *; omega) | (simp only [R32, R64] at *; omega))
      have hp_16 : (v 2 7) ≤ (v 2 4) := (show (v 2 7) ≤ (v 2 4) from (by first | assumption | omega | (unfold R32 at *; omega) | (unfold R64 at *; omega) | (simp only [R32, R64] at *; omega)))
      refine r_call (m := 39) (args := [.inr (.inr (some 2)), .inl 1]) (n' := 40) (pc' := 22) (lo' := [some (.inr (.inr (some 2))), some (.inl l), some (.inl g), none]) (st' := []) (I := .invokevirtual 39) (pc0 := 19) (len := 3) rfl rfl rfl (e_cl_fail hX hp_15 hp_16) ?_
      show WV _ _ _ 22 _ [] _ (cl_fail v 1) _
      have hX_17 : XI (cl_fail v 1) := i_cl_fail (v := v) (k := 1) hX hp_15 hp_16
      have hb_18 : ((cl_fail v 1) 2 7) ≤ ((cl_fail v 1) 2 4) := n_cl_fail (v := v) (k := 1) hX hp_15 hp_16
      refine r_ex 1 (pc' := 23) (lo' := [some (.inr (.inr (some 2))), some (.inl l), some (.inl g), none]) (st' := [.inl l]) rfl ?_
      refine r_ret (rr := some (.inl l)) (I := .ireturn) (pc0 := 23) (len := 1) rfl rfl ?_
      exact hQ hX_17 (by first | assumption | omega | (unfold R32 at *; omega) | (unfold R64 at *; omega) | (simp only [R32, R64] at *; omega)) (show ((cl_fail v 1) 2 7) ≤ ((cl_fail v 1) 2 4) from (by first | assumption | omega | (unfold R32 at *; omega) | (unfold R64 at *; omega) | (simp only [R32, R64] at *; omega)))
  · show WV _ _ _ 7 _ _ _ _ _
    rw [if_neg h_4] at hQ
    refine r_ex 1 (pc' := 8) (lo' := [some (.inr (.inr (some 2))), some (.inl l), some (.inl g), none]) (st' := [.inl l]) rfl ?_
    refine r_ret (rr := some (.inl l)) (I := .ireturn) (pc0 := 8) (len := 1) rfl rfl ?_
    exact hQ hX (by first | assumption | omega | (unfold R32 at *; omega) | (unfold R64 at *; omega) | (simp only [R32, R64] at *; omega)) (show (v 2 7) ≤ (v 2 4) from (by first | assumption | omega | (unfold R32 at *; omega) | (unfold R64 at *; omega) | (simp only [R32, R64] at *; omega)))

theorem e_cl_number {X : PX} {d : Nat} {v : VS} {l : Int} {g : Int} (hX : XI v) (hp_a : 0 ≤ l ∧ l ≤ 300) (hp_b : -1 ≤ g ∧ g ≤ 300) (hp_c : (v 2 7) ≤ (v 2 4)) : EvV X (d + 1 + 1) 40 [.inr (.inr (some 2)), .inl l, .inl g] 1 v (some (.inl (cl_number v l g).1)) 1 ((cl_number v l g).2) := EvV.of (w_cl_number hX hp_a hp_b hp_c (fun _ _ _ => ⟨rfl, rfl, rfl⟩))

theorem i_cl_number {v : VS} {l : Int} {g : Int} (hX : XI v) (hp_a : 0 ≤ l ∧ l ≤ 300) (hp_b : -1 ≤ g ∧ g ≤ 300) (hp_c : (v 2 7) ≤ (v 2 4)) : XI ((cl_number v l g).2) := by
  have q : WV (0, fun _ => 0, none) (0 + 1 + 1) 40 0 [some (.inr (.inr (some 2))), some (.inl l), some (.inl g), none] [] 1 v (fun _ _ _ => XI ((cl_number v l g).2)) := w_cl_number (X := (0, fun _ => 0, none)) (d := 0) hX hp_a hp_b hp_c (fun q _ _ => q)
  obtain ⟨_, _, _, _, _, _, _, q⟩ := q
  exact q

theorem n0_cl_number {v : VS} {l : Int} {g : Int} (hX : XI v) (hp_a : 0 ≤ l ∧ l ≤ 300) (hp_b : -1 ≤ g ∧ g ≤ 300) (hp_c : (v 2 7) ≤ (v 2 4)) : l ≤ (cl_number v l g).1 ∧ ((cl_number v l g).1 ≤ g ∨ (cl_number v l g).1 = l) := by
  have q : WV (0, fun _ => 0, none) (0 + 1 + 1) 40 0 [some (.inr (.inr (some 2))), some (.inl l), some (.inl g), none] [] 1 v (fun _ _ _ => l ≤ (cl_number v l g).1 ∧ ((cl_number v l g).1 ≤ g ∨ (cl_number v l g).1 = l)) := w_cl_number (X := (0, fun _ => 0, none)) (d := 0) hX hp_a hp_b hp_c (fun _ q _ => q)
  obtain ⟨_, _, _, _, _, _, _, q⟩ := q
  exact q

theorem n1_cl_number {v : VS} {l : Int} {g : Int} (hX : XI v) (hp_a : 0 ≤ l ∧ l ≤ 300) (hp_b : -1 ≤ g ∧ g ≤ 300) (hp_c : (v 2 7) ≤ (v 2 4)) : ((cl_number v l g).2 2 7) ≤ ((cl_number v l g).2 2 4) := by
  have q : WV (0, fun _ => 0, none) (0 + 1 + 1) 40 0 [some (.inr (.inr (some 2))), some (.inl l), some (.inl g), none] [] 1 v (fun _ _ _ => ((cl_number v l g).2 2 7) ≤ ((cl_number v l g).2 2 4)) := w_cl_number (X := (0, fun _ => 0, none)) (d := 0) hX hp_a hp_b hp_c (fun _ _ q => q)
  obtain ⟨_, _, _, _, _, _, _, q⟩ := q
  exact q

theorem o_cl_number {rk : Nat} {v : VS} {l : Int} {g : Int} (hk : (rk < 2 ∨ 2 < rk)) : (cl_number v l g).2 rk = v rk := by
  unfold cl_number
  by_cases hc_ : (v 2 1) = 0
  · rw [if_pos hc_]
    by_cases hc_ : (v 2 5) = 2
    · rw [if_pos hc_]
      by_cases hc_ : (v 2 8) < l
      · rw [if_pos hc_]
        all_goals (show (cl_fail v 2) rk = _)
        all_goals (rw [o_cl_fail (by omega)])
      · rw [if_neg hc_]
        by_cases hc_ : g < (v 2 8)
        · rw [if_pos hc_]
          all_goals (show (cl_fail v 2) rk = _)
          all_goals (rw [o_cl_fail (by omega)])
        · rw [if_neg hc_]
          all_goals (show (cl_advance v) rk = _)
          all_goals (rw [o_cl_advance (by omega)])
    · rw [if_neg hc_]
      all_goals (show (cl_fail v 1) rk = _)
      all_goals (rw [o_cl_fail (by omega)])
  · rw [if_neg hc_]
    all_goals (show v rk = _)
    all_goals rfl

def cl_stop (v : VS)  : VS :=
  (if (v 2 1) = 0 then (if (v 2 5) = 3 then (cl_advance v) else (cl_fail v 1)) else (cl_fail v 1))
theorem w_cl_stop {X : PX} {d : Nat} {v : VS}  (hX : XI v) (hp_a : (v 2 7) ≤ (v 2 4)) {Q : Option PV → Nat → VS → Prop} (hQ : XI (cl_stop v) → (((cl_stop v) 2 7) ≤ ((cl_stop v) 2 4)) → Q none 1 (cl_stop v)) : WV X (d + 1 + 1) 41 0 [some (.inr (.inr (some 2)))] [] 1 v Q := by
  rw [cl_stop] at hQ
  refine r_ex 2 (pc' := 4) (lo' := [some (.inr (.inr (some 2)))]) (st' := [.inl (v 2 1)]) rfl ?_
  have hb_1 : 0 ≤ (v 2 1) ∧ (v 2 1) ≤ 3 := hX 2 1
  refine n_if_ne (pc0 := 4) (len := 3) (t := 22) rfl (by first | assumption | omega | (unfold R32 at *; omega) | (unfold R64 at *; omega) | (simp only [R32, R64] at *; omega)) (fun h_4 => ?_) (fun h_4 => ?_)
  · show WV _ _ _ 22 _ _ _ _ _
    rw [if_neg h_4] at hQ
    refine r_ex 2 (pc' := 24) (lo' := [some (.inr (.inr (some 2)))]) (st' := [.inl 1, .inr (.inr (some 2))]) rfl ?_
    have hp_2 : 1 ≤ (1 : Int) ∧ (1 : Int) ≤ 3 := (by first | assumption | omega | (unfold R32 at *; omega) | (unfold R64 at *; omega) | (simp only [R32, R64] at *; omega))
    have hp_3 : (v 2 7) ≤ (v 2 4) := (show (v 2 7) ≤ (v 2 4) from (by first | assumption | omega | (unfold R32 at *; omega) | (unfold R64 at *; omega) | (simp only [R32, R64] at *; omega)))
    refine r_call (m := 39) (args := [.inr (.inr (some 2)), .inl 1]) (n' := 41) (pc' := 27) (lo' := [some (.inr (.inr (some 2)))]) (st' := []) (I := .invokevirtual 39) (pc0 := 24) (len := 3) rfl rfl rfl (e_cl_fail hX hp_2 hp_3) ?_
    show WV _ _ _ 27 _ [] _ (cl_fail v 1) _
    have hX_4 : XI (cl_fail v 1) := i_cl_fail (v := v) (k := 1) hX hp_2 hp_3
    have hb_5 : ((cl_fail v 1) 2 7) ≤ ((cl_fail v 1) 2 4) := n_cl_fail (v := v) (k := 1) hX hp_2 hp_3
    refine r_ret (rr := none) (I := .return_) (pc0 := 27) (len := 1) rfl rfl ?_
    exact hQ hX_4 (show ((cl_fail v 1) 2 7) ≤ ((cl_fail v 1) 2 4) from (by first | assumption | omega | (unfold R32 at *; omega) | (unfold R64 at *; omega) | (simp only [R32, R64] at *; omega)))
  · show WV _ _ _ 7 _ _ _ _ _
    rw [if_pos h_4] at hQ
    refine r_ex 3 (pc' := 12) (lo' := [some (.inr (.inr (some 2)))]) (st' := [.inl 3, .inl (v 2 5)]) rfl ?_
    have hb_6 : 0 ≤ (v 2 5) ∧ (v 2 5) ≤ 4 := hX 2 5
    refine n_ic_ne (pc0 := 12) (len := 3) (t := 22) rfl (by first | assumption | omega | (unfold R32 at *; omega) | (unfold R64 at *; omega) | (simp only [R32, R64] at *; omega)) (by first | assumption | omega | (unfold R32 at *; omega) | (unfold R64 at *; omega) | (simp only [R32, R64] at *; omega)) (fun h_12 => ?_) (fun h_12 => ?_)
    · show WV _ _ _ 22 _ _ _ _ _
      rw [if_neg h_12] at hQ
      refine r_ex 2 (pc' := 24) (lo' := [some (.inr (.inr (some 2)))]) (st' := [.inl 1, .inr (.inr (some 2))]) rfl ?_
      have hp_7 : 1 ≤ (1 : Int) ∧ (1 : Int) ≤ 3 := (by first | assumption | omega | (unfold R32 at *; omega) | (unfold R64 at *; omega) | (simp only [R32, R64] at *; omega))
      have hp_8 : (v 2 7) ≤ (v 2 4) := (show (v 2 7) ≤ (v 2 4) from (by first | assumption | omega | (unfold R32 at *; omega) | (unfold R64 at *; omega) | (simp only [R32, R64] at *; omega)))
      refine r_call (m := 39) (args := [.inr (.inr (some 2)), .inl 1]) (n' := 41) (pc' := 27) (lo' := [some (.inr (.inr (some 2)))]) (st' := []) (I := .invokevirtual 39) (pc0 := 24) (len := 3) rfl rfl rfl (e_cl_fail hX hp_7 hp_8) ?_
      show WV _ _ _ 27 _ [] _ (cl_fail v 1) _
      have hX_9 : XI (cl_fail v 1) := i_cl_fail (v := v) (k := 1) hX hp_7 hp_8
      have hb_10 : ((cl_fail v 1) 2 7) ≤ ((cl_fail v 1) 2 4) := n_cl_fail (v := v) (k := 1) hX hp_7 hp_8
      refine r_ret (rr := none) (I := .return_) (pc0 := 27) (len := 1) rfl rfl ?_
      exact hQ hX_9 (show ((cl_fail v 1) 2 7) ≤ ((cl_fail v 1) 2 4) from (by first | assumption | omega | (unfold R32 at *; omega) | (unfold R64 at *; omega) | (simp only [R32, R64] at *; omega)))
    · show WV _ _ _ 15 _ _ _ _ _
      rw [if_pos h_12] at hQ
      refine r_ex 1 (pc' := 16) (lo' := [some (.inr (.inr (some 2)))]) (st' := [.inr (.inr (some 2))]) rfl ?_
      have hp_11 : (v 2 7) ≤ (v 2 4) := (show (v 2 7) ≤ (v 2 4) from (by first | assumption | omega | (unfold R32 at *; omega) | (unfold R64 at *; omega) | (simp only [R32, R64] at *; omega)))
      refine r_call (m := 21) (args := [.inr (.inr (some 2))]) (n' := 41) (pc' := 19) (lo' := [some (.inr (.inr (some 2)))]) (st' := []) (I := .invokevirtual 21) (pc0 := 16) (len := 3) rfl rfl rfl (e_cl_advance hX hp_11) ?_
      show WV _ _ _ 19 _ [] _ (cl_advance v) _
      have hX_12 : XI (cl_advance v) := i_cl_advance (v := v) hX hp_11
      have hb_13 : ((cl_advance v) 2 7) ≤ ((cl_advance v) 2 4) := n_cl_advance (v := v) hX hp_11
      refine r_ex 1 (pc' := 27) (lo' := [some (.inr (.inr (some 2)))]) (st' := []) rfl ?_
      refine r_ret (rr := none) (I := .return_) (pc0 := 27) (len := 1) rfl rfl ?_
      exact hQ hX_12 (show ((cl_advance v) 2 7) ≤ ((cl_advance v) 2 4) from (by first | assumption | omega | (unfold R32 at *; omega) | (unfold R64 at *; omega) | (simp only [R32, R64] at *; omega)))

theorem e_cl_stop {X : PX} {d : Nat} {v : VS}  (hX : XI v) (hp_a : (v 2 7) ≤ (v 2 4)) : EvV X (d + 1 + 1) 41 [.inr (.inr (some 2))] 1 v none 1 (cl_stop v) := EvV.of (w_cl_stop hX hp_a (fun _ _ => ⟨rfl, rfl, rfl⟩))

theorem i_cl_stop {v : VS}  (hX : XI v) (hp_a : (v 2 7) ≤ (v 2 4)) : XI (cl_stop v) := by
  have q : WV (0, fun _ => 0, none) (0 + 1 + 1) 41 0 [some (.inr (.inr (some 2)))] [] 1 v (fun _ _ _ => XI (cl_stop v)) := w_cl_stop (X := (0, fun _ => 0, none)) (d := 0) hX hp_a (fun q _ => q)
  obtain ⟨_, _, _, _, _, _, _, q⟩ := q
  exact q

theorem n_cl_stop {v : VS}  (hX : XI v) (hp_a : (v 2 7) ≤ (v 2 4)) : ((cl_stop v) 2 7) ≤ ((cl_stop v) 2 4) := by
  have q : WV (0, fun _ => 0, none) (0 + 1 + 1) 41 0 [some (.inr (.inr (some 2)))] [] 1 v (fun _ _ _ => ((cl_stop v) 2 7) ≤ ((cl_stop v) 2 4)) := w_cl_stop (X := (0, fun _ => 0, none)) (d := 0) hX hp_a (fun _ q => q)
  obtain ⟨_, _, _, _, _, _, _, q⟩ := q
  exact q

theorem o_cl_stop {rk : Nat} {v : VS}  (hk : (rk < 2 ∨ 2 < rk)) : (cl_stop v ) rk = v rk := by
  unfold cl_stop
  by_cases hc_ : (v 2 1) = 0
  · rw [if_pos hc_]
    by_cases hc_ : (v 2 5) = 3
    · rw [if_pos hc_]
      all_goals (show (cl_advance v) rk = _)
      all_goals (rw [o_cl_advance (by omega)])
    · rw [if_neg hc_]
      all_goals (show (cl_fail v 1) rk = _)
      all_goals (rw [o_cl_fail (by omega)])
  · rw [if_neg hc_]
    all_goals (show (cl_fail v 1) rk = _)
    all_goals (rw [o_cl_fail (by omega)])

def cl_beginLine (v : VS) (n : Int) (s : Int) : VS :=
  (if n < s then (cl_advance v) else (cl_fail v 3))
theorem w_cl_beginLine {X : PX} {d : Nat} {v : VS} {n : Int} {s : Int} (hX : XI v) (hp_a : R32 n) (hp_b : R32 s) (hp_c : (v 2 7) ≤ (v 2 4)) {Q : Option PV → Nat → VS → Prop} (hQ : XI (cl_beginLine v n s) → (((cl_beginLine v n s) 2 7) ≤ ((cl_beginLine v n s) 2 4)) → Q none 1 (cl_beginLine v n s)) : WV X (d + 1 + 1) 43 0 [some (.inr (.inr (some 2))), some (.inl n), some (.inl s)] [] 1 v Q := by
  rw [cl_beginLine] at hQ
  refine r_ex 2 (pc' := 2) (lo' := [some (.inr (.inr (some 2))), some (.inl n), some (.inl s)]) (st' := [.inl s, .inl n]) rfl ?_
  refine n_ic_lt (pc0 := 2) (len := 3) (t := 13) rfl (by first | assumption | omega | (unfold R32 at *; omega) | (unfold R64 at *; omega) | (simp only [R32, R64] at *; omega)) (by first | assumption | omega | (unfold R32 at *; omega) | (unfold R64 at *; omega) | (simp only [R32, R64] at *; omega)) (fun h_2 => ?_) (fun h_2 => ?_)
  · show WV _ _ _ 13 _ _ _ _ _
    rw [if_pos h_2] at hQ
    refine r_ex 1 (pc' := 14) (lo' := [some (.inr (.inr (some 2))), some (.inl n), some (.inl s)]) (st' := [.inr (.inr (some 2))]) rfl ?_
    have hp_1 : (v 2 7) ≤ (v 2 4) := (show (v 2 7) ≤ (v 2 4) from (by first | assumption | omega | (unfold R32 at *; omega) | (unfold R64 at *; omega) | (simp only [R32, R64] at *; omega)))
    refine r_call (m := 21) (args := [.inr (.inr (some 2))]) (n' := 43) (pc' := 17) (lo' := [some (.inr (.inr (some 2))), some (.inl n), some (.inl s)]) (st' := []) (I := .invokevirtual 21) (pc0 := 14) (len := 3) rfl rfl rfl (e_cl_advance hX hp_1) ?_
    show WV _ _ _ 17 _ [] _ (cl_advance v) _
    have hX_2 : XI (cl_advance v) := i_cl_advance (v := v) hX hp_1
    have hb_3 : ((cl_advance v) 2 7) ≤ ((cl_advance v) 2 4) := n_cl_advance (v := v) hX hp_1
    refine r_ret (rr := none) (I := .return_) (pc0 := 17) (len := 1) rfl rfl ?_
    exact hQ hX_2 (show ((cl_advance v) 2 7) ≤ ((cl_advance v) 2 4) from (by first | assumption | omega | (unfold R32 at *; omega) | (unfold R64 at *; omega) | (simp only [R32, R64] at *; omega)))
  · show WV _ _ _ 5 _ _ _ _ _
    rw [if_neg h_2] at hQ
    refine r_ex 2 (pc' := 7) (lo' := [some (.inr (.inr (some 2))), some (.inl n), some (.inl s)]) (st' := [.inl 3, .inr (.inr (some 2))]) rfl ?_
    have hp_4 : 1 ≤ (3 : Int) ∧ (3 : Int) ≤ 3 := (by first | assumption | omega | (unfold R32 at *; omega) | (unfold R64 at *; omega) | (simp only [R32, R64] at *; omega))
    have hp_5 : (v 2 7) ≤ (v 2 4) := (show (v 2 7) ≤ (v 2 4) from (by first | assumption | omega | (unfold R32 at *; omega) | (unfold R64 at *; omega) | (simp only [R32, R64] at *; omega)))
    refine r_call (m := 39) (args := [.inr (.inr (some 2)), .inl 3]) (n' := 43) (pc' := 10) (lo' := [some (.inr (.inr (some 2))), some (.inl n), some (.inl s)]) (st' := []) (I := .invokevirtual 39) (pc0 := 7) (len := 3) rfl rfl rfl (e_cl_fail hX hp_4 hp_5) ?_
    show WV _ _ _ 10 _ [] _ (cl_fail v 3) _
    have hX_6 : XI (cl_fail v 3) := i_cl_fail (v := v) (k := 3) hX hp_4 hp_5
    have hb_7 : ((cl_fail v 3) 2 7) ≤ ((cl_fail v 3) 2 4) := n_cl_fail (v := v) (k := 3) hX hp_4 hp_5
    refine r_ex 1 (pc' := 17) (lo' := [some (.inr (.inr (some 2))), some (.inl n), some (.inl s)]) (st' := []) rfl ?_
    refine r_ret (rr := none) (I := .return_) (pc0 := 17) (len := 1) rfl rfl ?_
    exact hQ hX_6 (show ((cl_fail v 3) 2 7) ≤ ((cl_fail v 3) 2 4) from (by first | assumption | omega | (unfold R32 at *; omega) | (unfold R64 at *; omega) | (simp only [R32, R64] at *; omega)))

theorem e_cl_beginLine {X : PX} {d : Nat} {v : VS} {n : Int} {s : Int} (hX : XI v) (hp_a : R32 n) (hp_b : R32 s) (hp_c : (v 2 7) ≤ (v 2 4)) : EvV X (d + 1 + 1) 43 [.inr (.inr (some 2)), .inl n, .inl s] 1 v none 1 (cl_beginLine v n s) := EvV.of (w_cl_beginLine hX hp_a hp_b hp_c (fun _ _ => ⟨rfl, rfl, rfl⟩))

theorem i_cl_beginLine {v : VS} {n : Int} {s : Int} (hX : XI v) (hp_a : R32 n) (hp_b : R32 s) (hp_c : (v 2 7) ≤ (v 2 4)) : XI (cl_beginLine v n s) := by
  have q : WV (0, fun _ => 0, none) (0 + 1 + 1) 43 0 [some (.inr (.inr (some 2))), some (.inl n), some (.inl s)] [] 1 v (fun _ _ _ => XI (cl_beginLine v n s)) := w_cl_beginLine (X := (0, fun _ => 0, none)) (d := 0) hX hp_a hp_b hp_c (fun q _ => q)
  obtain ⟨_, _, _, _, _, _, _, q⟩ := q
  exact q

theorem n_cl_beginLine {v : VS} {n : Int} {s : Int} (hX : XI v) (hp_a : R32 n) (hp_b : R32 s) (hp_c : (v 2 7) ≤ (v 2 4)) : ((cl_beginLine v n s) 2 7) ≤ ((cl_beginLine v n s) 2 4) := by
  have q : WV (0, fun _ => 0, none) (0 + 1 + 1) 43 0 [some (.inr (.inr (some 2))), some (.inl n), some (.inl s)] [] 1 v (fun _ _ _ => ((cl_beginLine v n s) 2 7) ≤ ((cl_beginLine v n s) 2 4)) := w_cl_beginLine (X := (0, fun _ => 0, none)) (d := 0) hX hp_a hp_b hp_c (fun _ q => q)
  obtain ⟨_, _, _, _, _, _, _, q⟩ := q
  exact q

theorem o_cl_beginLine {rk : Nat} {v : VS} {n : Int} {s : Int} (hk : (rk < 2 ∨ 2 < rk)) : (cl_beginLine v n s) rk = v rk := by
  unfold cl_beginLine
  by_cases hc_ : n < s
  · rw [if_pos hc_]
    all_goals (show (cl_advance v) rk = _)
    all_goals (rw [o_cl_advance (by omega)])
  · rw [if_neg hc_]
    all_goals (show (cl_fail v 3) rk = _)
    all_goals (rw [o_cl_fail (by omega)])

def cl_readBay (v : VS)  : VS :=
  (if ((cl_stop ((cl_number (cl_word2 ((cl_number (cl_word1 (cl_word0 v)) 1 9).2)) 1 300).2)) 2 1) = 0 then (v2 (v2 (cl_stop ((cl_number (cl_word2 ((cl_number (cl_word1 (cl_word0 v)) 1 9).2)) 1 300).2)) 3 0 ((cl_number (cl_word1 (cl_word0 v)) 1 9).1)) 3 1 ((cl_number (cl_word2 ((cl_number (cl_word1 (cl_word0 v)) 1 9).2)) 1 300).1)) else (cl_stop ((cl_number (cl_word2 ((cl_number (cl_word1 (cl_word0 v)) 1 9).2)) 1 300).2)))
theorem w_cl_readBay {X : PX} {d : Nat} {v : VS}  (hX : XI v) (hp_a : (v 2 7) ≤ (v 2 4)) {Q : Option PV → Nat → VS → Prop} (hQ : XI (cl_readBay v) → (((cl_readBay v) 2 7) ≤ ((cl_readBay v) 2 4)) → (((cl_readBay v) 3 2) = (v 3 2)) → Q none 1 (cl_readBay v)) : WV X (d + 1 + 1 + 1 + 1 + 1 + 1) 25 0 [some (.inr (.inr (some 2))), none, none] [] 1 v Q := by
  rw [cl_readBay] at hQ
  refine r_ex 2 (pc' := 3) (lo' := [some (.inr (.inr (some 2))), none, none]) (st' := [.inr (.inr (some 100001)), .inr (.inr (some 2))]) rfl ?_
  have hp_1 : (v 2 7) ≤ (v 2 4) := (show (v 2 7) ≤ (v 2 4) from (by first | assumption | omega | (unfold R32 at *; omega) | (unfold R64 at *; omega) | (simp only [R32, R64] at *; omega)))
  refine r_call (m := 26) (args := [.inr (.inr (some 2)), .inr (.inr (some 100001))]) (n' := 25) (pc' := 6) (lo' := [some (.inr (.inr (some 2))), none, none]) (st' := []) (I := .invokevirtual 26) (pc0 := 3) (len := 3) rfl rfl rfl (e_cl_word0 hX hp_1) ?_
  show WV _ _ _ 6 _ [] _ (cl_word0 v) _
  have hX_2 : XI (cl_word0 v) := i_cl_word0 (v := v) hX hp_1
  have hb_3 : (cl_word0 v) 3 2 = (v 3 2) := by rw [o_cl_word0 (by omega)] <;> rfl
  have hb_4 : ((cl_word0 v) 2 7) ≤ ((cl_word0 v) 2 4) := n_cl_word0 (v := v) hX hp_1
  refine r_ex 2 (pc' := 9) (lo' := [some (.inr (.inr (some 2))), none, none]) (st' := [.inr (.inr (some 100003)), .inr (.inr (some 2))]) rfl ?_
  have hp_5 : ((cl_word0 v) 2 7) ≤ ((cl_word0 v) 2 4) := (show ((cl_word0 v) 2 7) ≤ ((cl_word0 v) 2 4) from (by first | assumption | omega | (unfold R32 at *; omega) | (unfold R64 at *; omega) | (simp only [R32, R64] at *; omega)))
  refine r_call (m := 26) (args := [.inr (.inr (some 2)), .inr (.inr (some 100003))]) (n' := 25) (pc' := 12) (lo' := [some (.inr (.inr (some 2))), none, none]) (st' := []) (I := .invokevirtual 26) (pc0 := 9) (len := 3) rfl rfl rfl (e_cl_word1 hX_2 hp_5) ?_
  show WV _ _ _ 12 _ [] _ (cl_word1 (cl_word0 v)) _
  have hX_6 : XI (cl_word1 (cl_word0 v)) := i_cl_word1 (v := (cl_word0 v)) hX_2 hp_5
  have hb_7 : (cl_word1 (cl_word0 v)) 3 2 = ((cl_word0 v) 3 2) := by rw [o_cl_word1 (by omega)] <;> rfl
  have hb_8 : ((cl_word1 (cl_word0 v)) 2 7) ≤ ((cl_word1 (cl_word0 v)) 2 4) := n_cl_word1 (v := (cl_word0 v)) hX_2 hp_5
  refine r_ex 3 (pc' := 16) (lo' := [some (.inr (.inr (some 2))), none, none]) (st' := [.inl 9, .inl 1, .inr (.inr (some 2))]) rfl ?_
  have hp_9 : 0 ≤ (1 : Int) ∧ (1 : Int) ≤ 300 := (by first | assumption | omega | (unfold R32 at *; omega) | (unfold R64 at *; omega) | (simp only [R32, R64] at *; omega))
  have hp_10 : -1 ≤ (9 : Int) ∧ (9 : Int) ≤ 300 := (by first | assumption | omega | (unfold R32 at *; omega) | (unfold R64 at *; omega) | (simp only [R32, R64] at *; omega))
  have hp_11 : ((cl_word1 (cl_word0 v)) 2 7) ≤ ((cl_word1 (cl_word0 v)) 2 4) := (show ((cl_word1 (cl_word0 v)) 2 7) ≤ ((cl_word1 (cl_word0 v)) 2 4) from (by first | assumption | omega | (unfold R32 at *; omega) | (unfold R64 at *; omega) | (simp only [R32, R64] at *; omega)))
  refine r_call (m := 40) (args := [.inr (.inr (some 2)), .inl 1, .inl 9]) (n' := 25) (pc' := 19) (lo' := [some (.inr (.inr (some 2))), none, none]) (st' := []) (I := .invokevirtual 40) (pc0 := 16) (len := 3) rfl rfl rfl (e_cl_number hX_6 hp_9 hp_10 hp_11) ?_
  show WV _ _ _ 19 _ [.inl ((cl_number (cl_word1 (cl_word0 v)) 1 9).1)] _ (cl_number (cl_word1 (cl_word0 v)) 1 9).2 _
  have hX_12 : XI (cl_number (cl_word1 (cl_word0 v)) 1 9).2 := i_cl_number (v := (cl_word1 (cl_word0 v))) (l := 1) (g := 9) hX_6 hp_9 hp_10 hp_11
  have hb_13 : ((cl_number (cl_word1 (cl_word0 v)) 1 9).2) 3 2 = ((cl_word1 (cl_word0 v)) 3 2) := by rw [o_cl_number (by omega)] <;> rfl
  have hb_14 := n0_cl_number (v := (cl_word1 (cl_word0 v))) (l := 1) (g := 9) hX_6 hp_9 hp_10 hp_11
  have hb_15 : ((cl_number (cl_word1 (cl_word0 v)) 1 9).2 2 7) ≤ ((cl_number (cl_word1 (cl_word0 v)) 1 9).2 2 4) := n1_cl_number (v := (cl_word1 (cl_word0 v))) (l := 1) (g := 9) hX_6 hp_9 hp_10 hp_11
  refine r_ex 3 (pc' := 23) (lo' := [some (.inr (.inr (some 2))), some (.inl ((cl_number (cl_word1 (cl_word0 v)) 1 9).1)), none]) (st' := [.inr (.inr (some 100005)), .inr (.inr (some 2))]) rfl ?_
  have hp_16 : (((cl_number (cl_word1 (cl_word0 v)) 1 9).2) 2 7) ≤ (((cl_number (cl_word1 (cl_word0 v)) 1 9).2) 2 4) := (show ((cl_number (cl_word1 (cl_word0 v)) 1 9).2 2 7) ≤ ((cl_number (cl_word1 (cl_word0 v)) 1 9).2 2 4) from (by first | assumption | omega | (unfold R32 at *; omega) | (unfold R64 at *; omega) | (simp only [R32, R64] at *; omega)))
  refine r_call (m := 26) (args := [.inr (.inr (some 2)), .inr (.inr (some 100005))]) (n' := 25) (pc' := 26) (lo' := [some (.inr (.inr (some 2))), some (.inl ((cl_number (cl_word1 (cl_word0 v)) 1 9).1)), none]) (st' := []) (I := .invokevirtual 26) (pc0 := 23) (len := 3) rfl rfl rfl (e_cl_word2 hX_12 hp_16) ?_
  show WV _ _ _ 26 _ [] _ (cl_word2 ((cl_number (cl_word1 (cl_word0 v)) 1 9).2)) _
  have hX_17 : XI (cl_word2 ((cl_number (cl_word1 (cl_word0 v)) 1 9).2)) := i_cl_word2 (v := (cl_number (cl_word1 (cl_word0 v)) 1 9).2) hX_12 hp_16
  have hb_18 : (cl_word2 ((cl_number (cl_word1 (cl_word0 v)) 1 9).2)) 3 2 = ((cl_number (cl_word1 (cl_word0 v)) 1 9).2 3 2) := by rw [o_cl_word2 (by omega)] <;> rfl
  have hb_19 : ((cl_word2 ((cl_number (cl_word1 (cl_word0 v)) 1 9).2)) 2 7) ≤ ((cl_word2 ((cl_number (cl_word1 (cl_word0 v)) 1 9).2)) 2 4) := n_cl_word2 (v := (cl_number (cl_word1 (cl_word0 v)) 1 9).2) hX_12 hp_16
  refine r_ex 3 (pc' := 31) (lo' := [some (.inr (.inr (some 2))), some (.inl ((cl_number (cl_word1 (cl_word0 v)) 1 9).1)), none]) (st' := [.inl 300, .inl 1, .inr (.inr (some 2))]) rfl ?_
  have hp_20 : 0 ≤ (1 : Int) ∧ (1 : Int) ≤ 300 := (by first | assumption | omega | (unfold R32 at *; omega) | (unfold R64 at *; omega) | (simp only [R32, R64] at *; omega))
  have hp_21 : -1 ≤ (300 : Int) ∧ (300 : Int) ≤ 300 := (by first | assumption | omega | (unfold R32 at *; omega) | (unfold R64 at *; omega) | (simp only [R32, R64] at *; omega))
  have hp_22 : ((cl_word2 ((cl_number (cl_word1 (cl_word0 v)) 1 9).2)) 2 7) ≤ ((cl_word2 ((cl_number (cl_word1 (cl_word0 v)) 1 9).2)) 2 4) := (show ((cl_word2 ((cl_number (cl_word1 (cl_word0 v)) 1 9).2)) 2 7) ≤ ((cl_word2 ((cl_number (cl_word1 (cl_word0 v)) 1 9).2)) 2 4) from (by first | assumption | omega | (unfold R32 at *; omega) | (unfold R64 at *; omega) | (simp only [R32, R64] at *; omega)))
  refine r_call (m := 40) (args := [.inr (.inr (some 2)), .inl 1, .inl 300]) (n' := 25) (pc' := 34) (lo' := [some (.inr (.inr (some 2))), some (.inl ((cl_number (cl_word1 (cl_word0 v)) 1 9).1)), none]) (st' := []) (I := .invokevirtual 40) (pc0 := 31) (len := 3) rfl rfl rfl (e_cl_number hX_17 hp_20 hp_21 hp_22) ?_
  show WV _ _ _ 34 _ [.inl ((cl_number (cl_word2 ((cl_number (cl_word1 (cl_word0 v)) 1 9).2)) 1 300).1)] _ (cl_number (cl_word2 ((cl_number (cl_word1 (cl_word0 v)) 1 9).2)) 1 300).2 _
  have hX_23 : XI (cl_number (cl_word2 ((cl_number (cl_word1 (cl_word0 v)) 1 9).2)) 1 300).2 := i_cl_number (v := (cl_word2 ((cl_number (cl_word1 (cl_word0 v)) 1 9).2))) (l := 1) (g := 300) hX_17 hp_20 hp_21 hp_22
  have hb_24 : ((cl_number (cl_word2 ((cl_number (cl_word1 (cl_word0 v)) 1 9).2)) 1 300).2) 3 2 = ((cl_word2 ((cl_number (cl_word1 (cl_word0 v)) 1 9).2)) 3 2) := by rw [o_cl_number (by omega)] <;> rfl
  have hb_25 := n0_cl_number (v := (cl_word2 ((cl_number (cl_word1 (cl_word0 v)) 1 9).2))) (l := 1) (g := 300) hX_17 hp_20 hp_21 hp_22
  have hb_26 : ((cl_number (cl_word2 ((cl_number (cl_word1 (cl_word0 v)) 1 9).2)) 1 300).2 2 7) ≤ ((cl_number (cl_word2 ((cl_number (cl_word1 (cl_word0 v)) 1 9).2)) 1 300).2 2 4) := n1_cl_number (v := (cl_word2 ((cl_number (cl_word1 (cl_word0 v)) 1 9).2))) (l := 1) (g := 300) hX_17 hp_20 hp_21 hp_22
  refine r_ex 2 (pc' := 36) (lo' := [some (.inr (.inr (some 2))), some (.inl ((cl_number (cl_word1 (cl_word0 v)) 1 9).1)), some (.inl ((cl_number (cl_word2 ((cl_number (cl_word1 (cl_word0 v)) 1 9).2)) 1 300).1))]) (st' := [.inr (.inr (some 2))]) rfl ?_
  have hp_27 : (((cl_number (cl_word2 ((cl_number (cl_word1 (cl_word0 v)) 1 9).2)) 1 300).2) 2 7) ≤ (((cl_number (cl_word2 ((cl_number (cl_word1 (cl_word0 v)) 1 9).2)) 1 300).2) 2 4) := (show ((cl_number (cl_word2 ((cl_number (cl_word1 (cl_word0 v)) 1 9).2)) 1 300).2 2 7) ≤ ((cl_number (cl_word2 ((cl_number (cl_word1 (cl_word0 v)) 1 9).2)) 1 300).2 2 4) from (by first | assumption | omega | (unfold R32 at *; omega) | (unfold R64 at *; omega) | (simp only [R32, R64] at *; omega)))
  refine r_call (m := 41) (args := [.inr (.inr (some 2))]) (n' := 25) (pc' := 39) (lo' := [some (.inr (.inr (some 2))), some (.inl ((cl_number (cl_word1 (cl_word0 v)) 1 9).1)), some (.inl ((cl_number (cl_word2 ((cl_number (cl_word1 (cl_word0 v)) 1 9).2)) 1 300).1))]) (st' := []) (I := .invokevirtual 41) (pc0 := 36) (len := 3) rfl rfl rfl (e_cl_stop hX_23 hp_27) ?_
  show WV _ _ _ 39 _ [] _ (cl_stop ((cl_number (cl_word2 ((cl_number (cl_word1 (cl_word0 v)) 1 9).2)) 1 300).2)) _
  have hX_28 : XI (cl_stop ((cl_number (cl_word2 ((cl_number (cl_word1 (cl_word0 v)) 1 9).2)) 1 300).2)) := i_cl_stop (v := (cl_number (cl_word2 ((cl_number (cl_word1 (cl_word0 v)) 1 9).2)) 1 300).2) hX_23 hp_27
  have hb_29 : (cl_stop ((cl_number (cl_word2 ((cl_number (cl_word1 (cl_word0 v)) 1 9).2)) 1 300).2)) 3 2 = ((cl_number (cl_word2 ((cl_number (cl_word1 (cl_word0 v)) 1 9).2)) 1 300).2 3 2) := by rw [o_cl_stop (by omega)] <;> rfl
  have hb_30 : ((cl_stop ((cl_number (cl_word2 ((cl_number (cl_word1 (cl_word0 v)) 1 9).2)) 1 300).2)) 2 7) ≤ ((cl_stop ((cl_number (cl_word2 ((cl_number (cl_word1 (cl_word0 v)) 1 9).2)) 1 300).2)) 2 4) := n_cl_stop (v := (cl_number (cl_word2 ((cl_number (cl_word1 (cl_word0 v)) 1 9).2)) 1 300).2) hX_23 hp_27
  refine r_ex 2 (pc' := 43) (lo' := [some (.inr (.inr (some 2))), some (.inl ((cl_number (cl_word1 (cl_word0 v)) 1 9).1)), some (.inl ((cl_number (cl_word2 ((cl_number (cl_word1 (cl_word0 v)) 1 9).2)) 1 300).1))]) (st' := [.inl ((cl_stop ((cl_number (cl_word2 ((cl_number (cl_word1 (cl_word0 v)) 1 9).2)) 1 300).2)) 2 1)]) rfl ?_
  have hb_31 : 0 ≤ ((cl_stop ((cl_number (cl_word2 ((cl_number (cl_word1 (cl_word0 v)) 1 9).2)) 1 300).2)) 2 1) ∧ ((cl_stop ((cl_number (cl_word2 ((cl_number (cl_word1 (cl_word0 v)) 1 9).2)) 1 300).2)) 2 1) ≤ 3 := hX_28 2 1
  refine n_if_ne (pc0 := 43) (len := 3) (t := 62) rfl (by first | assumption | omega | (unfold R32 at *; omega) | (unfold R64 at *; omega) | (simp only [R32, R64] at *; omega)) (fun h_43 => ?_) (fun h_43 => ?_)
  · show WV _ _ _ 62 _ _ _ _ _
    rw [if_neg h_43] at hQ
    refine r_ret (rr := none) (I := .return_) (pc0 := 62) (len := 1) rfl rfl ?_
    exact hQ hX_28 (show ((cl_stop ((cl_number (cl_word2 ((cl_number (cl_word1 (cl_word0 v)) 1 9).2)) 1 300).2)) 2 7) ≤ ((cl_stop ((cl_number (cl_word2 ((cl_number (cl_word1 (cl_word0 v)) 1 9).2)) 1 300).2)) 2 4) from (by first | assumption | omega | (unfold R32 at *; omega) | (unfold R64 at *; omega) | (simp only [R32, R64] at *; omega))) (show ((cl_stop ((cl_number (cl_word2 ((cl_number (cl_word1 (cl_word0 v)) 1 9).2)) 1 300).2)) 3 2) = (v 3 2) from (by first | assumption | omega | (unfold R32 at *; omega) | (unfold R64 at *; omega) | (simp only [R32, R64] at *; omega)))
  · show WV _ _ _ 46 _ _ _ _ _
    rw [if_pos h_43] at hQ
    refine r_ex 3 (pc' := 51) (lo' := [some (.inr (.inr (some 2))), some (.inl ((cl_number (cl_word1 (cl_word0 v)) 1 9).1)), some (.inl ((cl_number (cl_word2 ((cl_number (cl_word1 (cl_word0 v)) 1 9).2)) 1 300).1))]) (st' := [.inl ((cl_number (cl_word1 (cl_word0 v)) 1 9).1), .inr (.inr (some 3))]) rfl ?_
    refine r_puti2 (j := 0) (pc' := 54) (pc0 := 51) (len := 3) rfl (s_3 _) rfl rfl rfl (Or.inl rfl) rfl rfl ?_
    have hX_32 : XI (v2 (cl_stop ((cl_number (cl_word2 ((cl_number (cl_word1 (cl_word0 v)) 1 9).2)) 1 300).2)) 3 0 ((cl_number (cl_word1 (cl_word0 v)) 1 9).1)) := XI.put hX_28 (show 0 ≤ (cl_number (cl_word1 (cl_word0 v)) 1 9).1 ∧ (cl_number (cl_word1 (cl_word0 v)) 1 9).1 ≤ 9 from (by first | assumption | omega | (unfold R32 at *; omega) | (unfold R64 at *; omega) | (simp only [R32, R64] at *; omega)))
    refine r_ex 3 (pc' := 59) (lo' := [some (.inr (.inr (some 2))), some (.inl ((cl_number (cl_word1 (cl_word0 v)) 1 9).1)), some (.inl ((cl_number (cl_word2 ((cl_number (cl_word1 (cl_word0 v)) 1 9).2)) 1 300).1))]) (st' := [.inl ((cl_number (cl_word2 ((cl_number (cl_word1 (cl_word0 v)) 1 9).2)) 1 300).1), .inr (.inr (some 3))]) rfl ?_
    refine r_puti2 (j := 1) (pc' := 62) (pc0 := 59) (len := 3) rfl (s_3 _) rfl rfl rfl (Or.inl rfl) rfl rfl ?_
    have hX_33 : XI (v2 (v2 (cl_stop ((cl_number (cl_word2 ((cl_number (cl_word1 (cl_word0 v)) 1 9).2)) 1 300).2)) 3 0 ((cl_number (cl_word1 (cl_word0 v)) 1 9).1)) 3 1 ((cl_number (cl_word2 ((cl_number (cl_word1 (cl_word0 v)) 1 9).2)) 1 300).1)) := XI.put hX_32 (show 0 ≤ (cl_number (cl_word2 ((cl_number (cl_word1 (cl_word0 v)) 1 9).2)) 1 300).1 ∧ (cl_number (cl_word2 ((cl_number (cl_word1 (cl_word0 v)) 1 9).2)) 1 300).1 ≤ 300 from (by first | assumption | omega | (unfold R32 at *; omega) | (unfold R64 at *; omega) | (simp only [R32, R64] at *; omega)))
    refine r_ret (rr := none) (I := .return_) (pc0 := 62) (len := 1) rfl rfl ?_
    exact hQ hX_33 (show ((cl_stop ((cl_number (cl_word2 ((cl_number (cl_word1 (cl_word0 v)) 1 9).2)) 1 300).2)) 2 7) ≤ ((cl_stop ((cl_number (cl_word2 ((cl_number (cl_word1 (cl_word0 v)) 1 9).2)) 1 300).2)) 2 4) from (by first | assumption | omega | (unfold R32 at *; omega) | (unfold R64 at *; omega) | (simp only [R32, R64] at *; omega))) (show ((cl_stop ((cl_number (cl_word2 ((cl_number (cl_word1 (cl_word0 v)) 1 9).2)) 1 300).2)) 3 2) = (v 3 2) from (by first | assumption | omega | (unfold R32 at *; omega) | (unfold R64 at *; omega) | (simp only [R32, R64] at *; omega)))

theorem e_cl_readBay {X : PX} {d : Nat} {v : VS}  (hX : XI v) (hp_a : (v 2 7) ≤ (v 2 4)) : EvV X (d + 1 + 1 + 1 + 1 + 1 + 1) 25 [.inr (.inr (some 2))] 1 v none 1 (cl_readBay v) := EvV.of (w_cl_readBay hX hp_a (fun _ _ _ => ⟨rfl, rfl, rfl⟩))

theorem i_cl_readBay {v : VS}  (hX : XI v) (hp_a : (v 2 7) ≤ (v 2 4)) : XI (cl_readBay v) := by
  have q : WV (0, fun _ => 0, none) (0 + 1 + 1 + 1 + 1 + 1 + 1) 25 0 [some (.inr (.inr (some 2))), none, none] [] 1 v (fun _ _ _ => XI (cl_readBay v)) := w_cl_readBay (X := (0, fun _ => 0, none)) (d := 0) hX hp_a (fun q _ _ => q)
  obtain ⟨_, _, _, _, _, _, _, q⟩ := q
  exact q

theorem n0_cl_readBay {v : VS}  (hX : XI v) (hp_a : (v 2 7) ≤ (v 2 4)) : ((cl_readBay v) 2 7) ≤ ((cl_readBay v) 2 4) := by
  have q : WV (0, fun _ => 0, none) (0 + 1 + 1 + 1 + 1 + 1 + 1) 25 0 [some (.inr (.inr (some 2))), none, none] [] 1 v (fun _ _ _ => ((cl_readBay v) 2 7) ≤ ((cl_readBay v) 2 4)) := w_cl_readBay (X := (0, fun _ => 0, none)) (d := 0) hX hp_a (fun _ q _ => q)
  obtain ⟨_, _, _, _, _, _, _, q⟩ := q
  exact q

theorem n1_cl_readBay {v : VS}  (hX : XI v) (hp_a : (v 2 7) ≤ (v 2 4)) : ((cl_readBay v) 3 2) = (v 3 2) := by
  have q : WV (0, fun _ => 0, none) (0 + 1 + 1 + 1 + 1 + 1 + 1) 25 0 [some (.inr (.inr (some 2))), none, none] [] 1 v (fun _ _ _ => ((cl_readBay v) 3 2) = (v 3 2)) := w_cl_readBay (X := (0, fun _ => 0, none)) (d := 0) hX hp_a (fun _ _ q => q)
  obtain ⟨_, _, _, _, _, _, _, q⟩ := q
  exact q

theorem o_cl_readBay {rk : Nat} {v : VS}  (hk : (rk < 2 ∨ 3 < rk)) : (cl_readBay v ) rk = v rk := by
  unfold cl_readBay
  by_cases hc_ : ((cl_stop ((cl_number (cl_word2 ((cl_number (cl_word1 (cl_word0 v)) 1 9).2)) 1 300).2)) 2 1) = 0
  · rw [if_pos hc_]
    all_goals (show (v2 (v2 (cl_stop ((cl_number (cl_word2 ((cl_number (cl_word1 (cl_word0 v)) 1 9).2)) 1 300).2)) 3 0 ((cl_number (cl_word1 (cl_word0 v)) 1 9).1)) 3 1 ((cl_number (cl_word2 ((cl_number (cl_word1 (cl_word0 v)) 1 9).2)) 1 300).1)) rk = _)
    all_goals (rw [v2_row (by omega), v2_row (by omega), o_cl_stop (by omega), o_cl_number (by omega), o_cl_word2 (by omega), o_cl_number (by omega), o_cl_word1 (by omega), o_cl_word0 (by omega)])
  · rw [if_neg hc_]
    all_goals (show (cl_stop ((cl_number (cl_word2 ((cl_number (cl_word1 (cl_word0 v)) 1 9).2)) 1 300).2)) rk = _)
    all_goals (rw [o_cl_stop (by omega), o_cl_number (by omega), o_cl_word2 (by omega), o_cl_number (by omega), o_cl_word1 (by omega), o_cl_word0 (by omega)])

def cl_readChurch_76 (v : VS) (w : Int) (s : Int) : VS :=
  (if ((cl_stop ((cl_number (cl_word7 v) 0 99).2)) 2 1) = 0 then (cl_describe (cl_stop ((cl_number (cl_word7 v) 0 99).2)) w s ((cl_number (cl_word7 v) 0 99).1)) else (cl_stop ((cl_number (cl_word7 v) 0 99).2)))
def cl_readChurch (v : VS)  : VS :=
  (if (cl_isAt4 (cl_beginLine v (v 3 3) (v 3 0))) = 0 then (if (cl_isAt5 (cl_beginLine v (v 3 3) (v 3 0))) = 0 then (cl_readChurch_76  (cl_word6 (cl_beginLine v (v 3 3) (v 3 0))) 0 0) else (cl_readChurch_76  (cl_word5 (cl_beginLine v (v 3 3) (v 3 0))) 1 0)) else (cl_readChurch_76  ((cl_number (cl_word4 (cl_beginLine v (v 3 3) (v 3 0))) 1 60).2) 2 ((cl_number (cl_word4 (cl_beginLine v (v 3 3) (v 3 0))) 1 60).1)))
theorem l_cl_readChurch_76 {X : PX} {d : Nat} {Q : Option PV → Nat → VS → Prop}  : ∀ (v : VS) (w : Int) (s : Int) (o3 : Option PV), XI v → (0 ≤ w ∧ w ≤ 2) → (0 ≤ s ∧ s ≤ 60) → ((v 2 7) ≤ (v 2 4)) → (XI (cl_readChurch_76 v w s) → (((cl_readChurch_76 v w s) 2 7) ≤ ((cl_readChurch_76 v w s) 2 4)) → (((cl_readChurch_76 v w s) 3 2) = (v 3 2)) → Q none 1 (cl_readChurch_76 v w s)) → WV X (d + 1 + 1 + 1 + 1 + 1 + 1) 42 76 [some (.inr (.inr (some 2))), some (.inl w), some (.inl s), o3] [] 1 v Q := by
  intro v w s o3 hX hi_0 hi_1 hi_2 hQ
  rw [cl_readChurch_76] at hQ
  refine r_ex 2 (pc' := 79) (lo' := [some (.inr (.inr (some 2))), some (.inl w), some (.inl s), o3]) (st' := [.inr (.inr (some 100015)), .inr (.inr (some 2))]) rfl ?_
  have hp_17 : (v 2 7) ≤ (v 2 4) := (show (v 2 7) ≤ (v 2 4) from (by first | assumption | omega | (unfold R32 at *; omega) | (unfold R64 at *; omega) | (simp only [R32, R64] at *; omega)))
  refine r_call (m := 26) (args := [.inr (.inr (some 2)), .inr (.inr (some 100015))]) (n' := 42) (pc' := 82) (lo' := [some (.inr (.inr (some 2))), some (.inl w), some (.inl s), o3]) (st' := []) (I := .invokevirtual 26) (pc0 := 79) (len := 3) rfl rfl rfl (e_cl_word7 hX hp_17) ?_
  show WV _ _ _ 82 _ [] _ (cl_word7 v) _
  have hX_18 : XI (cl_word7 v) := i_cl_word7 (v := v) hX hp_17
  have hb_19 : (cl_word7 v) 3 2 = (v 3 2) := by rw [o_cl_word7 (by omega)] <;> rfl
  have hb_20 : ((cl_word7 v) 2 7) ≤ ((cl_word7 v) 2 4) := n_cl_word7 (v := v) hX hp_17
  refine r_ex 3 (pc' := 86) (lo' := [some (.inr (.inr (some 2))), some (.inl w), some (.inl s), o3]) (st' := [.inl 99, .inl 0, .inr (.inr (some 2))]) rfl ?_
  have hp_21 : 0 ≤ (0 : Int) ∧ (0 : Int) ≤ 300 := (by first | assumption | omega | (unfold R32 at *; omega) | (unfold R64 at *; omega) | (simp only [R32, R64] at *; omega))
  have hp_22 : -1 ≤ (99 : Int) ∧ (99 : Int) ≤ 300 := (by first | assumption | omega | (unfold R32 at *; omega) | (unfold R64 at *; omega) | (simp only [R32, R64] at *; omega))
  have hp_23 : ((cl_word7 v) 2 7) ≤ ((cl_word7 v) 2 4) := (show ((cl_word7 v) 2 7) ≤ ((cl_word7 v) 2 4) from (by first | assumption | omega | (unfold R32 at *; omega) | (unfold R64 at *; omega) | (simp only [R32, R64] at *; omega)))
  refine r_call (m := 40) (args := [.inr (.inr (some 2)), .inl 0, .inl 99]) (n' := 42) (pc' := 89) (lo' := [some (.inr (.inr (some 2))), some (.inl w), some (.inl s), o3]) (st' := []) (I := .invokevirtual 40) (pc0 := 86) (len := 3) rfl rfl rfl (e_cl_number hX_18 hp_21 hp_22 hp_23) ?_
  show WV _ _ _ 89 _ [.inl ((cl_number (cl_word7 v) 0 99).1)] _ (cl_number (cl_word7 v) 0 99).2 _
  have hX_24 : XI (cl_number (cl_word7 v) 0 99).2 := i_cl_number (v := (cl_word7 v)) (l := 0) (g := 99) hX_18 hp_21 hp_22 hp_23
  have hb_25 : ((cl_number (cl_word7 v) 0 99).2) 3 2 = ((cl_word7 v) 3 2) := by rw [o_cl_number (by omega)] <;> rfl
  have hb_26 := n0_cl_number (v := (cl_word7 v)) (l := 0) (g := 99) hX_18 hp_21 hp_22 hp_23
  have hb_27 : ((cl_number (cl_word7 v) 0 99).2 2 7) ≤ ((cl_number (cl_word7 v) 0 99).2 2 4) := n1_cl_number (v := (cl_word7 v)) (l := 0) (g := 99) hX_18 hp_21 hp_22 hp_23
  refine r_ex 2 (pc' := 91) (lo' := [some (.inr (.inr (some 2))), some (.inl w), some (.inl s), some (.inl ((cl_number (cl_word7 v) 0 99).1))]) (st' := [.inr (.inr (some 2))]) rfl ?_
  have hp_28 : (((cl_number (cl_word7 v) 0 99).2) 2 7) ≤ (((cl_number (cl_word7 v) 0 99).2) 2 4) := (show ((cl_number (cl_word7 v) 0 99).2 2 7) ≤ ((cl_number (cl_word7 v) 0 99).2 2 4) from (by first | assumption | omega | (unfold R32 at *; omega) | (unfold R64 at *; omega) | (simp only [R32, R64] at *; omega)))
  refine r_call (m := 41) (args := [.inr (.inr (some 2))]) (n' := 42) (pc' := 94) (lo' := [some (.inr (.inr (some 2))), some (.inl w), some (.inl s), some (.inl ((cl_number (cl_word7 v) 0 99).1))]) (st' := []) (I := .invokevirtual 41) (pc0 := 91) (len := 3) rfl rfl rfl (e_cl_stop hX_24 hp_28) ?_
  show WV _ _ _ 94 _ [] _ (cl_stop ((cl_number (cl_word7 v) 0 99).2)) _
  have hX_29 : XI (cl_stop ((cl_number (cl_word7 v) 0 99).2)) := i_cl_stop (v := (cl_number (cl_word7 v) 0 99).2) hX_24 hp_28
  have hb_30 : (cl_stop ((cl_number (cl_word7 v) 0 99).2)) 3 2 = ((cl_number (cl_word7 v) 0 99).2 3 2) := by rw [o_cl_stop (by omega)] <;> rfl
  have hb_31 : ((cl_stop ((cl_number (cl_word7 v) 0 99).2)) 2 7) ≤ ((cl_stop ((cl_number (cl_word7 v) 0 99).2)) 2 4) := n_cl_stop (v := (cl_number (cl_word7 v) 0 99).2) hX_24 hp_28
  refine r_ex 2 (pc' := 98) (lo' := [some (.inr (.inr (some 2))), some (.inl w), some (.inl s), some (.inl ((cl_number (cl_word7 v) 0 99).1))]) (st' := [.inl ((cl_stop ((cl_number (cl_word7 v) 0 99).2)) 2 1)]) rfl ?_
  have hb_32 : 0 ≤ ((cl_stop ((cl_number (cl_word7 v) 0 99).2)) 2 1) ∧ ((cl_stop ((cl_number (cl_word7 v) 0 99).2)) 2 1) ≤ 3 := hX_29 2 1
  refine n_if_ne (pc0 := 98) (len := 3) (t := 111) rfl (by first | assumption | omega | (unfold R32 at *; omega) | (unfold R64 at *; omega) | (simp only [R32, R64] at *; omega)) (fun h_98 => ?_) (fun h_98 => ?_)
  · show WV _ _ _ 111 _ _ _ _ _
    rw [if_neg h_98] at hQ
    refine r_ret (rr := none) (I := .return_) (pc0 := 111) (len := 1) rfl rfl ?_
    exact hQ hX_29 (show ((cl_stop ((cl_number (cl_word7 v) 0 99).2)) 2 7) ≤ ((cl_stop ((cl_number (cl_word7 v) 0 99).2)) 2 4) from (by first | assumption | omega | (unfold R32 at *; omega) | (unfold R64 at *; omega) | (simp only [R32, R64] at *; omega))) (show ((cl_stop ((cl_number (cl_word7 v) 0 99).2)) 3 2) = (v 3 2) from (by first | assumption | omega | (unfold R32 at *; omega) | (unfold R64 at *; omega) | (simp only [R32, R64] at *; omega)))
  · show WV _ _ _ 101 _ _ _ _ _
    rw [if_pos h_98] at hQ
    refine r_ex 5 (pc' := 108) (lo' := [some (.inr (.inr (some 2))), some (.inl w), some (.inl s), some (.inl ((cl_number (cl_word7 v) 0 99).1))]) (st' := [.inl ((cl_number (cl_word7 v) 0 99).1), .inl s, .inl w, .inr (.inr (some 3))]) rfl ?_
    have hp_33 : 0 ≤ w ∧ w ≤ 2 := (by first | assumption | omega | (unfold R32 at *; omega) | (unfold R64 at *; omega) | (simp only [R32, R64] at *; omega))
    have hp_34 : 0 ≤ s ∧ s ≤ 60 := (by first | assumption | omega | (unfold R32 at *; omega) | (unfold R64 at *; omega) | (simp only [R32, R64] at *; omega))
    have hp_35 : 0 ≤ ((cl_number (cl_word7 v) 0 99).1) ∧ ((cl_number (cl_word7 v) 0 99).1) ≤ 99 := (by first | assumption | omega | (unfold R32 at *; omega) | (unfold R64 at *; omega) | (simp only [R32, R64] at *; omega))
    refine r_call (m := 44) (args := [.inr (.inr (some 3)), .inl w, .inl s, .inl ((cl_number (cl_word7 v) 0 99).1)]) (n' := 42) (pc' := 111) (lo' := [some (.inr (.inr (some 2))), some (.inl w), some (.inl s), some (.inl ((cl_number (cl_word7 v) 0 99).1))]) (st' := []) (I := .invokevirtual 44) (pc0 := 108) (len := 3) rfl rfl rfl (e_cl_describe hX_29 hp_33 hp_34 hp_35) ?_
    show WV _ _ _ 111 _ [] _ (cl_describe (cl_stop ((cl_number (cl_word7 v) 0 99).2)) w s ((cl_number (cl_word7 v) 0 99).1)) _
    have hX_36 : XI (cl_describe (cl_stop ((cl_number (cl_word7 v) 0 99).2)) w s ((cl_number (cl_word7 v) 0 99).1)) := i_cl_describe (v := (cl_stop ((cl_number (cl_word7 v) 0 99).2))) (w := w) (s := s) (n := (cl_number (cl_word7 v) 0 99).1) hX_29 hp_33 hp_34 hp_35
    have hb_37 : (cl_describe (cl_stop ((cl_number (cl_word7 v) 0 99).2)) w s ((cl_number (cl_word7 v) 0 99).1)) 2 7 = ((cl_stop ((cl_number (cl_word7 v) 0 99).2)) 2 7) := by rw [o_cl_describe (by omega)] <;> rfl
    have hb_38 : (cl_describe (cl_stop ((cl_number (cl_word7 v) 0 99).2)) w s ((cl_number (cl_word7 v) 0 99).1)) 2 4 = ((cl_stop ((cl_number (cl_word7 v) 0 99).2)) 2 4) := by rw [o_cl_describe (by omega)] <;> rfl
    have hb_39 : ((cl_describe (cl_stop ((cl_number (cl_word7 v) 0 99).2)) w s ((cl_number (cl_word7 v) 0 99).1)) 3 2) = ((cl_stop ((cl_number (cl_word7 v) 0 99).2)) 3 2) := n_cl_describe (v := (cl_stop ((cl_number (cl_word7 v) 0 99).2))) (w := w) (s := s) (n := (cl_number (cl_word7 v) 0 99).1) hX_29 hp_33 hp_34 hp_35
    refine r_ret (rr := none) (I := .return_) (pc0 := 111) (len := 1) rfl rfl ?_
    exact hQ hX_36 (show ((cl_describe (cl_stop ((cl_number (cl_word7 v) 0 99).2)) w s ((cl_number (cl_word7 v) 0 99).1)) 2 7) ≤ ((cl_describe (cl_stop ((cl_number (cl_word7 v) 0 99).2)) w s ((cl_number (cl_word7 v) 0 99).1)) 2 4) from (by first | assumption | omega | (unfold R32 at *; omega) | (unfold R64 at *; omega) | (simp only [R32, R64] at *; omega))) (show ((cl_describe (cl_stop ((cl_number (cl_word7 v) 0 99).2)) w s ((cl_number (cl_word7 v) 0 99).1)) 3 2) = (v 3 2) from (by first | assumption | omega | (unfold R32 at *; omega) | (unfold R64 at *; omega) | (simp only [R32, R64] at *; omega)))

theorem o_cl_readChurch_76 {rk : Nat} {v : VS} {w : Int} {s : Int} (hk : (rk < 2 ∨ 6 < rk)) : (cl_readChurch_76 v w s) rk = v rk := by
  unfold cl_readChurch_76
  by_cases hc_ : ((cl_stop ((cl_number (cl_word7 v) 0 99).2)) 2 1) = 0
  · rw [if_pos hc_]
    all_goals (show (cl_describe (cl_stop ((cl_number (cl_word7 v) 0 99).2)) w s ((cl_number (cl_word7 v) 0 99).1)) rk = _)
    all_goals (rw [o_cl_describe (by omega), o_cl_stop (by omega), o_cl_number (by omega), o_cl_word7 (by omega)])
  · rw [if_neg hc_]
    all_goals (show (cl_stop ((cl_number (cl_word7 v) 0 99).2)) rk = _)
    all_goals (rw [o_cl_stop (by omega), o_cl_number (by omega), o_cl_word7 (by omega)])

theorem w_cl_readChurch {X : PX} {d : Nat} {v : VS}  (hX : XI v) (hp_a : (v 2 7) ≤ (v 2 4)) {Q : Option PV → Nat → VS → Prop} (hQ : XI (cl_readChurch v) → (((cl_readChurch v) 2 7) ≤ ((cl_readChurch v) 2 4)) → (((cl_readChurch v) 3 2) = (v 3 2)) → Q none 1 (cl_readChurch v)) : WV X (d + 1 + 1 + 1 + 1 + 1 + 1) 42 0 [some (.inr (.inr (some 2))), none, none, none] [] 1 v Q := by
  rw [cl_readChurch] at hQ
  refine r_ex 7 (pc' := 15) (lo' := [some (.inr (.inr (some 2))), none, none, none]) (st' := [.inl (v 3 0), .inl (v 3 3), .inr (.inr (some 2))]) rfl ?_
  have hb_1 : 0 ≤ (v 3 3) ∧ (v 3 3) ≤ 9 := hX 3 3
  have hb_2 : 0 ≤ (v 3 0) ∧ (v 3 0) ≤ 9 := hX 3 0
  have hp_3 : R32 (v 3 3) := (by first | assumption | omega | (unfold R32 at *; omega) | (unfold R64 at *; omega) | (simp only [R32, R64] at *; omega))
  have hp_4 : R32 (v 3 0) := (by first | assumption | omega | (unfold R32 at *; omega) | (unfold R64 at *; omega) | (simp only [R32, R64] at *; omega))
  have hp_5 : (v 2 7) ≤ (v 2 4) := (show (v 2 7) ≤ (v 2 4) from (by first | assumption | omega | (unfold R32 at *; omega) | (unfold R64 at *; omega) | (simp only [R32, R64] at *; omega)))
  refine r_call (m := 43) (args := [.inr (.inr (some 2)), .inl (v 3 3), .inl (v 3 0)]) (n' := 42) (pc' := 18) (lo' := [some (.inr (.inr (some 2))), none, none, none]) (st' := []) (I := .invokevirtual 43) (pc0 := 15) (len := 3) rfl rfl rfl (e_cl_beginLine hX hp_3 hp_4 hp_5) ?_
  show WV _ _ _ 18 _ [] _ (cl_beginLine v (v 3 3) (v 3 0)) _
  have hX_6 : XI (cl_beginLine v (v 3 3) (v 3 0)) := i_cl_beginLine (v := v) (n := (v 3 3)) (s := (v 3 0)) hX hp_3 hp_4 hp_5
  have hb_7 : (cl_beginLine v (v 3 3) (v 3 0)) 3 2 = (v 3 2) := by rw [o_cl_beginLine (by omega)] <;> rfl
  have hb_8 : ((cl_beginLine v (v 3 3) (v 3 0)) 2 7) ≤ ((cl_beginLine v (v 3 3) (v 3 0)) 2 4) := n_cl_beginLine (v := v) (n := (v 3 3)) (s := (v 3 0)) hX hp_3 hp_4 hp_5
  refine r_ex 6 (pc' := 25) (lo' := [some (.inr (.inr (some 2))), some (.inl 0), some (.inl 0), none]) (st' := [.inr (.inr (some 100009)), .inr (.inr (some 2))]) rfl ?_
  have hp_9 : ((cl_beginLine v (v 3 3) (v 3 0)) 2 7) ≤ ((cl_beginLine v (v 3 3) (v 3 0)) 2 4) := (show ((cl_beginLine v (v 3 3) (v 3 0)) 2 7) ≤ ((cl_beginLine v (v 3 3) (v 3 0)) 2 4) from (by first | assumption | omega | (unfold R32 at *; omega) | (unfold R64 at *; omega) | (simp only [R32, R64] at *; omega)))
  refine r_call (m := 27) (args := [.inr (.inr (some 2)), .inr (.inr (some 100009))]) (n' := 42) (pc' := 28) (lo' := [some (.inr (.inr (some 2))), some (.inl 0), some (.inl 0), none]) (st' := []) (I := .invokevirtual 27) (pc0 := 25) (len := 3) rfl rfl rfl (e_cl_isAt4 hX_6 hp_9) ?_
  show WV _ _ _ 28 _ [.inl (cl_isAt4 (cl_beginLine v (v 3 3) (v 3 0)))] _ _ _
  have hb_10 := n_cl_isAt4 (v := (cl_beginLine v (v 3 3) (v 3 0))) hX_6 hp_9
  refine n_if_eq (pc0 := 28) (len := 3) (t := 50) rfl (by first | assumption | omega | (unfold R32 at *; omega) | (unfold R64 at *; omega) | (simp only [R32, R64] at *; omega)) (fun h_28 => ?_) (fun h_28 => ?_)
  · show WV _ _ _ 50 _ _ _ _ _
    rw [if_pos h_28] at hQ
    refine r_ex 2 (pc' := 53) (lo' := [some (.inr (.inr (some 2))), some (.inl 0), some (.inl 0), none]) (st' := [.inr (.inr (some 100011)), .inr (.inr (some 2))]) rfl ?_
    have hp_11 : ((cl_beginLine v (v 3 3) (v 3 0)) 2 7) ≤ ((cl_beginLine v (v 3 3) (v 3 0)) 2 4) := (show ((cl_beginLine v (v 3 3) (v 3 0)) 2 7) ≤ ((cl_beginLine v (v 3 3) (v 3 0)) 2 4) from (by first | assumption | omega | (unfold R32 at *; omega) | (unfold R64 at *; omega) | (simp only [R32, R64] at *; omega)))
    refine r_call (m := 27) (args := [.inr (.inr (some 2)), .inr (.inr (some 100011))]) (n' := 42) (pc' := 56) (lo' := [some (.inr (.inr (some 2))), some (.inl 0), some (.inl 0), none]) (st' := []) (I := .invokevirtual 27) (pc0 := 53) (len := 3) rfl rfl rfl (e_cl_isAt5 hX_6 hp_11) ?_
    show WV _ _ _ 56 _ [.inl (cl_isAt5 (cl_beginLine v (v 3 3) (v 3 0)))] _ _ _
    have hb_12 := n_cl_isAt5 (v := (cl_beginLine v (v 3 3) (v 3 0))) hX_6 hp_11
    refine n_if_eq (pc0 := 56) (len := 3) (t := 70) rfl (by first | assumption | omega | (unfold R32 at *; omega) | (unfold R64 at *; omega) | (simp only [R32, R64] at *; omega)) (fun h_56 => ?_) (fun h_56 => ?_)
    · show WV _ _ _ 70 _ _ _ _ _
      rw [if_pos h_56] at hQ
      refine r_ex 2 (pc' := 73) (lo' := [some (.inr (.inr (some 2))), some (.inl 0), some (.inl 0), none]) (st' := [.inr (.inr (some 100013)), .inr (.inr (some 2))]) rfl ?_
      have hp_13 : ((cl_beginLine v (v 3 3) (v 3 0)) 2 7) ≤ ((cl_beginLine v (v 3 3) (v 3 0)) 2 4) := (show ((cl_beginLine v (v 3 3) (v 3 0)) 2 7) ≤ ((cl_beginLine v (v 3 3) (v 3 0)) 2 4) from (by first | assumption | omega | (unfold R32 at *; omega) | (unfold R64 at *; omega) | (simp only [R32, R64] at *; omega)))
      refine r_call (m := 26) (args := [.inr (.inr (some 2)), .inr (.inr (some 100013))]) (n' := 42) (pc' := 76) (lo' := [some (.inr (.inr (some 2))), some (.inl 0), some (.inl 0), none]) (st' := []) (I := .invokevirtual 26) (pc0 := 73) (len := 3) rfl rfl rfl (e_cl_word6 hX_6 hp_13) ?_
      show WV _ _ _ 76 _ [] _ (cl_word6 (cl_beginLine v (v 3 3) (v 3 0))) _
      have hX_14 : XI (cl_word6 (cl_beginLine v (v 3 3) (v 3 0))) := i_cl_word6 (v := (cl_beginLine v (v 3 3) (v 3 0))) hX_6 hp_13
      have hb_15 : (cl_word6 (cl_beginLine v (v 3 3) (v 3 0))) 3 2 = ((cl_beginLine v (v 3 3) (v 3 0)) 3 2) := by rw [o_cl_word6 (by omega)] <;> rfl
      have hb_16 : ((cl_word6 (cl_beginLine v (v 3 3) (v 3 0))) 2 7) ≤ ((cl_word6 (cl_beginLine v (v 3 3) (v 3 0))) 2 4) := n_cl_word6 (v := (cl_beginLine v (v 3 3) (v 3 0))) hX_6 hp_13
      exact l_cl_readChurch_76  (cl_word6 (cl_beginLine v (v 3 3) (v 3 0))) 0 0 _ hX_14 (by first | assumption | omega | (unfold R32 at *; omega) | (unfold R64 at *; omega) | (simp only [R32, R64] at *; omega)) (by first | assumption | omega | (unfold R32 at *; omega) | (unfold R64 at *; omega) | (simp only [R32, R64] at *; omega)) (show ((cl_word6 (cl_beginLine v (v 3 3) (v 3 0))) 2 7) ≤ ((cl_word6 (cl_beginLine v (v 3 3) (v 3 0))) 2 4) from (by first | assumption | omega | (unfold R32 at *; omega) | (unfold R64 at *; omega) | (simp only [R32, R64] at *; omega))) (fun hx_ p_0 p_1 => hQ hx_ p_0 (by omega))
    · show WV _ _ _ 59 _ _ _ _ _
      rw [if_neg h_56] at hQ
      refine r_ex 2 (pc' := 62) (lo' := [some (.inr (.inr (some 2))), some (.inl 0), some (.inl 0), none]) (st' := [.inr (.inr (some 100011)), .inr (.inr (some 2))]) rfl ?_
      have hp_40 : ((cl_beginLine v (v 3 3) (v 3 0)) 2 7) ≤ ((cl_beginLine v (v 3 3) (v 3 0)) 2 4) := (show ((cl_beginLine v (v 3 3) (v 3 0)) 2 7) ≤ ((cl_beginLine v (v 3 3) (v 3 0)) 2 4) from (by first | assumption | omega | (unfold R32 at *; omega) | (unfold R64 at *; omega) | (simp only [R32, R64] at *; omega)))
      refine r_call (m := 26) (args := [.inr (.inr (some 2)), .inr (.inr (some 100011))]) (n' := 42) (pc' := 65) (lo' := [some (.inr (.inr (some 2))), some (.inl 0), some (.inl 0), none]) (st' := []) (I := .invokevirtual 26) (pc0 := 62) (len := 3) rfl rfl rfl (e_cl_word5 hX_6 hp_40) ?_
      show WV _ _ _ 65 _ [] _ (cl_word5 (cl_beginLine v (v 3 3) (v 3 0))) _
      have hX_41 : XI (cl_word5 (cl_beginLine v (v 3 3) (v 3 0))) := i_cl_word5 (v := (cl_beginLine v (v 3 3) (v 3 0))) hX_6 hp_40
      have hb_42 : (cl_word5 (cl_beginLine v (v 3 3) (v 3 0))) 3 2 = ((cl_beginLine v (v 3 3) (v 3 0)) 3 2) := by rw [o_cl_word5 (by omega)] <;> rfl
      have hb_43 : ((cl_word5 (cl_beginLine v (v 3 3) (v 3 0))) 2 7) ≤ ((cl_word5 (cl_beginLine v (v 3 3) (v 3 0))) 2 4) := n_cl_word5 (v := (cl_beginLine v (v 3 3) (v 3 0))) hX_6 hp_40
      refine r_ex 3 (pc' := 76) (lo' := [some (.inr (.inr (some 2))), some (.inl 1), some (.inl 0), none]) (st' := []) rfl ?_
      exact l_cl_readChurch_76  (cl_word5 (cl_beginLine v (v 3 3) (v 3 0))) 1 0 _ hX_41 (by first | assumption | omega | (unfold R32 at *; omega) | (unfold R64 at *; omega) | (simp only [R32, R64] at *; omega)) (by first | assumption | omega | (unfold R32 at *; omega) | (unfold R64 at *; omega) | (simp only [R32, R64] at *; omega)) (show ((cl_word5 (cl_beginLine v (v 3 3) (v 3 0))) 2 7) ≤ ((cl_word5 (cl_beginLine v (v 3 3) (v 3 0))) 2 4) from (by first | assumption | omega | (unfold R32 at *; omega) | (unfold R64 at *; omega) | (simp only [R32, R64] at *; omega))) (fun hx_ p_0 p_1 => hQ hx_ p_0 (by omega))
  · show WV _ _ _ 31 _ _ _ _ _
    rw [if_neg h_28] at hQ
    refine r_ex 2 (pc' := 34) (lo' := [some (.inr (.inr (some 2))), some (.inl 0), some (.inl 0), none]) (st' := [.inr (.inr (some 100009)), .inr (.inr (some 2))]) rfl ?_
    have hp_44 : ((cl_beginLine v (v 3 3) (v 3 0)) 2 7) ≤ ((cl_beginLine v (v 3 3) (v 3 0)) 2 4) := (show ((cl_beginLine v (v 3 3) (v 3 0)) 2 7) ≤ ((cl_beginLine v (v 3 3) (v 3 0)) 2 4) from (by first | assumption | omega | (unfold R32 at *; omega) | (unfold R64 at *; omega) | (simp only [R32, R64] at *; omega)))
    refine r_call (m := 26) (args := [.inr (.inr (some 2)), .inr (.inr (some 100009))]) (n' := 42) (pc' := 37) (lo' := [some (.inr (.inr (some 2))), some (.inl 0), some (.inl 0), none]) (st' := []) (I := .invokevirtual 26) (pc0 := 34) (len := 3) rfl rfl rfl (e_cl_word4 hX_6 hp_44) ?_
    show WV _ _ _ 37 _ [] _ (cl_word4 (cl_beginLine v (v 3 3) (v 3 0))) _
    have hX_45 : XI (cl_word4 (cl_beginLine v (v 3 3) (v 3 0))) := i_cl_word4 (v := (cl_beginLine v (v 3 3) (v 3 0))) hX_6 hp_44
    have hb_46 : (cl_word4 (cl_beginLine v (v 3 3) (v 3 0))) 3 2 = ((cl_beginLine v (v 3 3) (v 3 0)) 3 2) := by rw [o_cl_word4 (by omega)] <;> rfl
    have hb_47 : ((cl_word4 (cl_beginLine v (v 3 3) (v 3 0))) 2 7) ≤ ((cl_word4 (cl_beginLine v (v 3 3) (v 3 0))) 2 4) := n_cl_word4 (v := (cl_beginLine v (v 3 3) (v 3 0))) hX_6 hp_44
    refine r_ex 5 (pc' := 43) (lo' := [some (.inr (.inr (some 2))), some (.inl 2), some (.inl 0), none]) (st' := [.inl 60, .inl 1, .inr (.inr (some 2))]) rfl ?_
    have hp_48 : 0 ≤ (1 : Int) ∧ (1 : Int) ≤ 300 := (by first | assumption | omega | (unfold R32 at *; omega) | (unfold R64 at *; omega) | (simp only [R32, R64] at *; omega))
    have hp_49 : -1 ≤ (60 : Int) ∧ (60 : Int) ≤ 300 := (by first | assumption | omega | (unfold R32 at *; omega) | (unfold R64 at *; omega) | (simp only [R32, R64] at *; omega))
    have hp_50 : ((cl_word4 (cl_beginLine v (v 3 3) (v 3 0))) 2 7) ≤ ((cl_word4 (cl_beginLine v (v 3 3) (v 3 0))) 2 4) := (show ((cl_word4 (cl_beginLine v (v 3 3) (v 3 0))) 2 7) ≤ ((cl_word4 (cl_beginLine v (v 3 3) (v 3 0))) 2 4) from (by first | assumption | omega | (unfold R32 at *; omega) | (unfold R64 at *; omega) | (simp only [R32, R64] at *; omega)))
    refine r_call (m := 40) (args := [.inr (.inr (some 2)), .inl 1, .inl 60]) (n' := 42) (pc' := 46) (lo' := [some (.inr (.inr (some 2))), some (.inl 2), some (.inl 0), none]) (st' := []) (I := .invokevirtual 40) (pc0 := 43) (len := 3) rfl rfl rfl (e_cl_number hX_45 hp_48 hp_49 hp_50) ?_
    show WV _ _ _ 46 _ [.inl ((cl_number (cl_word4 (cl_beginLine v (v 3 3) (v 3 0))) 1 60).1)] _ (cl_number (cl_word4 (cl_beginLine v (v 3 3) (v 3 0))) 1 60).2 _
    have hX_51 : XI (cl_number (cl_word4 (cl_beginLine v (v 3 3) (v 3 0))) 1 60).2 := i_cl_number (v := (cl_word4 (cl_beginLine v (v 3 3) (v 3 0)))) (l := 1) (g := 60) hX_45 hp_48 hp_49 hp_50
    have hb_52 : ((cl_number (cl_word4 (cl_beginLine v (v 3 3) (v 3 0))) 1 60).2) 3 2 = ((cl_word4 (cl_beginLine v (v 3 3) (v 3 0))) 3 2) := by rw [o_cl_number (by omega)] <;> rfl
    have hb_53 := n0_cl_number (v := (cl_word4 (cl_beginLine v (v 3 3) (v 3 0)))) (l := 1) (g := 60) hX_45 hp_48 hp_49 hp_50
    have hb_54 : ((cl_number (cl_word4 (cl_beginLine v (v 3 3) (v 3 0))) 1 60).2 2 7) ≤ ((cl_number (cl_word4 (cl_beginLine v (v 3 3) (v 3 0))) 1 60).2 2 4) := n1_cl_number (v := (cl_word4 (cl_beginLine v (v 3 3) (v 3 0)))) (l := 1) (g := 60) hX_45 hp_48 hp_49 hp_50
    refine r_ex 2 (pc' := 76) (lo' := [some (.inr (.inr (some 2))), some (.inl 2), some (.inl ((cl_number (cl_word4 (cl_beginLine v (v 3 3) (v 3 0))) 1 60).1)), none]) (st' := []) rfl ?_
    exact l_cl_readChurch_76  ((cl_number (cl_word4 (cl_beginLine v (v 3 3) (v 3 0))) 1 60).2) 2 ((cl_number (cl_word4 (cl_beginLine v (v 3 3) (v 3 0))) 1 60).1) _ hX_51 (by first | assumption | omega | (unfold R32 at *; omega) | (unfold R64 at *; omega) | (simp only [R32, R64] at *; omega)) (by first | assumption | omega | (unfold R32 at *; omega) | (unfold R64 at *; omega) | (simp only [R32, R64] at *; omega)) (show ((cl_number (cl_word4 (cl_beginLine v (v 3 3) (v 3 0))) 1 60).2 2 7) ≤ ((cl_number (cl_word4 (cl_beginLine v (v 3 3) (v 3 0))) 1 60).2 2 4) from (by first | assumption | omega | (unfold R32 at *; omega) | (unfold R64 at *; omega) | (simp only [R32, R64] at *; omega))) (fun hx_ p_0 p_1 => hQ hx_ p_0 (by omega))

theorem e_cl_readChurch {X : PX} {d : Nat} {v : VS}  (hX : XI v) (hp_a : (v 2 7) ≤ (v 2 4)) : EvV X (d + 1 + 1 + 1 + 1 + 1 + 1) 42 [.inr (.inr (some 2))] 1 v none 1 (cl_readChurch v) := EvV.of (w_cl_readChurch hX hp_a (fun _ _ _ => ⟨rfl, rfl, rfl⟩))

theorem i_cl_readChurch {v : VS}  (hX : XI v) (hp_a : (v 2 7) ≤ (v 2 4)) : XI (cl_readChurch v) := by
  have q : WV (0, fun _ => 0, none) (0 + 1 + 1 + 1 + 1 + 1 + 1) 42 0 [some (.inr (.inr (some 2))), none, none, none] [] 1 v (fun _ _ _ => XI (cl_readChurch v)) := w_cl_readChurch (X := (0, fun _ => 0, none)) (d := 0) hX hp_a (fun q _ _ => q)
  obtain ⟨_, _, _, _, _, _, _, q⟩ := q
  exact q

theorem n0_cl_readChurch {v : VS}  (hX : XI v) (hp_a : (v 2 7) ≤ (v 2 4)) : ((cl_readChurch v) 2 7) ≤ ((cl_readChurch v) 2 4) := by
  have q : WV (0, fun _ => 0, none) (0 + 1 + 1 + 1 + 1 + 1 + 1) 42 0 [some (.inr (.inr (some 2))), none, none, none] [] 1 v (fun _ _ _ => ((cl_readChurch v) 2 7) ≤ ((cl_readChurch v) 2 4)) := w_cl_readChurch (X := (0, fun _ => 0, none)) (d := 0) hX hp_a (fun _ q _ => q)
  obtain ⟨_, _, _, _, _, _, _, q⟩ := q
  exact q

theorem n1_cl_readChurch {v : VS}  (hX : XI v) (hp_a : (v 2 7) ≤ (v 2 4)) : ((cl_readChurch v) 3 2) = (v 3 2) := by
  have q : WV (0, fun _ => 0, none) (0 + 1 + 1 + 1 + 1 + 1 + 1) 42 0 [some (.inr (.inr (some 2))), none, none, none] [] 1 v (fun _ _ _ => ((cl_readChurch v) 3 2) = (v 3 2)) := w_cl_readChurch (X := (0, fun _ => 0, none)) (d := 0) hX hp_a (fun _ _ q => q)
  obtain ⟨_, _, _, _, _, _, _, q⟩ := q
  exact q

theorem o_cl_readChurch {rk : Nat} {v : VS}  (hk : (rk < 2 ∨ 6 < rk)) : (cl_readChurch v ) rk = v rk := by
  unfold cl_readChurch
  by_cases hc_ : (cl_isAt4 (cl_beginLine v (v 3 3) (v 3 0))) = 0
  · rw [if_pos hc_]
    by_cases hc_ : (cl_isAt5 (cl_beginLine v (v 3 3) (v 3 0))) = 0
    · rw [if_pos hc_]
      all_goals (rw [o_cl_readChurch_76 (by omega), o_cl_word6 (by omega), o_cl_beginLine (by omega)])
    · rw [if_neg hc_]
      all_goals (rw [o_cl_readChurch_76 (by omega), o_cl_word5 (by omega), o_cl_beginLine (by omega)])
  · rw [if_neg hc_]
    all_goals (rw [o_cl_readChurch_76 (by omega), o_cl_number (by omega), o_cl_word4 (by omega), o_cl_beginLine (by omega)])

def cl_readWay (v : VS)  : Int × VS :=
  (if (cl_isAt11 v) = 0 then (if (cl_isAt12 v) = 0 then (0, (cl_word13 v)) else (2, (cl_word12 v))) else (1, (cl_word11 v)))
theorem w_cl_readWay {X : PX} {d : Nat} {v : VS}  (hX : XI v) (hp_a : (v 2 7) ≤ (v 2 4)) {Q : Option PV → Nat → VS → Prop} (hQ : XI (cl_readWay v).2 → (0 ≤ (cl_readWay v).1 ∧ (cl_readWay v).1 ≤ 2) → (((cl_readWay v).2 2 7) ≤ ((cl_readWay v).2 2 4)) → Q (some (.inl (cl_readWay v).1)) 1 (cl_readWay v).2) : WV X (d + 1 + 1 + 1 + 1 + 1 + 1) 46 0 [some (.inr (.inr (some 2)))] [] 1 v Q := by
  rw [cl_readWay] at hQ
  refine r_ex 2 (pc' := 3) (lo' := [some (.inr (.inr (some 2)))]) (st' := [.inr (.inr (some 100023)), .inr (.inr (some 2))]) rfl ?_
  have hp_1 : (v 2 7) ≤ (v 2 4) := (show (v 2 7) ≤ (v 2 4) from (by first | assumption | omega | (unfold R32 at *; omega) | (unfold R64 at *; omega) | (simp only [R32, R64] at *; omega)))
  refine r_call (m := 27) (args := [.inr (.inr (some 2)), .inr (.inr (some 100023))]) (n' := 46) (pc' := 6) (lo' := [some (.inr (.inr (some 2)))]) (st' := []) (I := .invokevirtual 27) (pc0 := 3) (len := 3) rfl rfl rfl (e_cl_isAt11 hX hp_1) ?_
  show WV _ _ _ 6 _ [.inl (cl_isAt11 v)] _ _ _
  have hb_2 := n_cl_isAt11 (v := v) hX hp_1
  refine n_if_eq (pc0 := 6) (len := 3) (t := 17) rfl (by first | assumption | omega | (unfold R32 at *; omega) | (unfold R64 at *; omega) | (simp only [R32, R64] at *; omega)) (fun h_6 => ?_) (fun h_6 => ?_)
  · show WV _ _ _ 17 _ _ _ _ _
    rw [if_pos h_6] at hQ
    refine r_ex 2 (pc' := 20) (lo' := [some (.inr (.inr (some 2)))]) (st' := [.inr (.inr (some 100025)), .inr (.inr (some 2))]) rfl ?_
    have hp_3 : (v 2 7) ≤ (v 2 4) := (show (v 2 7) ≤ (v 2 4) from (by first | assumption | omega | (unfold R32 at *; omega) | (unfold R64 at *; omega) | (simp only [R32, R64] at *; omega)))
    refine r_call (m := 27) (args := [.inr (.inr (some 2)), .inr (.inr (some 100025))]) (n' := 46) (pc' := 23) (lo' := [some (.inr (.inr (some 2)))]) (st' := []) (I := .invokevirtual 27) (pc0 := 20) (len := 3) rfl rfl rfl (e_cl_isAt12 hX hp_3) ?_
    show WV _ _ _ 23 _ [.inl (cl_isAt12 v)] _ _ _
    have hb_4 := n_cl_isAt12 (v := v) hX hp_3
    refine n_if_eq (pc0 := 23) (len := 3) (t := 34) rfl (by first | assumption | omega | (unfold R32 at *; omega) | (unfold R64 at *; omega) | (simp only [R32, R64] at *; omega)) (fun h_23 => ?_) (fun h_23 => ?_)
    · show WV _ _ _ 34 _ _ _ _ _
      rw [if_pos h_23] at hQ
      refine r_ex 2 (pc' := 37) (lo' := [some (.inr (.inr (some 2)))]) (st' := [.inr (.inr (some 100027)), .inr (.inr (some 2))]) rfl ?_
      have hp_5 : (v 2 7) ≤ (v 2 4) := (show (v 2 7) ≤ (v 2 4) from (by first | assumption | omega | (unfold R32 at *; omega) | (unfold R64 at *; omega) | (simp only [R32, R64] at *; omega)))
      refine r_call (m := 26) (args := [.inr (.inr (some 2)), .inr (.inr (some 100027))]) (n' := 46) (pc' := 40) (lo' := [some (.inr (.inr (some 2)))]) (st' := []) (I := .invokevirtual 26) (pc0 := 37) (len := 3) rfl rfl rfl (e_cl_word13 hX hp_5) ?_
      show WV _ _ _ 40 _ [] _ (cl_word13 v) _
      have hX_6 : XI (cl_word13 v) := i_cl_word13 (v := v) hX hp_5
      have hb_7 : ((cl_word13 v) 2 7) ≤ ((cl_word13 v) 2 4) := n_cl_word13 (v := v) hX hp_5
      refine r_ex 1 (pc' := 41) (lo' := [some (.inr (.inr (some 2)))]) (st' := [.inl 0]) rfl ?_
      refine r_ret (rr := some (.inl 0)) (I := .ireturn) (pc0 := 41) (len := 1) rfl rfl ?_
      exact hQ hX_6 (by first | assumption | omega | (unfold R32 at *; omega) | (unfold R64 at *; omega) | (simp only [R32, R64] at *; omega)) (show ((cl_word13 v) 2 7) ≤ ((cl_word13 v) 2 4) from (by first | assumption | omega | (unfold R32 at *; omega) | (unfold R64 at *; omega) | (simp only [R32, R64] at *; omega)))
    · show WV _ _ _ 26 _ _ _ _ _
      rw [if_neg h_23] at hQ
      refine r_ex 2 (pc' := 29) (lo' := [some (.inr (.inr (some 2)))]) (st' := [.inr (.inr (some 100025)), .inr (.inr (some 2))]) rfl ?_
      have hp_8 : (v 2 7) ≤ (v 2 4) := (show (v 2 7) ≤ (v 2 4) from (by first | assumption | omega | (unfold R32 at *; omega) | (unfold R64 at *; omega) | (simp only [R32, R64] at *; omega)))
      refine r_call (m := 26) (args := [.inr (.inr (some 2)), .inr (.inr (some 100025))]) (n' := 46) (pc' := 32) (lo' := [some (.inr (.inr (some 2)))]) (st' := []) (I := .invokevirtual 26) (pc0 := 29) (len := 3) rfl rfl rfl (e_cl_word12 hX hp_8) ?_
      show WV _ _ _ 32 _ [] _ (cl_word12 v) _
      have hX_9 : XI (cl_word12 v) := i_cl_word12 (v := v) hX hp_8
      have hb_10 : ((cl_word12 v) 2 7) ≤ ((cl_word12 v) 2 4) := n_cl_word12 (v := v) hX hp_8
      refine r_ex 1 (pc' := 33) (lo' := [some (.inr (.inr (some 2)))]) (st' := [.inl 2]) rfl ?_
      refine r_ret (rr := some (.inl 2)) (I := .ireturn) (pc0 := 33) (len := 1) rfl rfl ?_
      exact hQ hX_9 (by first | assumption | omega | (unfold R32 at *; omega) | (unfold R64 at *; omega) | (simp only [R32, R64] at *; omega)) (show ((cl_word12 v) 2 7) ≤ ((cl_word12 v) 2 4) from (by first | assumption | omega | (unfold R32 at *; omega) | (unfold R64 at *; omega) | (simp only [R32, R64] at *; omega)))
  · show WV _ _ _ 9 _ _ _ _ _
    rw [if_neg h_6] at hQ
    refine r_ex 2 (pc' := 12) (lo' := [some (.inr (.inr (some 2)))]) (st' := [.inr (.inr (some 100023)), .inr (.inr (some 2))]) rfl ?_
    have hp_11 : (v 2 7) ≤ (v 2 4) := (show (v 2 7) ≤ (v 2 4) from (by first | assumption | omega | (unfold R32 at *; omega) | (unfold R64 at *; omega) | (simp only [R32, R64] at *; omega)))
    refine r_call (m := 26) (args := [.inr (.inr (some 2)), .inr (.inr (some 100023))]) (n' := 46) (pc' := 15) (lo' := [some (.inr (.inr (some 2)))]) (st' := []) (I := .invokevirtual 26) (pc0 := 12) (len := 3) rfl rfl rfl (e_cl_word11 hX hp_11) ?_
    show WV _ _ _ 15 _ [] _ (cl_word11 v) _
    have hX_12 : XI (cl_word11 v) := i_cl_word11 (v := v) hX hp_11
    have hb_13 : ((cl_word11 v) 2 7) ≤ ((cl_word11 v) 2 4) := n_cl_word11 (v := v) hX hp_11
    refine r_ex 1 (pc' := 16) (lo' := [some (.inr (.inr (some 2)))]) (st' := [.inl 1]) rfl ?_
    refine r_ret (rr := some (.inl 1)) (I := .ireturn) (pc0 := 16) (len := 1) rfl rfl ?_
    exact hQ hX_12 (by first | assumption | omega | (unfold R32 at *; omega) | (unfold R64 at *; omega) | (simp only [R32, R64] at *; omega)) (show ((cl_word11 v) 2 7) ≤ ((cl_word11 v) 2 4) from (by first | assumption | omega | (unfold R32 at *; omega) | (unfold R64 at *; omega) | (simp only [R32, R64] at *; omega)))

theorem e_cl_readWay {X : PX} {d : Nat} {v : VS}  (hX : XI v) (hp_a : (v 2 7) ≤ (v 2 4)) : EvV X (d + 1 + 1 + 1 + 1 + 1 + 1) 46 [.inr (.inr (some 2))] 1 v (some (.inl (cl_readWay v).1)) 1 ((cl_readWay v).2) := EvV.of (w_cl_readWay hX hp_a (fun _ _ _ => ⟨rfl, rfl, rfl⟩))

theorem i_cl_readWay {v : VS}  (hX : XI v) (hp_a : (v 2 7) ≤ (v 2 4)) : XI ((cl_readWay v).2) := by
  have q : WV (0, fun _ => 0, none) (0 + 1 + 1 + 1 + 1 + 1 + 1) 46 0 [some (.inr (.inr (some 2)))] [] 1 v (fun _ _ _ => XI ((cl_readWay v).2)) := w_cl_readWay (X := (0, fun _ => 0, none)) (d := 0) hX hp_a (fun q _ _ => q)
  obtain ⟨_, _, _, _, _, _, _, q⟩ := q
  exact q

theorem n0_cl_readWay {v : VS}  (hX : XI v) (hp_a : (v 2 7) ≤ (v 2 4)) : 0 ≤ (cl_readWay v).1 ∧ (cl_readWay v).1 ≤ 2 := by
  have q : WV (0, fun _ => 0, none) (0 + 1 + 1 + 1 + 1 + 1 + 1) 46 0 [some (.inr (.inr (some 2)))] [] 1 v (fun _ _ _ => 0 ≤ (cl_readWay v).1 ∧ (cl_readWay v).1 ≤ 2) := w_cl_readWay (X := (0, fun _ => 0, none)) (d := 0) hX hp_a (fun _ q _ => q)
  obtain ⟨_, _, _, _, _, _, _, q⟩ := q
  exact q

theorem n1_cl_readWay {v : VS}  (hX : XI v) (hp_a : (v 2 7) ≤ (v 2 4)) : ((cl_readWay v).2 2 7) ≤ ((cl_readWay v).2 2 4) := by
  have q : WV (0, fun _ => 0, none) (0 + 1 + 1 + 1 + 1 + 1 + 1) 46 0 [some (.inr (.inr (some 2)))] [] 1 v (fun _ _ _ => ((cl_readWay v).2 2 7) ≤ ((cl_readWay v).2 2 4)) := w_cl_readWay (X := (0, fun _ => 0, none)) (d := 0) hX hp_a (fun _ _ q => q)
  obtain ⟨_, _, _, _, _, _, _, q⟩ := q
  exact q

theorem o_cl_readWay {rk : Nat} {v : VS}  (hk : (rk < 2 ∨ 2 < rk)) : (cl_readWay v ).2 rk = v rk := by
  unfold cl_readWay
  by_cases hc_ : (cl_isAt11 v) = 0
  · rw [if_pos hc_]
    by_cases hc_ : (cl_isAt12 v) = 0
    · rw [if_pos hc_]
      all_goals (show (cl_word13 v) rk = _)
      all_goals (rw [o_cl_word13 (by omega)])
    · rw [if_neg hc_]
      all_goals (show (cl_word12 v) rk = _)
      all_goals (rw [o_cl_word12 (by omega)])
  · rw [if_neg hc_]
    all_goals (show (cl_word11 v) rk = _)
    all_goals (rw [o_cl_word11 (by omega)])

def cl_readEar_65 (v : VS) (c : Int) : VS :=
  (if ((cl_stop ((cl_readWay ((cl_number (cl_word10 ((cl_number v 0 ((v 3 0) - 1)).2)) 1 60).2)).2)) 2 1) = 0 then (cl_eaAdd (cl_stop ((cl_readWay ((cl_number (cl_word10 ((cl_number v 0 ((v 3 0) - 1)).2)) 1 60).2)).2)) c ((cl_number v 0 ((v 3 0) - 1)).1) ((cl_number (cl_word10 ((cl_number v 0 ((v 3 0) - 1)).2)) 1 60).1) ((cl_readWay ((cl_number (cl_word10 ((cl_number v 0 ((v 3 0) - 1)).2)) 1 60).2)).1)) else (cl_stop ((cl_readWay ((cl_number (cl_word10 ((cl_number v 0 ((v 3 0) - 1)).2)) 1 60).2)).2)))
def cl_readEar (v : VS)  : VS :=
  (if ((cl_word9 ((cl_number (cl_beginLine v (v 7 0) 12) 0 (((cl_beginLine v (v 7 0) 12) 3 0) - 1)).2)) 2 1) = 0 then (if ((cl_word9 ((cl_number (cl_beginLine v (v 7 0) 12) 0 (((cl_beginLine v (v 7 0) 12) 3 0) - 1)).2)) 2 5) = 2 then (if ((cl_word9 ((cl_number (cl_beginLine v (v 7 0) 12) 0 (((cl_beginLine v (v 7 0) 12) 3 0) - 1)).2)) 2 8) = (cl_number (cl_beginLine v (v 7 0) 12) 0 (((cl_beginLine v (v 7 0) 12) 3 0) - 1)).1 then (cl_readEar_65  (cl_fail (cl_word9 ((cl_number (cl_beginLine v (v 7 0) 12) 0 (((cl_beginLine v (v 7 0) 12) 3 0) - 1)).2)) 2) ((cl_number (cl_beginLine v (v 7 0) 12) 0 (((cl_beginLine v (v 7 0) 12) 3 0) - 1)).1)) else (cl_readEar_65  (cl_word9 ((cl_number (cl_beginLine v (v 7 0) 12) 0 (((cl_beginLine v (v 7 0) 12) 3 0) - 1)).2)) ((cl_number (cl_beginLine v (v 7 0) 12) 0 (((cl_beginLine v (v 7 0) 12) 3 0) - 1)).1))) else (cl_readEar_65  (cl_word9 ((cl_number (cl_beginLine v (v 7 0) 12) 0 (((cl_beginLine v (v 7 0) 12) 3 0) - 1)).2)) ((cl_number (cl_beginLine v (v 7 0) 12) 0 (((cl_beginLine v (v 7 0) 12) 3 0) - 1)).1))) else (cl_readEar_65  (cl_word9 ((cl_number (cl_beginLine v (v 7 0) 12) 0 (((cl_beginLine v (v 7 0) 12) 3 0) - 1)).2)) ((cl_number (cl_beginLine v (v 7 0) 12) 0 (((cl_beginLine v (v 7 0) 12) 3 0) - 1)).1)))
theorem l_cl_readEar_65 {X : PX} {d : Nat} {Q : Option PV → Nat → VS → Prop}  : ∀ (v : VS) (c : Int) (o2 : Option PV) (o3 : Option PV) (o4 : Option PV), XI v → (0 ≤ c ∧ c ≤ 8) → ((v 2 7) ≤ (v 2 4)) → (XI (cl_readEar_65 v c) → (((cl_readEar_65 v c) 2 7) ≤ ((cl_readEar_65 v c) 2 4)) → Q none 1 (cl_readEar_65 v c)) → WV X (d + 1 + 1 + 1 + 1 + 1 + 1 + 1) 45 65 [some (.inr (.inr (some 2))), some (.inl c), o2, o3, o4] [] 1 v Q := by
  intro v c o2 o3 o4 hX hi_0 hi_1 hQ
  rw [cl_readEar_65] at hQ
  refine r_ex 7 (pc' := 76) (lo' := [some (.inr (.inr (some 2))), some (.inl c), o2, o3, o4]) (st' := [.inl ((v 3 0) - 1), .inl 0, .inr (.inr (some 2))]) rfl ?_
  have hb_21 : 0 ≤ (v 3 0) ∧ (v 3 0) ≤ 9 := hX 3 0
  have hp_22 : 0 ≤ (0 : Int) ∧ (0 : Int) ≤ 300 := (by first | assumption | omega | (unfold R32 at *; omega) | (unfold R64 at *; omega) | (simp only [R32, R64] at *; omega))
  have hp_23 : -1 ≤ ((v 3 0) - 1) ∧ ((v 3 0) - 1) ≤ 300 := (by first | assumption | omega | (unfold R32 at *; omega) | (unfold R64 at *; omega) | (simp only [R32, R64] at *; omega))
  have hp_24 : (v 2 7) ≤ (v 2 4) := (show (v 2 7) ≤ (v 2 4) from (by first | assumption | omega | (unfold R32 at *; omega) | (unfold R64 at *; omega) | (simp only [R32, R64] at *; omega)))
  refine r_call (m := 40) (args := [.inr (.inr (some 2)), .inl 0, .inl ((v 3 0) - 1)]) (n' := 45) (pc' := 79) (lo' := [some (.inr (.inr (some 2))), some (.inl c), o2, o3, o4]) (st' := []) (I := .invokevirtual 40) (pc0 := 76) (len := 3) rfl rfl rfl (e_cl_number hX hp_22 hp_23 hp_24) ?_
  show WV _ _ _ 79 _ [.inl ((cl_number v 0 ((v 3 0) - 1)).1)] _ (cl_number v 0 ((v 3 0) - 1)).2 _
  have hX_25 : XI (cl_number v 0 ((v 3 0) - 1)).2 := i_cl_number (v := v) (l := 0) (g := ((v 3 0) - 1)) hX hp_22 hp_23 hp_24
  have hb_26 : ((cl_number v 0 ((v 3 0) - 1)).2) 3 2 = (v 3 2) := by rw [o_cl_number (by omega)] <;> rfl
  have hb_27 := n0_cl_number (v := v) (l := 0) (g := ((v 3 0) - 1)) hX hp_22 hp_23 hp_24
  have hb_28 : ((cl_number v 0 ((v 3 0) - 1)).2 2 7) ≤ ((cl_number v 0 ((v 3 0) - 1)).2 2 4) := n1_cl_number (v := v) (l := 0) (g := ((v 3 0) - 1)) hX hp_22 hp_23 hp_24
  refine r_ex 3 (pc' := 83) (lo' := [some (.inr (.inr (some 2))), some (.inl c), some (.inl ((cl_number v 0 ((v 3 0) - 1)).1)), o3, o4]) (st' := [.inr (.inr (some 100021)), .inr (.inr (some 2))]) rfl ?_
  have hp_29 : (((cl_number v 0 ((v 3 0) - 1)).2) 2 7) ≤ (((cl_number v 0 ((v 3 0) - 1)).2) 2 4) := (show ((cl_number v 0 ((v 3 0) - 1)).2 2 7) ≤ ((cl_number v 0 ((v 3 0) - 1)).2 2 4) from (by first | assumption | omega | (unfold R32 at *; omega) | (unfold R64 at *; omega) | (simp only [R32, R64] at *; omega)))
  refine r_call (m := 26) (args := [.inr (.inr (some 2)), .inr (.inr (some 100021))]) (n' := 45) (pc' := 86) (lo' := [some (.inr (.inr (some 2))), some (.inl c), some (.inl ((cl_number v 0 ((v 3 0) - 1)).1)), o3, o4]) (st' := []) (I := .invokevirtual 26) (pc0 := 83) (len := 3) rfl rfl rfl (e_cl_word10 hX_25 hp_29) ?_
  show WV _ _ _ 86 _ [] _ (cl_word10 ((cl_number v 0 ((v 3 0) - 1)).2)) _
  have hX_30 : XI (cl_word10 ((cl_number v 0 ((v 3 0) - 1)).2)) := i_cl_word10 (v := (cl_number v 0 ((v 3 0) - 1)).2) hX_25 hp_29
  have hb_31 : (cl_word10 ((cl_number v 0 ((v 3 0) - 1)).2)) 3 2 = ((cl_number v 0 ((v 3 0) - 1)).2 3 2) := by rw [o_cl_word10 (by omega)] <;> rfl
  have hb_32 : ((cl_word10 ((cl_number v 0 ((v 3 0) - 1)).2)) 2 7) ≤ ((cl_word10 ((cl_number v 0 ((v 3 0) - 1)).2)) 2 4) := n_cl_word10 (v := (cl_number v 0 ((v 3 0) - 1)).2) hX_25 hp_29
  refine r_ex 3 (pc' := 90) (lo' := [some (.inr (.inr (some 2))), some (.inl c), some (.inl ((cl_number v 0 ((v 3 0) - 1)).1)), o3, o4]) (st' := [.inl 60, .inl 1, .inr (.inr (some 2))]) rfl ?_
  have hp_33 : 0 ≤ (1 : Int) ∧ (1 : Int) ≤ 300 := (by first | assumption | omega | (unfold R32 at *; omega) | (unfold R64 at *; omega) | (simp only [R32, R64] at *; omega))
  have hp_34 : -1 ≤ (60 : Int) ∧ (60 : Int) ≤ 300 := (by first | assumption | omega | (unfold R32 at *; omega) | (unfold R64 at *; omega) | (simp only [R32, R64] at *; omega))
  have hp_35 : ((cl_word10 ((cl_number v 0 ((v 3 0) - 1)).2)) 2 7) ≤ ((cl_word10 ((cl_number v 0 ((v 3 0) - 1)).2)) 2 4) := (show ((cl_word10 ((cl_number v 0 ((v 3 0) - 1)).2)) 2 7) ≤ ((cl_word10 ((cl_number v 0 ((v 3 0) - 1)).2)) 2 4) from (by first | assumption | omega | (unfold R32 at *; omega) | (unfold R64 at *; omega) | (simp only [R32, R64] at *; omega)))
  refine r_call (m := 40) (args := [.inr (.inr (some 2)), .inl 1, .inl 60]) (n' := 45) (pc' := 93) (lo' := [some (.inr (.inr (some 2))), some (.inl c), some (.inl ((cl_number v 0 ((v 3 0) - 1)).1)), o3, o4]) (st' := []) (I := .invokevirtual 40) (pc0 := 90) (len := 3) rfl rfl rfl (e_cl_number hX_30 hp_33 hp_34 hp_35) ?_
  show WV _ _ _ 93 _ [.inl ((cl_number (cl_word10 ((cl_number v 0 ((v 3 0) - 1)).2)) 1 60).1)] _ (cl_number (cl_word10 ((cl_number v 0 ((v 3 0) - 1)).2)) 1 60).2 _
  have hX_36 : XI (cl_number (cl_word10 ((cl_number v 0 ((v 3 0) - 1)).2)) 1 60).2 := i_cl_number (v := (cl_word10 ((cl_number v 0 ((v 3 0) - 1)).2))) (l := 1) (g := 60) hX_30 hp_33 hp_34 hp_35
  have hb_37 : ((cl_number (cl_word10 ((cl_number v 0 ((v 3 0) - 1)).2)) 1 60).2) 3 2 = ((cl_word10 ((cl_number v 0 ((v 3 0) - 1)).2)) 3 2) := by rw [o_cl_number (by omega)] <;> rfl
  have hb_38 := n0_cl_number (v := (cl_word10 ((cl_number v 0 ((v 3 0) - 1)).2))) (l := 1) (g := 60) hX_30 hp_33 hp_34 hp_35
  have hb_39 : ((cl_number (cl_word10 ((cl_number v 0 ((v 3 0) - 1)).2)) 1 60).2 2 7) ≤ ((cl_number (cl_word10 ((cl_number v 0 ((v 3 0) - 1)).2)) 1 60).2 2 4) := n1_cl_number (v := (cl_word10 ((cl_number v 0 ((v 3 0) - 1)).2))) (l := 1) (g := 60) hX_30 hp_33 hp_34 hp_35
  refine r_ex 2 (pc' := 95) (lo' := [some (.inr (.inr (some 2))), some (.inl c), some (.inl ((cl_number v 0 ((v 3 0) - 1)).1)), some (.inl ((cl_number (cl_word10 ((cl_number v 0 ((v 3 0) - 1)).2)) 1 60).1)), o4]) (st' := [.inr (.inr (some 2))]) rfl ?_
  have hp_40 : (((cl_number (cl_word10 ((cl_number v 0 ((v 3 0) - 1)).2)) 1 60).2) 2 7) ≤ (((cl_number (cl_word10 ((cl_number v 0 ((v 3 0) - 1)).2)) 1 60).2) 2 4) := (show ((cl_number (cl_word10 ((cl_number v 0 ((v 3 0) - 1)).2)) 1 60).2 2 7) ≤ ((cl_number (cl_word10 ((cl_number v 0 ((v 3 0) - 1)).2)) 1 60).2 2 4) from (by first | assumption | omega | (unfold R32 at *; omega) | (unfold R64 at *; omega) | (simp only [R32, R64] at *; omega)))
  refine r_call (m := 46) (args := [.inr (.inr (some 2))]) (n' := 45) (pc' := 98) (lo' := [some (.inr (.inr (some 2))), some (.inl c), some (.inl ((cl_number v 0 ((v 3 0) - 1)).1)), some (.inl ((cl_number (cl_word10 ((cl_number v 0 ((v 3 0) - 1)).2)) 1 60).1)), o4]) (st' := []) (I := .invokevirtual 46) (pc0 := 95) (len := 3) rfl rfl rfl (e_cl_readWay hX_36 hp_40) ?_
  show WV _ _ _ 98 _ [.inl ((cl_readWay ((cl_number (cl_word10 ((cl_number v 0 ((v 3 0) - 1)).2)) 1 60).2)).1)] _ (cl_readWay ((cl_number (cl_word10 ((cl_number v 0 ((v 3 0) - 1)).2)) 1 60).2)).2 _
  have hX_41 : XI (cl_readWay ((cl_number (cl_word10 ((cl_number v 0 ((v 3 0) - 1)).2)) 1 60).2)).2 := i_cl_readWay (v := (cl_number (cl_word10 ((cl_number v 0 ((v 3 0) - 1)).2)) 1 60).2) hX_36 hp_40
  have hb_42 : ((cl_readWay ((cl_number (cl_word10 ((cl_number v 0 ((v 3 0) - 1)).2)) 1 60).2)).2) 3 2 = ((cl_number (cl_word10 ((cl_number v 0 ((v 3 0) - 1)).2)) 1 60).2 3 2) := by rw [o_cl_readWay (by omega)] <;> rfl
  have hb_43 := n0_cl_readWay (v := (cl_number (cl_word10 ((cl_number v 0 ((v 3 0) - 1)).2)) 1 60).2) hX_36 hp_40
  have hb_44 : ((cl_readWay ((cl_number (cl_word10 ((cl_number v 0 ((v 3 0) - 1)).2)) 1 60).2)).2 2 7) ≤ ((cl_readWay ((cl_number (cl_word10 ((cl_number v 0 ((v 3 0) - 1)).2)) 1 60).2)).2 2 4) := n1_cl_readWay (v := (cl_number (cl_word10 ((cl_number v 0 ((v 3 0) - 1)).2)) 1 60).2) hX_36 hp_40
  refine r_ex 2 (pc' := 101) (lo' := [some (.inr (.inr (some 2))), some (.inl c), some (.inl ((cl_number v 0 ((v 3 0) - 1)).1)), some (.inl ((cl_number (cl_word10 ((cl_number v 0 ((v 3 0) - 1)).2)) 1 60).1)), some (.inl ((cl_readWay ((cl_number (cl_word10 ((cl_number v 0 ((v 3 0) - 1)).2)) 1 60).2)).1))]) (st' := [.inr (.inr (some 2))]) rfl ?_
  have hp_45 : (((cl_readWay ((cl_number (cl_word10 ((cl_number v 0 ((v 3 0) - 1)).2)) 1 60).2)).2) 2 7) ≤ (((cl_readWay ((cl_number (cl_word10 ((cl_number v 0 ((v 3 0) - 1)).2)) 1 60).2)).2) 2 4) := (show ((cl_readWay ((cl_number (cl_word10 ((cl_number v 0 ((v 3 0) - 1)).2)) 1 60).2)).2 2 7) ≤ ((cl_readWay ((cl_number (cl_word10 ((cl_number v 0 ((v 3 0) - 1)).2)) 1 60).2)).2 2 4) from (by first | assumption | omega | (unfold R32 at *; omega) | (unfold R64 at *; omega) | (simp only [R32, R64] at *; omega)))
  refine r_call (m := 41) (args := [.inr (.inr (some 2))]) (n' := 45) (pc' := 104) (lo' := [some (.inr (.inr (some 2))), some (.inl c), some (.inl ((cl_number v 0 ((v 3 0) - 1)).1)), some (.inl ((cl_number (cl_word10 ((cl_number v 0 ((v 3 0) - 1)).2)) 1 60).1)), some (.inl ((cl_readWay ((cl_number (cl_word10 ((cl_number v 0 ((v 3 0) - 1)).2)) 1 60).2)).1))]) (st' := []) (I := .invokevirtual 41) (pc0 := 101) (len := 3) rfl rfl rfl (e_cl_stop hX_41 hp_45) ?_
  show WV _ _ _ 104 _ [] _ (cl_stop ((cl_readWay ((cl_number (cl_word10 ((cl_number v 0 ((v 3 0) - 1)).2)) 1 60).2)).2)) _
  have hX_46 : XI (cl_stop ((cl_readWay ((cl_number (cl_word10 ((cl_number v 0 ((v 3 0) - 1)).2)) 1 60).2)).2)) := i_cl_stop (v := (cl_readWay ((cl_number (cl_word10 ((cl_number v 0 ((v 3 0) - 1)).2)) 1 60).2)).2) hX_41 hp_45
  have hb_47 : (cl_stop ((cl_readWay ((cl_number (cl_word10 ((cl_number v 0 ((v 3 0) - 1)).2)) 1 60).2)).2)) 3 2 = ((cl_readWay ((cl_number (cl_word10 ((cl_number v 0 ((v 3 0) - 1)).2)) 1 60).2)).2 3 2) := by rw [o_cl_stop (by omega)] <;> rfl
  have hb_48 : ((cl_stop ((cl_readWay ((cl_number (cl_word10 ((cl_number v 0 ((v 3 0) - 1)).2)) 1 60).2)).2)) 2 7) ≤ ((cl_stop ((cl_readWay ((cl_number (cl_word10 ((cl_number v 0 ((v 3 0) - 1)).2)) 1 60).2)).2)) 2 4) := n_cl_stop (v := (cl_readWay ((cl_number (cl_word10 ((cl_number v 0 ((v 3 0) - 1)).2)) 1 60).2)).2) hX_41 hp_45
  refine r_ex 2 (pc' := 108) (lo' := [some (.inr (.inr (some 2))), some (.inl c), some (.inl ((cl_number v 0 ((v 3 0) - 1)).1)), some (.inl ((cl_number (cl_word10 ((cl_number v 0 ((v 3 0) - 1)).2)) 1 60).1)), some (.inl ((cl_readWay ((cl_number (cl_word10 ((cl_number v 0 ((v 3 0) - 1)).2)) 1 60).2)).1))]) (st' := [.inl ((cl_stop ((cl_readWay ((cl_number (cl_word10 ((cl_number v 0 ((v 3 0) - 1)).2)) 1 60).2)).2)) 2 1)]) rfl ?_
  have hb_49 : 0 ≤ ((cl_stop ((cl_readWay ((cl_number (cl_word10 ((cl_number v 0 ((v 3 0) - 1)).2)) 1 60).2)).2)) 2 1) ∧ ((cl_stop ((cl_readWay ((cl_number (cl_word10 ((cl_number v 0 ((v 3 0) - 1)).2)) 1 60).2)).2)) 2 1) ≤ 3 := hX_46 2 1
  refine n_if_ne (pc0 := 108) (len := 3) (t := 126) rfl (by first | assumption | omega | (unfold R32 at *; omega) | (unfold R64 at *; omega) | (simp only [R32, R64] at *; omega)) (fun h_108 => ?_) (fun h_108 => ?_)
  · show WV _ _ _ 126 _ _ _ _ _
    rw [if_neg h_108] at hQ
    refine r_ret (rr := none) (I := .return_) (pc0 := 126) (len := 1) rfl rfl ?_
    exact hQ hX_46 (show ((cl_stop ((cl_readWay ((cl_number (cl_word10 ((cl_number v 0 ((v 3 0) - 1)).2)) 1 60).2)).2)) 2 7) ≤ ((cl_stop ((cl_readWay ((cl_number (cl_word10 ((cl_number v 0 ((v 3 0) - 1)).2)) 1 60).2)).2)) 2 4) from (by first | assumption | omega | (unfold R32 at *; omega) | (unfold R64 at *; omega) | (simp only [R32, R64] at *; omega)))
  · show WV _ _ _ 111 _ _ _ _ _
    rw [if_pos h_108] at hQ
    refine r_ex 7 (pc' := 123) (lo' := [some (.inr (.inr (some 2))), some (.inl c), some (.inl ((cl_number v 0 ((v 3 0) - 1)).1)), some (.inl ((cl_number (cl_word10 ((cl_number v 0 ((v 3 0) - 1)).2)) 1 60).1)), some (.inl ((cl_readWay ((cl_number (cl_word10 ((cl_number v 0 ((v 3 0) - 1)).2)) 1 60).2)).1))]) (st' := [.inl ((cl_readWay ((cl_number (cl_word10 ((cl_number v 0 ((v 3 0) - 1)).2)) 1 60).2)).1), .inl ((cl_number (cl_word10 ((cl_number v 0 ((v 3 0) - 1)).2)) 1 60).1), .inl ((cl_number v 0 ((v 3 0) - 1)).1), .inl c, .inr (.inr (some 7))]) rfl ?_
    have hp_50 : 0 ≤ c ∧ c ≤ 8 := (by first | assumption | omega | (unfold R32 at *; omega) | (unfold R64 at *; omega) | (simp only [R32, R64] at *; omega))
    have hp_51 : 0 ≤ ((cl_number v 0 ((v 3 0) - 1)).1) ∧ ((cl_number v 0 ((v 3 0) - 1)).1) ≤ 8 := (by first | assumption | omega | (unfold R32 at *; omega) | (unfold R64 at *; omega) | (simp only [R32, R64] at *; omega))
    have hp_52 : 0 ≤ ((cl_number (cl_word10 ((cl_number v 0 ((v 3 0) - 1)).2)) 1 60).1) ∧ ((cl_number (cl_word10 ((cl_number v 0 ((v 3 0) - 1)).2)) 1 60).1) ≤ 60 := (by first | assumption | omega | (unfold R32 at *; omega) | (unfold R64 at *; omega) | (simp only [R32, R64] at *; omega))
    have hp_53 : 0 ≤ ((cl_readWay ((cl_number (cl_word10 ((cl_number v 0 ((v 3 0) - 1)).2)) 1 60).2)).1) ∧ ((cl_readWay ((cl_number (cl_word10 ((cl_number v 0 ((v 3 0) - 1)).2)) 1 60).2)).1) ≤ 2 := (by first | assumption | omega | (unfold R32 at *; omega) | (unfold R64 at *; omega) | (simp only [R32, R64] at *; omega))
    refine r_call (m := 47) (args := [.inr (.inr (some 7)), .inl c, .inl ((cl_number v 0 ((v 3 0) - 1)).1), .inl ((cl_number (cl_word10 ((cl_number v 0 ((v 3 0) - 1)).2)) 1 60).1), .inl ((cl_readWay ((cl_number (cl_word10 ((cl_number v 0 ((v 3 0) - 1)).2)) 1 60).2)).1)]) (n' := 45) (pc' := 126) (lo' := [some (.inr (.inr (some 2))), some (.inl c), some (.inl ((cl_number v 0 ((v 3 0) - 1)).1)), some (.inl ((cl_number (cl_word10 ((cl_number v 0 ((v 3 0) - 1)).2)) 1 60).1)), some (.inl ((cl_readWay ((cl_number (cl_word10 ((cl_number v 0 ((v 3 0) - 1)).2)) 1 60).2)).1))]) (st' := []) (I := .invokevirtual 47) (pc0 := 123) (len := 3) rfl rfl rfl (e_cl_eaAdd hX_46 hp_50 hp_51 hp_52 hp_53) ?_
    show WV _ _ _ 126 _ [] _ (cl_eaAdd (cl_stop ((cl_readWay ((cl_number (cl_word10 ((cl_number v 0 ((v 3 0) - 1)).2)) 1 60).2)).2)) c ((cl_number v 0 ((v 3 0) - 1)).1) ((cl_number (cl_word10 ((cl_number v 0 ((v 3 0) - 1)).2)) 1 60).1) ((cl_readWay ((cl_number (cl_word10 ((cl_number v 0 ((v 3 0) - 1)).2)) 1 60).2)).1)) _
    have hX_54 : XI (cl_eaAdd (cl_stop ((cl_readWay ((cl_number (cl_word10 ((cl_number v 0 ((v 3 0) - 1)).2)) 1 60).2)).2)) c ((cl_number v 0 ((v 3 0) - 1)).1) ((cl_number (cl_word10 ((cl_number v 0 ((v 3 0) - 1)).2)) 1 60).1) ((cl_readWay ((cl_number (cl_word10 ((cl_number v 0 ((v 3 0) - 1)).2)) 1 60).2)).1)) := i_cl_eaAdd (v := (cl_stop ((cl_readWay ((cl_number (cl_word10 ((cl_number v 0 ((v 3 0) - 1)).2)) 1 60).2)).2))) (c := c) (o := (cl_number v 0 ((v 3 0) - 1)).1) (s := (cl_number (cl_word10 ((cl_number v 0 ((v 3 0) - 1)).2)) 1 60).1) (w := (cl_readWay ((cl_number (cl_word10 ((cl_number v 0 ((v 3 0) - 1)).2)) 1 60).2)).1) hX_46 hp_50 hp_51 hp_52 hp_53
    have hb_55 : (cl_eaAdd (cl_stop ((cl_readWay ((cl_number (cl_word10 ((cl_number v 0 ((v 3 0) - 1)).2)) 1 60).2)).2)) c ((cl_number v 0 ((v 3 0) - 1)).1) ((cl_number (cl_word10 ((cl_number v 0 ((v 3 0) - 1)).2)) 1 60).1) ((cl_readWay ((cl_number (cl_word10 ((cl_number v 0 ((v 3 0) - 1)).2)) 1 60).2)).1)) 2 7 = ((cl_stop ((cl_readWay ((cl_number (cl_word10 ((cl_number v 0 ((v 3 0) - 1)).2)) 1 60).2)).2)) 2 7) := by rw [o_cl_eaAdd (by omega)] <;> rfl
    have hb_56 : (cl_eaAdd (cl_stop ((cl_readWay ((cl_number (cl_word10 ((cl_number v 0 ((v 3 0) - 1)).2)) 1 60).2)).2)) c ((cl_number v 0 ((v 3 0) - 1)).1) ((cl_number (cl_word10 ((cl_number v 0 ((v 3 0) - 1)).2)) 1 60).1) ((cl_readWay ((cl_number (cl_word10 ((cl_number v 0 ((v 3 0) - 1)).2)) 1 60).2)).1)) 2 4 = ((cl_stop ((cl_readWay ((cl_number (cl_word10 ((cl_number v 0 ((v 3 0) - 1)).2)) 1 60).2)).2)) 2 4) := by rw [o_cl_eaAdd (by omega)] <;> rfl
    have hb_57 : (cl_eaAdd (cl_stop ((cl_readWay ((cl_number (cl_word10 ((cl_number v 0 ((v 3 0) - 1)).2)) 1 60).2)).2)) c ((cl_number v 0 ((v 3 0) - 1)).1) ((cl_number (cl_word10 ((cl_number v 0 ((v 3 0) - 1)).2)) 1 60).1) ((cl_readWay ((cl_number (cl_word10 ((cl_number v 0 ((v 3 0) - 1)).2)) 1 60).2)).1)) 3 2 = ((cl_stop ((cl_readWay ((cl_number (cl_word10 ((cl_number v 0 ((v 3 0) - 1)).2)) 1 60).2)).2)) 3 2) := by rw [o_cl_eaAdd (by omega)] <;> rfl
    refine r_ret (rr := none) (I := .return_) (pc0 := 126) (len := 1) rfl rfl ?_
    exact hQ hX_54 (show ((cl_eaAdd (cl_stop ((cl_readWay ((cl_number (cl_word10 ((cl_number v 0 ((v 3 0) - 1)).2)) 1 60).2)).2)) c ((cl_number v 0 ((v 3 0) - 1)).1) ((cl_number (cl_word10 ((cl_number v 0 ((v 3 0) - 1)).2)) 1 60).1) ((cl_readWay ((cl_number (cl_word10 ((cl_number v 0 ((v 3 0) - 1)).2)) 1 60).2)).1)) 2 7) ≤ ((cl_eaAdd (cl_stop ((cl_readWay ((cl_number (cl_word10 ((cl_number v 0 ((v 3 0) - 1)).2)) 1 60).2)).2)) c ((cl_number v 0 ((v 3 0) - 1)).1) ((cl_number (cl_word10 ((cl_number v 0 ((v 3 0) - 1)).2)) 1 60).1) ((cl_readWay ((cl_number (cl_word10 ((cl_number v 0 ((v 3 0) - 1)).2)) 1 60).2)).1)) 2 4) from (by first | assumption | omega | (unfold R32 at *; omega) | (unfold R64 at *; omega) | (simp only [R32, R64] at *; omega)))

theorem o_cl_readEar_65 {rk : Nat} {v : VS} {c : Int} (hk : (rk < 2 ∨ 2 < rk) ∧ (rk < 7 ∨ 11 < rk)) : (cl_readEar_65 v c) rk = v rk := by
  unfold cl_readEar_65
  by_cases hc_ : ((cl_stop ((cl_readWay ((cl_number (cl_word10 ((cl_number v 0 ((v 3 0) - 1)).2)) 1 60).2)).2)) 2 1) = 0
  · rw [if_pos hc_]
    all_goals (show (cl_eaAdd (cl_stop ((cl_readWay ((cl_number (cl_word10 ((cl_number v 0 ((v 3 0) - 1)).2)) 1 60).2)).2)) c ((cl_number v 0 ((v 3 0) - 1)).1) ((cl_number (cl_word10 ((cl_number v 0 ((v 3 0) - 1)).2)) 1 60).1) ((cl_readWay ((cl_number (cl_word10 ((cl_number v 0 ((v 3 0) - 1)).2)) 1 60).2)).1)) rk = _)
    all_goals (rw [o_cl_eaAdd (by omega), o_cl_stop (by omega), o_cl_readWay (by omega), o_cl_number (by omega), o_cl_word10 (by omega), o_cl_number (by omega)])
  · rw [if_neg hc_]
    all_goals (show (cl_stop ((cl_readWay ((cl_number (cl_word10 ((cl_number v 0 ((v 3 0) - 1)).2)) 1 60).2)).2)) rk = _)
    all_goals (rw [o_cl_stop (by omega), o_cl_readWay (by omega), o_cl_number (by omega), o_cl_word10 (by omega), o_cl_number (by omega)])

theorem w_cl_readEar {X : PX} {d : Nat} {v : VS}  (hX : XI v) (hp_a : (v 2 7) ≤ (v 2 4)) {Q : Option PV → Nat → VS → Prop} (hQ : XI (cl_readEar v) → (((cl_readEar v) 2 7) ≤ ((cl_readEar v) 2 4)) → Q none 1 (cl_readEar v)) : WV X (d + 1 + 1 + 1 + 1 + 1 + 1 + 1) 45 0 [some (.inr (.inr (some 2))), none, none, none, none] [] 1 v Q := by
  rw [cl_readEar] at hQ
  refine r_ex 6 (pc' := 13) (lo' := [some (.inr (.inr (some 2))), none, none, none, none]) (st' := [.inl 12, .inl (v 7 0), .inr (.inr (some 2))]) rfl ?_
  have hb_1 : 0 ≤ (v 7 0) ∧ (v 7 0) ≤ 12 := hX 7 0
  have hp_2 : R32 (v 7 0) := (by first | assumption | omega | (unfold R32 at *; omega) | (unfold R64 at *; omega) | (simp only [R32, R64] at *; omega))
  have hp_3 : R32 (12 : Int) := (by first | assumption | omega | (unfold R32 at *; omega) | (unfold R64 at *; omega) | (simp only [R32, R64] at *; omega))
  have hp_4 : (v 2 7) ≤ (v 2 4) := (show (v 2 7) ≤ (v 2 4) from (by first | assumption | omega | (unfold R32 at *; omega) | (unfold R64 at *; omega) | (simp only [R32, R64] at *; omega)))
  refine r_call (m := 43) (args := [.inr (.inr (some 2)), .inl (v 7 0), .inl 12]) (n' := 45) (pc' := 16) (lo' := [some (.inr (.inr (some 2))), none, none, none, none]) (st' := []) (I := .invokevirtual 43) (pc0 := 13) (len := 3) rfl rfl rfl (e_cl_beginLine hX hp_2 hp_3 hp_4) ?_
  show WV _ _ _ 16 _ [] _ (cl_beginLine v (v 7 0) 12) _
  have hX_5 : XI (cl_beginLine v (v 7 0) 12) := i_cl_beginLine (v := v) (n := (v 7 0)) (s := 12) hX hp_2 hp_3 hp_4
  have hb_6 : (cl_beginLine v (v 7 0) 12) 3 2 = (v 3 2) := by rw [o_cl_beginLine (by omega)] <;> rfl
  have hb_7 : ((cl_beginLine v (v 7 0) 12) 2 7) ≤ ((cl_beginLine v (v 7 0) 12) 2 4) := n_cl_beginLine (v := v) (n := (v 7 0)) (s := 12) hX hp_2 hp_3 hp_4
  refine r_ex 7 (pc' := 27) (lo' := [some (.inr (.inr (some 2))), none, none, none, none]) (st' := [.inl (((cl_beginLine v (v 7 0) 12) 3 0) - 1), .inl 0, .inr (.inr (some 2))]) rfl ?_
  have hb_8 : 0 ≤ ((cl_beginLine v (v 7 0) 12) 3 0) ∧ ((cl_beginLine v (v 7 0) 12) 3 0) ≤ 9 := hX_5 3 0
  have hp_9 : 0 ≤ (0 : Int) ∧ (0 : Int) ≤ 300 := (by first | assumption | omega | (unfold R32 at *; omega) | (unfold R64 at *; omega) | (simp only [R32, R64] at *; omega))
  have hp_10 : -1 ≤ (((cl_beginLine v (v 7 0) 12) 3 0) - 1) ∧ (((cl_beginLine v (v 7 0) 12) 3 0) - 1) ≤ 300 := (by first | assumption | omega | (unfold R32 at *; omega) | (unfold R64 at *; omega) | (simp only [R32, R64] at *; omega))
  have hp_11 : ((cl_beginLine v (v 7 0) 12) 2 7) ≤ ((cl_beginLine v (v 7 0) 12) 2 4) := (show ((cl_beginLine v (v 7 0) 12) 2 7) ≤ ((cl_beginLine v (v 7 0) 12) 2 4) from (by first | assumption | omega | (unfold R32 at *; omega) | (unfold R64 at *; omega) | (simp only [R32, R64] at *; omega)))
  refine r_call (m := 40) (args := [.inr (.inr (some 2)), .inl 0, .inl (((cl_beginLine v (v 7 0) 12) 3 0) - 1)]) (n' := 45) (pc' := 30) (lo' := [some (.inr (.inr (some 2))), none, none, none, none]) (st' := []) (I := .invokevirtual 40) (pc0 := 27) (len := 3) rfl rfl rfl (e_cl_number hX_5 hp_9 hp_10 hp_11) ?_
  show WV _ _ _ 30 _ [.inl ((cl_number (cl_beginLine v (v 7 0) 12) 0 (((cl_beginLine v (v 7 0) 12) 3 0) - 1)).1)] _ (cl_number (cl_beginLine v (v 7 0) 12) 0 (((cl_beginLine v (v 7 0) 12) 3 0) - 1)).2 _
  have hX_12 : XI (cl_number (cl_beginLine v (v 7 0) 12) 0 (((cl_beginLine v (v 7 0) 12) 3 0) - 1)).2 := i_cl_number (v := (cl_beginLine v (v 7 0) 12)) (l := 0) (g := (((cl_beginLine v (v 7 0) 12) 3 0) - 1)) hX_5 hp_9 hp_10 hp_11
  have hb_13 : ((cl_number (cl_beginLine v (v 7 0) 12) 0 (((cl_beginLine v (v 7 0) 12) 3 0) - 1)).2) 3 2 = ((cl_beginLine v (v 7 0) 12) 3 2) := by rw [o_cl_number (by omega)] <;> rfl
  have hb_14 := n0_cl_number (v := (cl_beginLine v (v 7 0) 12)) (l := 0) (g := (((cl_beginLine v (v 7 0) 12) 3 0) - 1)) hX_5 hp_9 hp_10 hp_11
  have hb_15 : ((cl_number (cl_beginLine v (v 7 0) 12) 0 (((cl_beginLine v (v 7 0) 12) 3 0) - 1)).2 2 7) ≤ ((cl_number (cl_beginLine v (v 7 0) 12) 0 (((cl_beginLine v (v 7 0) 12) 3 0) - 1)).2 2 4) := n1_cl_number (v := (cl_beginLine v (v 7 0) 12)) (l := 0) (g := (((cl_beginLine v (v 7 0) 12) 3 0) - 1)) hX_5 hp_9 hp_10 hp_11
  refine r_ex 3 (pc' := 34) (lo' := [some (.inr (.inr (some 2))), some (.inl ((cl_number (cl_beginLine v (v 7 0) 12) 0 (((cl_beginLine v (v 7 0) 12) 3 0) - 1)).1)), none, none, none]) (st' := [.inr (.inr (some 100019)), .inr (.inr (some 2))]) rfl ?_
  have hp_16 : (((cl_number (cl_beginLine v (v 7 0) 12) 0 (((cl_beginLine v (v 7 0) 12) 3 0) - 1)).2) 2 7) ≤ (((cl_number (cl_beginLine v (v 7 0) 12) 0 (((cl_beginLine v (v 7 0) 12) 3 0) - 1)).2) 2 4) := (show ((cl_number (cl_beginLine v (v 7 0) 12) 0 (((cl_beginLine v (v 7 0) 12) 3 0) - 1)).2 2 7) ≤ ((cl_number (cl_beginLine v (v 7 0) 12) 0 (((cl_beginLine v (v 7 0) 12) 3 0) - 1)).2 2 4) from (by first | assumption | omega | (unfold R32 at *; omega) | (unfold R64 at *; omega) | (simp only [R32, R64] at *; omega)))
  refine r_call (m := 26) (args := [.inr (.inr (some 2)), .inr (.inr (some 100019))]) (n' := 45) (pc' := 37) (lo' := [some (.inr (.inr (some 2))), some (.inl ((cl_number (cl_beginLine v (v 7 0) 12) 0 (((cl_beginLine v (v 7 0) 12) 3 0) - 1)).1)), none, none, none]) (st' := []) (I := .invokevirtual 26) (pc0 := 34) (len := 3) rfl rfl rfl (e_cl_word9 hX_12 hp_16) ?_
  show WV _ _ _ 37 _ [] _ (cl_word9 ((cl_number (cl_beginLine v (v 7 0) 12) 0 (((cl_beginLine v (v 7 0) 12) 3 0) - 1)).2)) _
  have hX_17 : XI (cl_word9 ((cl_number (cl_beginLine v (v 7 0) 12) 0 (((cl_beginLine v (v 7 0) 12) 3 0) - 1)).2)) := i_cl_word9 (v := (cl_number (cl_beginLine v (v 7 0) 12) 0 (((cl_beginLine v (v 7 0) 12) 3 0) - 1)).2) hX_12 hp_16
  have hb_18 : (cl_word9 ((cl_number (cl_beginLine v (v 7 0) 12) 0 (((cl_beginLine v (v 7 0) 12) 3 0) - 1)).2)) 3 2 = ((cl_number (cl_beginLine v (v 7 0) 12) 0 (((cl_beginLine v (v 7 0) 12) 3 0) - 1)).2 3 2) := by rw [o_cl_word9 (by omega)] <;> rfl
  have hb_19 : ((cl_word9 ((cl_number (cl_beginLine v (v 7 0) 12) 0 (((cl_beginLine v (v 7 0) 12) 3 0) - 1)).2)) 2 7) ≤ ((cl_word9 ((cl_number (cl_beginLine v (v 7 0) 12) 0 (((cl_beginLine v (v 7 0) 12) 3 0) - 1)).2)) 2 4) := n_cl_word9 (v := (cl_number (cl_beginLine v (v 7 0) 12) 0 (((cl_beginLine v (v 7 0) 12) 3 0) - 1)).2) hX_12 hp_16
  refine r_ex 2 (pc' := 41) (lo' := [some (.inr (.inr (some 2))), some (.inl ((cl_number (cl_beginLine v (v 7 0) 12) 0 (((cl_beginLine v (v 7 0) 12) 3 0) - 1)).1)), none, none, none]) (st' := [.inl ((cl_word9 ((cl_number (cl_beginLine v (v 7 0) 12) 0 (((cl_beginLine v (v 7 0) 12) 3 0) - 1)).2)) 2 1)]) rfl ?_
  have hb_20 : 0 ≤ ((cl_word9 ((cl_number (cl_beginLine v (v 7 0) 12) 0 (((cl_beginLine v (v 7 0) 12) 3 0) - 1)).2)) 2 1) ∧ ((cl_word9 ((cl_number (cl_beginLine v (v 7 0) 12) 0 (((cl_beginLine v (v 7 0) 12) 3 0) - 1)).2)) 2 1) ≤ 3 := hX_17 2 1
  refine n_if_ne (pc0 := 41) (len := 3) (t := 65) rfl (by first | assumption | omega | (unfold R32 at *; omega) | (unfold R64 at *; omega) | (simp only [R32, R64] at *; omega)) (fun h_41 => ?_) (fun h_41 => ?_)
  · show WV _ _ _ 65 _ _ _ _ _
    rw [if_neg h_41] at hQ
    exact l_cl_readEar_65  (cl_word9 ((cl_number (cl_beginLine v (v 7 0) 12) 0 (((cl_beginLine v (v 7 0) 12) 3 0) - 1)).2)) ((cl_number (cl_beginLine v (v 7 0) 12) 0 (((cl_beginLine v (v 7 0) 12) 3 0) - 1)).1) _ _ _ hX_17 (by first | assumption | omega | (unfold R32 at *; omega) | (unfold R64 at *; omega) | (simp only [R32, R64] at *; omega)) (show ((cl_word9 ((cl_number (cl_beginLine v (v 7 0) 12) 0 (((cl_beginLine v (v 7 0) 12) 3 0) - 1)).2)) 2 7) ≤ ((cl_word9 ((cl_number (cl_beginLine v (v 7 0) 12) 0 (((cl_beginLine v (v 7 0) 12) 3 0) - 1)).2)) 2 4) from (by first | assumption | omega | (unfold R32 at *; omega) | (unfold R64 at *; omega) | (simp only [R32, R64] at *; omega))) hQ
  · show WV _ _ _ 44 _ _ _ _ _
    rw [if_pos h_41] at hQ
    refine r_ex 3 (pc' := 49) (lo' := [some (.inr (.inr (some 2))), some (.inl ((cl_number (cl_beginLine v (v 7 0) 12) 0 (((cl_beginLine v (v 7 0) 12) 3 0) - 1)).1)), none, none, none]) (st' := [.inl 2, .inl ((cl_word9 ((cl_number (cl_beginLine v (v 7 0) 12) 0 (((cl_beginLine v (v 7 0) 12) 3 0) - 1)).2)) 2 5)]) rfl ?_
    have hb_58 : 0 ≤ ((cl_word9 ((cl_number (cl_beginLine v (v 7 0) 12) 0 (((cl_beginLine v (v 7 0) 12) 3 0) - 1)).2)) 2 5) ∧ ((cl_word9 ((cl_number (cl_beginLine v (v 7 0) 12) 0 (((cl_beginLine v (v 7 0) 12) 3 0) - 1)).2)) 2 5) ≤ 4 := hX_17 2 5
    refine n_ic_ne (pc0 := 49) (len := 3) (t := 65) rfl (by first | assumption | omega | (unfold R32 at *; omega) | (unfold R64 at *; omega) | (simp only [R32, R64] at *; omega)) (by first | assumption | omega | (unfold R32 at *; omega) | (unfold R64 at *; omega) | (simp only [R32, R64] at *; omega)) (fun h_49 => ?_) (fun h_49 => ?_)
    · show WV _ _ _ 65 _ _ _ _ _
      rw [if_neg h_49] at hQ
      exact l_cl_readEar_65  (cl_word9 ((cl_number (cl_beginLine v (v 7 0) 12) 0 (((cl_beginLine v (v 7 0) 12) 3 0) - 1)).2)) ((cl_number (cl_beginLine v (v 7 0) 12) 0 (((cl_beginLine v (v 7 0) 12) 3 0) - 1)).1) _ _ _ hX_17 (by first | assumption | omega | (unfold R32 at *; omega) | (unfold R64 at *; omega) | (simp only [R32, R64] at *; omega)) (show ((cl_word9 ((cl_number (cl_beginLine v (v 7 0) 12) 0 (((cl_beginLine v (v 7 0) 12) 3 0) - 1)).2)) 2 7) ≤ ((cl_word9 ((cl_number (cl_beginLine v (v 7 0) 12) 0 (((cl_beginLine v (v 7 0) 12) 3 0) - 1)).2)) 2 4) from (by first | assumption | omega | (unfold R32 at *; omega) | (unfold R64 at *; omega) | (simp only [R32, R64] at *; omega))) hQ
    · show WV _ _ _ 52 _ _ _ _ _
      rw [if_pos h_49] at hQ
      refine r_ex 3 (pc' := 57) (lo' := [some (.inr (.inr (some 2))), some (.inl ((cl_number (cl_beginLine v (v 7 0) 12) 0 (((cl_beginLine v (v 7 0) 12) 3 0) - 1)).1)), none, none, none]) (st' := [.inl ((cl_number (cl_beginLine v (v 7 0) 12) 0 (((cl_beginLine v (v 7 0) 12) 3 0) - 1)).1), .inl ((cl_word9 ((cl_number (cl_beginLine v (v 7 0) 12) 0 (((cl_beginLine v (v 7 0) 12) 3 0) - 1)).2)) 2 8)]) rfl ?_
      have hb_59 : 0 ≤ ((cl_word9 ((cl_number (cl_beginLine v (v 7 0) 12) 0 (((cl_beginLine v (v 7 0) 12) 3 0) - 1)).2)) 2 8) ∧ ((cl_word9 ((cl_number (cl_beginLine v (v 7 0) 12) 0 (((cl_beginLine v (v 7 0) 12) 3 0) - 1)).2)) 2 8) ≤ 1000000 := hX_17 2 8
      refine n_ic_ne (pc0 := 57) (len := 3) (t := 65) rfl (by first | assumption | omega | (unfold R32 at *; omega) | (unfold R64 at *; omega) | (simp only [R32, R64] at *; omega)) (by first | assumption | omega | (unfold R32 at *; omega) | (unfold R64 at *; omega) | (simp only [R32, R64] at *; omega)) (fun h_57 => ?_) (fun h_57 => ?_)
      · show WV _ _ _ 65 _ _ _ _ _
        rw [if_neg h_57] at hQ
        exact l_cl_readEar_65  (cl_word9 ((cl_number (cl_beginLine v (v 7 0) 12) 0 (((cl_beginLine v (v 7 0) 12) 3 0) - 1)).2)) ((cl_number (cl_beginLine v (v 7 0) 12) 0 (((cl_beginLine v (v 7 0) 12) 3 0) - 1)).1) _ _ _ hX_17 (by first | assumption | omega | (unfold R32 at *; omega) | (unfold R64 at *; omega) | (simp only [R32, R64] at *; omega)) (show ((cl_word9 ((cl_number (cl_beginLine v (v 7 0) 12) 0 (((cl_beginLine v (v 7 0) 12) 3 0) - 1)).2)) 2 7) ≤ ((cl_word9 ((cl_number (cl_beginLine v (v 7 0) 12) 0 (((cl_beginLine v (v 7 0) 12) 3 0) - 1)).2)) 2 4) from (by first | assumption | omega | (unfold R32 at *; omega) | (unfold R64 at *; omega) | (simp only [R32, R64] at *; omega))) hQ
      · show WV _ _ _ 60 _ _ _ _ _
        rw [if_pos h_57] at hQ
        refine r_ex 2 (pc' := 62) (lo' := [some (.inr (.inr (some 2))), some (.inl ((cl_number (cl_beginLine v (v 7 0) 12) 0 (((cl_beginLine v (v 7 0) 12) 3 0) - 1)).1)), none, none, none]) (st' := [.inl 2, .inr (.inr (some 2))]) rfl ?_
        have hp_60 : 1 ≤ (2 : Int) ∧ (2 : Int) ≤ 3 := (by first | assumption | omega | (unfold R32 at *; omega) | (unfold R64 at *; omega) | (simp only [R32, R64] at *; omega))
        have hp_61 : ((cl_word9 ((cl_number (cl_beginLine v (v 7 0) 12) 0 (((cl_beginLine v (v 7 0) 12) 3 0) - 1)).2)) 2 7) ≤ ((cl_word9 ((cl_number (cl_beginLine v (v 7 0) 12) 0 (((cl_beginLine v (v 7 0) 12) 3 0) - 1)).2)) 2 4) := (show ((cl_word9 ((cl_number (cl_beginLine v (v 7 0) 12) 0 (((cl_beginLine v (v 7 0) 12) 3 0) - 1)).2)) 2 7) ≤ ((cl_word9 ((cl_number (cl_beginLine v (v 7 0) 12) 0 (((cl_beginLine v (v 7 0) 12) 3 0) - 1)).2)) 2 4) from (by first | assumption | omega | (unfold R32 at *; omega) | (unfold R64 at *; omega) | (simp only [R32, R64] at *; omega)))
        refine r_call (m := 39) (args := [.inr (.inr (some 2)), .inl 2]) (n' := 45) (pc' := 65) (lo' := [some (.inr (.inr (some 2))), some (.inl ((cl_number (cl_beginLine v (v 7 0) 12) 0 (((cl_beginLine v (v 7 0) 12) 3 0) - 1)).1)), none, none, none]) (st' := []) (I := .invokevirtual 39) (pc0 := 62) (len := 3) rfl rfl rfl (e_cl_fail hX_17 hp_60 hp_61) ?_
        show WV _ _ _ 65 _ [] _ (cl_fail (cl_word9 ((cl_number (cl_beginLine v (v 7 0) 12) 0 (((cl_beginLine v (v 7 0) 12) 3 0) - 1)).2)) 2) _
        have hX_62 : XI (cl_fail (cl_word9 ((cl_number (cl_beginLine v (v 7 0) 12) 0 (((cl_beginLine v (v 7 0) 12) 3 0) - 1)).2)) 2) := i_cl_fail (v := (cl_word9 ((cl_number (cl_beginLine v (v 7 0) 12) 0 (((cl_beginLine v (v 7 0) 12) 3 0) - 1)).2))) (k := 2) hX_17 hp_60 hp_61
        have hb_63 : (cl_fail (cl_word9 ((cl_number (cl_beginLine v (v 7 0) 12) 0 (((cl_beginLine v (v 7 0) 12) 3 0) - 1)).2)) 2) 3 2 = ((cl_word9 ((cl_number (cl_beginLine v (v 7 0) 12) 0 (((cl_beginLine v (v 7 0) 12) 3 0) - 1)).2)) 3 2) := by rw [o_cl_fail (by omega)] <;> rfl
        have hb_64 : ((cl_fail (cl_word9 ((cl_number (cl_beginLine v (v 7 0) 12) 0 (((cl_beginLine v (v 7 0) 12) 3 0) - 1)).2)) 2) 2 7) ≤ ((cl_fail (cl_word9 ((cl_number (cl_beginLine v (v 7 0) 12) 0 (((cl_beginLine v (v 7 0) 12) 3 0) - 1)).2)) 2) 2 4) := n_cl_fail (v := (cl_word9 ((cl_number (cl_beginLine v (v 7 0) 12) 0 (((cl_beginLine v (v 7 0) 12) 3 0) - 1)).2))) (k := 2) hX_17 hp_60 hp_61
        exact l_cl_readEar_65  (cl_fail (cl_word9 ((cl_number (cl_beginLine v (v 7 0) 12) 0 (((cl_beginLine v (v 7 0) 12) 3 0) - 1)).2)) 2) ((cl_number (cl_beginLine v (v 7 0) 12) 0 (((cl_beginLine v (v 7 0) 12) 3 0) - 1)).1) _ _ _ hX_62 (by first | assumption | omega | (unfold R32 at *; omega) | (unfold R64 at *; omega) | (simp only [R32, R64] at *; omega)) (show ((cl_fail (cl_word9 ((cl_number (cl_beginLine v (v 7 0) 12) 0 (((cl_beginLine v (v 7 0) 12) 3 0) - 1)).2)) 2) 2 7) ≤ ((cl_fail (cl_word9 ((cl_number (cl_beginLine v (v 7 0) 12) 0 (((cl_beginLine v (v 7 0) 12) 3 0) - 1)).2)) 2) 2 4) from (by first | assumption | omega | (unfold R32 at *; omega) | (unfold R64 at *; omega) | (simp only [R32, R64] at *; omega))) hQ

theorem e_cl_readEar {X : PX} {d : Nat} {v : VS}  (hX : XI v) (hp_a : (v 2 7) ≤ (v 2 4)) : EvV X (d + 1 + 1 + 1 + 1 + 1 + 1 + 1) 45 [.inr (.inr (some 2))] 1 v none 1 (cl_readEar v) := EvV.of (w_cl_readEar hX hp_a (fun _ _ => ⟨rfl, rfl, rfl⟩))

theorem i_cl_readEar {v : VS}  (hX : XI v) (hp_a : (v 2 7) ≤ (v 2 4)) : XI (cl_readEar v) := by
  have q : WV (0, fun _ => 0, none) (0 + 1 + 1 + 1 + 1 + 1 + 1 + 1) 45 0 [some (.inr (.inr (some 2))), none, none, none, none] [] 1 v (fun _ _ _ => XI (cl_readEar v)) := w_cl_readEar (X := (0, fun _ => 0, none)) (d := 0) hX hp_a (fun q _ => q)
  obtain ⟨_, _, _, _, _, _, _, q⟩ := q
  exact q

theorem n_cl_readEar {v : VS}  (hX : XI v) (hp_a : (v 2 7) ≤ (v 2 4)) : ((cl_readEar v) 2 7) ≤ ((cl_readEar v) 2 4) := by
  have q : WV (0, fun _ => 0, none) (0 + 1 + 1 + 1 + 1 + 1 + 1 + 1) 45 0 [some (.inr (.inr (some 2))), none, none, none, none] [] 1 v (fun _ _ _ => ((cl_readEar v) 2 7) ≤ ((cl_readEar v) 2 4)) := w_cl_readEar (X := (0, fun _ => 0, none)) (d := 0) hX hp_a (fun _ q => q)
  obtain ⟨_, _, _, _, _, _, _, q⟩ := q
  exact q

theorem o_cl_readEar {rk : Nat} {v : VS}  (hk : (rk < 2 ∨ 2 < rk) ∧ (rk < 7 ∨ 11 < rk)) : (cl_readEar v ) rk = v rk := by
  unfold cl_readEar
  by_cases hc_ : ((cl_word9 ((cl_number (cl_beginLine v (v 7 0) 12) 0 (((cl_beginLine v (v 7 0) 12) 3 0) - 1)).2)) 2 1) = 0
  · rw [if_pos hc_]
    by_cases hc_ : ((cl_word9 ((cl_number (cl_beginLine v (v 7 0) 12) 0 (((cl_beginLine v (v 7 0) 12) 3 0) - 1)).2)) 2 5) = 2
    · rw [if_pos hc_]
      by_cases hc_ : ((cl_word9 ((cl_number (cl_beginLine v (v 7 0) 12) 0 (((cl_beginLine v (v 7 0) 12) 3 0) - 1)).2)) 2 8) = (cl_number (cl_beginLine v (v 7 0) 12) 0 (((cl_beginLine v (v 7 0) 12) 3 0) - 1)).1
      · rw [if_pos hc_]
        all_goals (rw [o_cl_readEar_65 (by omega), o_cl_fail (by omega), o_cl_word9 (by omega), o_cl_number (by omega), o_cl_beginLine (by omega)])
      · rw [if_neg hc_]
        all_goals (rw [o_cl_readEar_65 (by omega), o_cl_word9 (by omega), o_cl_number (by omega), o_cl_beginLine (by omega)])
    · rw [if_neg hc_]
      all_goals (rw [o_cl_readEar_65 (by omega), o_cl_word9 (by omega), o_cl_number (by omega), o_cl_beginLine (by omega)])
  · rw [if_neg hc_]
    all_goals (rw [o_cl_readEar_65 (by omega), o_cl_word9 (by omega), o_cl_number (by omega), o_cl_beginLine (by omega)])

def cl_readWind_59 (v : VS) (s : Int) (w : Int) : VS :=
  (if ((cl_stop ((cl_number v 0 20).2)) 2 1) = 0 then (if w = 0 then (cl_spAdd16 (cl_stop ((cl_number v 0 20).2)) ((cl_number v 0 20).1) s s) else (cl_spAdd16 (cl_stop ((cl_number v 0 20).2)) (-((cl_number v 0 20).1)) s s)) else (cl_stop ((cl_number v 0 20).2)))
def cl_readWind (v : VS)  : VS :=
  (if (cl_isAt12 ((cl_number (cl_word15 (cl_beginLine v (v 16 0) 6)) 0 (((cl_word15 (cl_beginLine v (v 16 0) 6)) 3 1) - 1)).2)) = 0 then (cl_readWind_59  (cl_word11 ((cl_number (cl_word15 (cl_beginLine v (v 16 0) 6)) 0 (((cl_word15 (cl_beginLine v (v 16 0) 6)) 3 1) - 1)).2)) ((cl_number (cl_word15 (cl_beginLine v (v 16 0) 6)) 0 (((cl_word15 (cl_beginLine v (v 16 0) 6)) 3 1) - 1)).1) (cl_isAt12 ((cl_number (cl_word15 (cl_beginLine v (v 16 0) 6)) 0 (((cl_word15 (cl_beginLine v (v 16 0) 6)) 3 1) - 1)).2))) else (cl_readWind_59  (cl_word12 ((cl_number (cl_word15 (cl_beginLine v (v 16 0) 6)) 0 (((cl_word15 (cl_beginLine v (v 16 0) 6)) 3 1) - 1)).2)) ((cl_number (cl_word15 (cl_beginLine v (v 16 0) 6)) 0 (((cl_word15 (cl_beginLine v (v 16 0) 6)) 3 1) - 1)).1) (cl_isAt12 ((cl_number (cl_word15 (cl_beginLine v (v 16 0) 6)) 0 (((cl_word15 (cl_beginLine v (v 16 0) 6)) 3 1) - 1)).2))))
theorem l_cl_readWind_59 {X : PX} {d : Nat} {Q : Option PV → Nat → VS → Prop}  : ∀ (v : VS) (s : Int) (w : Int) (o3 : Option PV), XI v → (0 ≤ s ∧ s ≤ 299) → (0 ≤ w ∧ w ≤ 1) → ((v 2 7) ≤ (v 2 4)) → (XI (cl_readWind_59 v s w) → (((cl_readWind_59 v s w) 2 7) ≤ ((cl_readWind_59 v s w) 2 4)) → Q none 1 (cl_readWind_59 v s w)) → WV X (d + 1 + 1 + 1 + 1 + 1 + 1) 48 59 [some (.inr (.inr (some 2))), some (.inl s), some (.inl w), o3] [] 1 v Q := by
  intro v s w o3 hX hi_0 hi_1 hi_2 hQ
  rw [cl_readWind_59] at hQ
  refine r_ex 3 (pc' := 63) (lo' := [some (.inr (.inr (some 2))), some (.inl s), some (.inl w), o3]) (st' := [.inl 20, .inl 0, .inr (.inr (some 2))]) rfl ?_
  have hp_26 : 0 ≤ (0 : Int) ∧ (0 : Int) ≤ 300 := (by first | assumption | omega | (unfold R32 at *; omega) | (unfold R64 at *; omega) | (simp only [R32, R64] at *; omega))
  have hp_27 : -1 ≤ (20 : Int) ∧ (20 : Int) ≤ 300 := (by first | assumption | omega | (unfold R32 at *; omega) | (unfold R64 at *; omega) | (simp only [R32, R64] at *; omega))
  have hp_28 : (v 2 7) ≤ (v 2 4) := (show (v 2 7) ≤ (v 2 4) from (by first | assumption | omega | (unfold R32 at *; omega) | (unfold R64 at *; omega) | (simp only [R32, R64] at *; omega)))
  refine r_call (m := 40) (args := [.inr (.inr (some 2)), .inl 0, .inl 20]) (n' := 48) (pc' := 66) (lo' := [some (.inr (.inr (some 2))), some (.inl s), some (.inl w), o3]) (st' := []) (I := .invokevirtual 40) (pc0 := 63) (len := 3) rfl rfl rfl (e_cl_number hX hp_26 hp_27 hp_28) ?_
  show WV _ _ _ 66 _ [.inl ((cl_number v 0 20).1)] _ (cl_number v 0 20).2 _
  have hX_29 : XI (cl_number v 0 20).2 := i_cl_number (v := v) (l := 0) (g := 20) hX hp_26 hp_27 hp_28
  have hb_30 : ((cl_number v 0 20).2) 3 2 = (v 3 2) := by rw [o_cl_number (by omega)] <;> rfl
  have hb_31 := n0_cl_number (v := v) (l := 0) (g := 20) hX hp_26 hp_27 hp_28
  have hb_32 : ((cl_number v 0 20).2 2 7) ≤ ((cl_number v 0 20).2 2 4) := n1_cl_number (v := v) (l := 0) (g := 20) hX hp_26 hp_27 hp_28
  refine r_ex 2 (pc' := 68) (lo' := [some (.inr (.inr (some 2))), some (.inl s), some (.inl w), some (.inl ((cl_number v 0 20).1))]) (st' := [.inr (.inr (some 2))]) rfl ?_
  have hp_33 : (((cl_number v 0 20).2) 2 7) ≤ (((cl_number v 0 20).2) 2 4) := (show ((cl_number v 0 20).2 2 7) ≤ ((cl_number v 0 20).2 2 4) from (by first | assumption | omega | (unfold R32 at *; omega) | (unfold R64 at *; omega) | (simp only [R32, R64] at *; omega)))
  refine r_call (m := 41) (args := [.inr (.inr (some 2))]) (n' := 48) (pc' := 71) (lo' := [some (.inr (.inr (some 2))), some (.inl s), some (.inl w), some (.inl ((cl_number v 0 20).1))]) (st' := []) (I := .invokevirtual 41) (pc0 := 68) (len := 3) rfl rfl rfl (e_cl_stop hX_29 hp_33) ?_
  show WV _ _ _ 71 _ [] _ (cl_stop ((cl_number v 0 20).2)) _
  have hX_34 : XI (cl_stop ((cl_number v 0 20).2)) := i_cl_stop (v := (cl_number v 0 20).2) hX_29 hp_33
  have hb_35 : (cl_stop ((cl_number v 0 20).2)) 3 2 = ((cl_number v 0 20).2 3 2) := by rw [o_cl_stop (by omega)] <;> rfl
  have hb_36 : ((cl_stop ((cl_number v 0 20).2)) 2 7) ≤ ((cl_stop ((cl_number v 0 20).2)) 2 4) := n_cl_stop (v := (cl_number v 0 20).2) hX_29 hp_33
  refine r_ex 2 (pc' := 75) (lo' := [some (.inr (.inr (some 2))), some (.inl s), some (.inl w), some (.inl ((cl_number v 0 20).1))]) (st' := [.inl ((cl_stop ((cl_number v 0 20).2)) 2 1)]) rfl ?_
  have hb_37 : 0 ≤ ((cl_stop ((cl_number v 0 20).2)) 2 1) ∧ ((cl_stop ((cl_number v 0 20).2)) 2 1) ≤ 3 := hX_34 2 1
  refine n_if_ne (pc0 := 75) (len := 3) (t := 100) rfl (by first | assumption | omega | (unfold R32 at *; omega) | (unfold R64 at *; omega) | (simp only [R32, R64] at *; omega)) (fun h_75 => ?_) (fun h_75 => ?_)
  · show WV _ _ _ 100 _ _ _ _ _
    rw [if_neg h_75] at hQ
    refine r_ret (rr := none) (I := .return_) (pc0 := 100) (len := 1) rfl rfl ?_
    exact hQ hX_34 (show ((cl_stop ((cl_number v 0 20).2)) 2 7) ≤ ((cl_stop ((cl_number v 0 20).2)) 2 4) from (by first | assumption | omega | (unfold R32 at *; omega) | (unfold R64 at *; omega) | (simp only [R32, R64] at *; omega)))
  · show WV _ _ _ 78 _ _ _ _ _
    rw [if_pos h_75] at hQ
    refine r_ex 4 (pc' := 86) (lo' := [some (.inr (.inr (some 2))), some (.inl s), some (.inl w), some (.inl ((cl_number v 0 20).1))]) (st' := [.inl w, .inr (.inr (some 16))]) rfl ?_
    refine n_if_eq (pc0 := 86) (len := 3) (t := 94) rfl (by first | assumption | omega | (unfold R32 at *; omega) | (unfold R64 at *; omega) | (simp only [R32, R64] at *; omega)) (fun h_86 => ?_) (fun h_86 => ?_)
    · show WV _ _ _ 94 _ _ _ _ _
      rw [if_pos h_86] at hQ
      refine r_ex 3 (pc' := 97) (lo' := [some (.inr (.inr (some 2))), some (.inl s), some (.inl w), some (.inl ((cl_number v 0 20).1))]) (st' := [.inl s, .inl s, .inl ((cl_number v 0 20).1), .inr (.inr (some 16))]) rfl ?_
      have hp_38 : -20 ≤ ((cl_number v 0 20).1) ∧ ((cl_number v 0 20).1) ≤ 20 := (by first | assumption | omega | (unfold R32 at *; omega) | (unfold R64 at *; omega) | (simp only [R32, R64] at *; omega))
      have hp_39 : 0 ≤ s ∧ s ≤ 299 := (by first | assumption | omega | (unfold R32 at *; omega) | (unfold R64 at *; omega) | (simp only [R32, R64] at *; omega))
      have hp_40 : 0 ≤ s ∧ s ≤ 299 := (by first | assumption | omega | (unfold R32 at *; omega) | (unfold R64 at *; omega) | (simp only [R32, R64] at *; omega))
      refine r_call (m := 49) (args := [.inr (.inr (some 16)), .inl ((cl_number v 0 20).1), .inl s, .inl s]) (n' := 48) (pc' := 100) (lo' := [some (.inr (.inr (some 2))), some (.inl s), some (.inl w), some (.inl ((cl_number v 0 20).1))]) (st' := []) (I := .invokevirtual 49) (pc0 := 97) (len := 3) rfl rfl rfl (e_cl_spAdd16 hX_34 hp_38 hp_39 hp_40) ?_
      show WV _ _ _ 100 _ [] _ (cl_spAdd16 (cl_stop ((cl_number v 0 20).2)) ((cl_number v 0 20).1) s s) _
      have hX_41 : XI (cl_spAdd16 (cl_stop ((cl_number v 0 20).2)) ((cl_number v 0 20).1) s s) := i_cl_spAdd16 (v := (cl_stop ((cl_number v 0 20).2))) (c := (cl_number v 0 20).1) (s := s) (n := s) hX_34 hp_38 hp_39 hp_40
      have hb_42 : (cl_spAdd16 (cl_stop ((cl_number v 0 20).2)) ((cl_number v 0 20).1) s s) 2 7 = ((cl_stop ((cl_number v 0 20).2)) 2 7) := by rw [o_cl_spAdd16 (by omega)] <;> rfl
      have hb_43 : (cl_spAdd16 (cl_stop ((cl_number v 0 20).2)) ((cl_number v 0 20).1) s s) 2 4 = ((cl_stop ((cl_number v 0 20).2)) 2 4) := by rw [o_cl_spAdd16 (by omega)] <;> rfl
      have hb_44 : (cl_spAdd16 (cl_stop ((cl_number v 0 20).2)) ((cl_number v 0 20).1) s s) 3 2 = ((cl_stop ((cl_number v 0 20).2)) 3 2) := by rw [o_cl_spAdd16 (by omega)] <;> rfl
      refine r_ret (rr := none) (I := .return_) (pc0 := 100) (len := 1) rfl rfl ?_
      exact hQ hX_41 (show ((cl_spAdd16 (cl_stop ((cl_number v 0 20).2)) ((cl_number v 0 20).1) s s) 2 7) ≤ ((cl_spAdd16 (cl_stop ((cl_number v 0 20).2)) ((cl_number v 0 20).1) s s) 2 4) from (by first | assumption | omega | (unfold R32 at *; omega) | (unfold R64 at *; omega) | (simp only [R32, R64] at *; omega)))
    · show WV _ _ _ 89 _ _ _ _ _
      rw [if_neg h_86] at hQ
      refine r_ex 5 (pc' := 97) (lo' := [some (.inr (.inr (some 2))), some (.inl s), some (.inl w), some (.inl ((cl_number v 0 20).1))]) (st' := [.inl s, .inl s, .inl (-((cl_number v 0 20).1)), .inr (.inr (some 16))]) rfl ?_
      have hp_45 : -20 ≤ (-((cl_number v 0 20).1)) ∧ (-((cl_number v 0 20).1)) ≤ 20 := (by first | assumption | omega | (unfold R32 at *; omega) | (unfold R64 at *; omega) | (simp only [R32, R64] at *; omega))
      have hp_46 : 0 ≤ s ∧ s ≤ 299 := (by first | assumption | omega | (unfold R32 at *; omega) | (unfold R64 at *; omega) | (simp only [R32, R64] at *; omega))
      have hp_47 : 0 ≤ s ∧ s ≤ 299 := (by first | assumption | omega | (unfold R32 at *; omega) | (unfold R64 at *; omega) | (simp only [R32, R64] at *; omega))
      refine r_call (m := 49) (args := [.inr (.inr (some 16)), .inl (-((cl_number v 0 20).1)), .inl s, .inl s]) (n' := 48) (pc' := 100) (lo' := [some (.inr (.inr (some 2))), some (.inl s), some (.inl w), some (.inl ((cl_number v 0 20).1))]) (st' := []) (I := .invokevirtual 49) (pc0 := 97) (len := 3) rfl rfl rfl (e_cl_spAdd16 hX_34 hp_45 hp_46 hp_47) ?_
      show WV _ _ _ 100 _ [] _ (cl_spAdd16 (cl_stop ((cl_number v 0 20).2)) (-((cl_number v 0 20).1)) s s) _
      have hX_48 : XI (cl_spAdd16 (cl_stop ((cl_number v 0 20).2)) (-((cl_number v 0 20).1)) s s) := i_cl_spAdd16 (v := (cl_stop ((cl_number v 0 20).2))) (c := (-((cl_number v 0 20).1))) (s := s) (n := s) hX_34 hp_45 hp_46 hp_47
      have hb_49 : (cl_spAdd16 (cl_stop ((cl_number v 0 20).2)) (-((cl_number v 0 20).1)) s s) 2 7 = ((cl_stop ((cl_number v 0 20).2)) 2 7) := by rw [o_cl_spAdd16 (by omega)] <;> rfl
      have hb_50 : (cl_spAdd16 (cl_stop ((cl_number v 0 20).2)) (-((cl_number v 0 20).1)) s s) 2 4 = ((cl_stop ((cl_number v 0 20).2)) 2 4) := by rw [o_cl_spAdd16 (by omega)] <;> rfl
      have hb_51 : (cl_spAdd16 (cl_stop ((cl_number v 0 20).2)) (-((cl_number v 0 20).1)) s s) 3 2 = ((cl_stop ((cl_number v 0 20).2)) 3 2) := by rw [o_cl_spAdd16 (by omega)] <;> rfl
      refine r_ret (rr := none) (I := .return_) (pc0 := 100) (len := 1) rfl rfl ?_
      exact hQ hX_48 (show ((cl_spAdd16 (cl_stop ((cl_number v 0 20).2)) (-((cl_number v 0 20).1)) s s) 2 7) ≤ ((cl_spAdd16 (cl_stop ((cl_number v 0 20).2)) (-((cl_number v 0 20).1)) s s) 2 4) from (by first | assumption | omega | (unfold R32 at *; omega) | (unfold R64 at *; omega) | (simp only [R32, R64] at *; omega)))

theorem o_cl_readWind_59 {rk : Nat} {v : VS} {s : Int} {w : Int} (hk : (rk < 2 ∨ 2 < rk) ∧ (rk < 16 ∨ 19 < rk)) : (cl_readWind_59 v s w) rk = v rk := by
  unfold cl_readWind_59
  by_cases hc_ : ((cl_stop ((cl_number v 0 20).2)) 2 1) = 0
  · rw [if_pos hc_]
    by_cases hc_ : w = 0
    · rw [if_pos hc_]
      all_goals (show (cl_spAdd16 (cl_stop ((cl_number v 0 20).2)) ((cl_number v 0 20).1) s s) rk = _)
      all_goals (rw [o_cl_spAdd16 (by omega), o_cl_stop (by omega), o_cl_number (by omega)])
    · rw [if_neg hc_]
      all_goals (show (cl_spAdd16 (cl_stop ((cl_number v 0 20).2)) (-((cl_number v 0 20).1)) s s) rk = _)
      all_goals (rw [o_cl_spAdd16 (by omega), o_cl_stop (by omega), o_cl_number (by omega)])
  · rw [if_neg hc_]
    all_goals (show (cl_stop ((cl_number v 0 20).2)) rk = _)
    all_goals (rw [o_cl_stop (by omega), o_cl_number (by omega)])

theorem w_cl_readWind {X : PX} {d : Nat} {v : VS}  (hX : XI v) (hp_a : (v 2 7) ≤ (v 2 4)) {Q : Option PV → Nat → VS → Prop} (hQ : XI (cl_readWind v) → (((cl_readWind v) 2 7) ≤ ((cl_readWind v) 2 4)) → Q none 1 (cl_readWind v)) : WV X (d + 1 + 1 + 1 + 1 + 1 + 1) 48 0 [some (.inr (.inr (some 2))), none, none, none] [] 1 v Q := by
  rw [cl_readWind] at hQ
  refine r_ex 6 (pc' := 13) (lo' := [some (.inr (.inr (some 2))), none, none, none]) (st' := [.inl 6, .inl (v 16 0), .inr (.inr (some 2))]) rfl ?_
  have hb_1 : 0 ≤ (v 16 0) ∧ (v 16 0) ≤ 6 := hX 16 0
  have hp_2 : R32 (v 16 0) := (by first | assumption | omega | (unfold R32 at *; omega) | (unfold R64 at *; omega) | (simp only [R32, R64] at *; omega))
  have hp_3 : R32 (6 : Int) := (by first | assumption | omega | (unfold R32 at *; omega) | (unfold R64 at *; omega) | (simp only [R32, R64] at *; omega))
  have hp_4 : (v 2 7) ≤ (v 2 4) := (show (v 2 7) ≤ (v 2 4) from (by first | assumption | omega | (unfold R32 at *; omega) | (unfold R64 at *; omega) | (simp only [R32, R64] at *; omega)))
  refine r_call (m := 43) (args := [.inr (.inr (some 2)), .inl (v 16 0), .inl 6]) (n' := 48) (pc' := 16) (lo' := [some (.inr (.inr (some 2))), none, none, none]) (st' := []) (I := .invokevirtual 43) (pc0 := 13) (len := 3) rfl rfl rfl (e_cl_beginLine hX hp_2 hp_3 hp_4) ?_
  show WV _ _ _ 16 _ [] _ (cl_beginLine v (v 16 0) 6) _
  have hX_5 : XI (cl_beginLine v (v 16 0) 6) := i_cl_beginLine (v := v) (n := (v 16 0)) (s := 6) hX hp_2 hp_3 hp_4
  have hb_6 : (cl_beginLine v (v 16 0) 6) 3 2 = (v 3 2) := by rw [o_cl_beginLine (by omega)] <;> rfl
  have hb_7 : ((cl_beginLine v (v 16 0) 6) 2 7) ≤ ((cl_beginLine v (v 16 0) 6) 2 4) := n_cl_beginLine (v := v) (n := (v 16 0)) (s := 6) hX hp_2 hp_3 hp_4
  refine r_ex 2 (pc' := 19) (lo' := [some (.inr (.inr (some 2))), none, none, none]) (st' := [.inr (.inr (some 100031)), .inr (.inr (some 2))]) rfl ?_
  have hp_8 : ((cl_beginLine v (v 16 0) 6) 2 7) ≤ ((cl_beginLine v (v 16 0) 6) 2 4) := (show ((cl_beginLine v (v 16 0) 6) 2 7) ≤ ((cl_beginLine v (v 16 0) 6) 2 4) from (by first | assumption | omega | (unfold R32 at *; omega) | (unfold R64 at *; omega) | (simp only [R32, R64] at *; omega)))
  refine r_call (m := 26) (args := [.inr (.inr (some 2)), .inr (.inr (some 100031))]) (n' := 48) (pc' := 22) (lo' := [some (.inr (.inr (some 2))), none, none, none]) (st' := []) (I := .invokevirtual 26) (pc0 := 19) (len := 3) rfl rfl rfl (e_cl_word15 hX_5 hp_8) ?_
  show WV _ _ _ 22 _ [] _ (cl_word15 (cl_beginLine v (v 16 0) 6)) _
  have hX_9 : XI (cl_word15 (cl_beginLine v (v 16 0) 6)) := i_cl_word15 (v := (cl_beginLine v (v 16 0) 6)) hX_5 hp_8
  have hb_10 : (cl_word15 (cl_beginLine v (v 16 0) 6)) 3 2 = ((cl_beginLine v (v 16 0) 6) 3 2) := by rw [o_cl_word15 (by omega)] <;> rfl
  have hb_11 : ((cl_word15 (cl_beginLine v (v 16 0) 6)) 2 7) ≤ ((cl_word15 (cl_beginLine v (v 16 0) 6)) 2 4) := n_cl_word15 (v := (cl_beginLine v (v 16 0) 6)) hX_5 hp_8
  refine r_ex 7 (pc' := 33) (lo' := [some (.inr (.inr (some 2))), none, none, none]) (st' := [.inl (((cl_word15 (cl_beginLine v (v 16 0) 6)) 3 1) - 1), .inl 0, .inr (.inr (some 2))]) rfl ?_
  have hb_12 : 0 ≤ ((cl_word15 (cl_beginLine v (v 16 0) 6)) 3 1) ∧ ((cl_word15 (cl_beginLine v (v 16 0) 6)) 3 1) ≤ 300 := hX_9 3 1
  have hp_13 : 0 ≤ (0 : Int) ∧ (0 : Int) ≤ 300 := (by first | assumption | omega | (unfold R32 at *; omega) | (unfold R64 at *; omega) | (simp only [R32, R64] at *; omega))
  have hp_14 : -1 ≤ (((cl_word15 (cl_beginLine v (v 16 0) 6)) 3 1) - 1) ∧ (((cl_word15 (cl_beginLine v (v 16 0) 6)) 3 1) - 1) ≤ 300 := (by first | assumption | omega | (unfold R32 at *; omega) | (unfold R64 at *; omega) | (simp only [R32, R64] at *; omega))
  have hp_15 : ((cl_word15 (cl_beginLine v (v 16 0) 6)) 2 7) ≤ ((cl_word15 (cl_beginLine v (v 16 0) 6)) 2 4) := (show ((cl_word15 (cl_beginLine v (v 16 0) 6)) 2 7) ≤ ((cl_word15 (cl_beginLine v (v 16 0) 6)) 2 4) from (by first | assumption | omega | (unfold R32 at *; omega) | (unfold R64 at *; omega) | (simp only [R32, R64] at *; omega)))
  refine r_call (m := 40) (args := [.inr (.inr (some 2)), .inl 0, .inl (((cl_word15 (cl_beginLine v (v 16 0) 6)) 3 1) - 1)]) (n' := 48) (pc' := 36) (lo' := [some (.inr (.inr (some 2))), none, none, none]) (st' := []) (I := .invokevirtual 40) (pc0 := 33) (len := 3) rfl rfl rfl (e_cl_number hX_9 hp_13 hp_14 hp_15) ?_
  show WV _ _ _ 36 _ [.inl ((cl_number (cl_word15 (cl_beginLine v (v 16 0) 6)) 0 (((cl_word15 (cl_beginLine v (v 16 0) 6)) 3 1) - 1)).1)] _ (cl_number (cl_word15 (cl_beginLine v (v 16 0) 6)) 0 (((cl_word15 (cl_beginLine v (v 16 0) 6)) 3 1) - 1)).2 _
  have hX_16 : XI (cl_number (cl_word15 (cl_beginLine v (v 16 0) 6)) 0 (((cl_word15 (cl_beginLine v (v 16 0) 6)) 3 1) - 1)).2 := i_cl_number (v := (cl_word15 (cl_beginLine v (v 16 0) 6))) (l := 0) (g := (((cl_word15 (cl_beginLine v (v 16 0) 6)) 3 1) - 1)) hX_9 hp_13 hp_14 hp_15
  have hb_17 : ((cl_number (cl_word15 (cl_beginLine v (v 16 0) 6)) 0 (((cl_word15 (cl_beginLine v (v 16 0) 6)) 3 1) - 1)).2) 3 2 = ((cl_word15 (cl_beginLine v (v 16 0) 6)) 3 2) := by rw [o_cl_number (by omega)] <;> rfl
  have hb_18 := n0_cl_number (v := (cl_word15 (cl_beginLine v (v 16 0) 6))) (l := 0) (g := (((cl_word15 (cl_beginLine v (v 16 0) 6)) 3 1) - 1)) hX_9 hp_13 hp_14 hp_15
  have hb_19 : ((cl_number (cl_word15 (cl_beginLine v (v 16 0) 6)) 0 (((cl_word15 (cl_beginLine v (v 16 0) 6)) 3 1) - 1)).2 2 7) ≤ ((cl_number (cl_word15 (cl_beginLine v (v 16 0) 6)) 0 (((cl_word15 (cl_beginLine v (v 16 0) 6)) 3 1) - 1)).2 2 4) := n1_cl_number (v := (cl_word15 (cl_beginLine v (v 16 0) 6))) (l := 0) (g := (((cl_word15 (cl_beginLine v (v 16 0) 6)) 3 1) - 1)) hX_9 hp_13 hp_14 hp_15
  refine r_ex 3 (pc' := 40) (lo' := [some (.inr (.inr (some 2))), some (.inl ((cl_number (cl_word15 (cl_beginLine v (v 16 0) 6)) 0 (((cl_word15 (cl_beginLine v (v 16 0) 6)) 3 1) - 1)).1)), none, none]) (st' := [.inr (.inr (some 100025)), .inr (.inr (some 2))]) rfl ?_
  have hp_20 : (((cl_number (cl_word15 (cl_beginLine v (v 16 0) 6)) 0 (((cl_word15 (cl_beginLine v (v 16 0) 6)) 3 1) - 1)).2) 2 7) ≤ (((cl_number (cl_word15 (cl_beginLine v (v 16 0) 6)) 0 (((cl_word15 (cl_beginLine v (v 16 0) 6)) 3 1) - 1)).2) 2 4) := (show ((cl_number (cl_word15 (cl_beginLine v (v 16 0) 6)) 0 (((cl_word15 (cl_beginLine v (v 16 0) 6)) 3 1) - 1)).2 2 7) ≤ ((cl_number (cl_word15 (cl_beginLine v (v 16 0) 6)) 0 (((cl_word15 (cl_beginLine v (v 16 0) 6)) 3 1) - 1)).2 2 4) from (by first | assumption | omega | (unfold R32 at *; omega) | (unfold R64 at *; omega) | (simp only [R32, R64] at *; omega)))
  refine r_call (m := 27) (args := [.inr (.inr (some 2)), .inr (.inr (some 100025))]) (n' := 48) (pc' := 43) (lo' := [some (.inr (.inr (some 2))), some (.inl ((cl_number (cl_word15 (cl_beginLine v (v 16 0) 6)) 0 (((cl_word15 (cl_beginLine v (v 16 0) 6)) 3 1) - 1)).1)), none, none]) (st' := []) (I := .invokevirtual 27) (pc0 := 40) (len := 3) rfl rfl rfl (e_cl_isAt12 hX_16 hp_20) ?_
  show WV _ _ _ 43 _ [.inl (cl_isAt12 ((cl_number (cl_word15 (cl_beginLine v (v 16 0) 6)) 0 (((cl_word15 (cl_beginLine v (v 16 0) 6)) 3 1) - 1)).2))] _ _ _
  have hb_21 := n_cl_isAt12 (v := (cl_number (cl_word15 (cl_beginLine v (v 16 0) 6)) 0 (((cl_word15 (cl_beginLine v (v 16 0) 6)) 3 1) - 1)).2) hX_16 hp_20
  refine r_ex 3 (pc' := 46) (lo' := [some (.inr (.inr (some 2))), some (.inl ((cl_number (cl_word15 (cl_beginLine v (v 16 0) 6)) 0 (((cl_word15 (cl_beginLine v (v 16 0) 6)) 3 1) - 1)).1)), some (.inl (cl_isAt12 ((cl_number (cl_word15 (cl_beginLine v (v 16 0) 6)) 0 (((cl_word15 (cl_beginLine v (v 16 0) 6)) 3 1) - 1)).2))), none]) (st' := [.inl (cl_isAt12 ((cl_number (cl_word15 (cl_beginLine v (v 16 0) 6)) 0 (((cl_word15 (cl_beginLine v (v 16 0) 6)) 3 1) - 1)).2)), .inr (.inr (some 2))]) rfl ?_
  refine n_if_eq (pc0 := 46) (len := 3) (t := 54) rfl (by first | assumption | omega | (unfold R32 at *; omega) | (unfold R64 at *; omega) | (simp only [R32, R64] at *; omega)) (fun h_46 => ?_) (fun h_46 => ?_)
  · show WV _ _ _ 54 _ _ _ _ _
    rw [if_pos h_46] at hQ
    refine r_ex 1 (pc' := 56) (lo' := [some (.inr (.inr (some 2))), some (.inl ((cl_number (cl_word15 (cl_beginLine v (v 16 0) 6)) 0 (((cl_word15 (cl_beginLine v (v 16 0) 6)) 3 1) - 1)).1)), some (.inl (cl_isAt12 ((cl_number (cl_word15 (cl_beginLine v (v 16 0) 6)) 0 (((cl_word15 (cl_beginLine v (v 16 0) 6)) 3 1) - 1)).2))), none]) (st' := [.inr (.inr (some 100023)), .inr (.inr (some 2))]) rfl ?_
    have hp_22 : (((cl_number (cl_word15 (cl_beginLine v (v 16 0) 6)) 0 (((cl_word15 (cl_beginLine v (v 16 0) 6)) 3 1) - 1)).2) 2 7) ≤ (((cl_number (cl_word15 (cl_beginLine v (v 16 0) 6)) 0 (((cl_word15 (cl_beginLine v (v 16 0) 6)) 3 1) - 1)).2) 2 4) := (show ((cl_number (cl_word15 (cl_beginLine v (v 16 0) 6)) 0 (((cl_word15 (cl_beginLine v (v 16 0) 6)) 3 1) - 1)).2 2 7) ≤ ((cl_number (cl_word15 (cl_beginLine v (v 16 0) 6)) 0 (((cl_word15 (cl_beginLine v (v 16 0) 6)) 3 1) - 1)).2 2 4) from (by first | assumption | omega | (unfold R32 at *; omega) | (unfold R64 at *; omega) | (simp only [R32, R64] at *; omega)))
    refine r_call (m := 26) (args := [.inr (.inr (some 2)), .inr (.inr (some 100023))]) (n' := 48) (pc' := 59) (lo' := [some (.inr (.inr (some 2))), some (.inl ((cl_number (cl_word15 (cl_beginLine v (v 16 0) 6)) 0 (((cl_word15 (cl_beginLine v (v 16 0) 6)) 3 1) - 1)).1)), some (.inl (cl_isAt12 ((cl_number (cl_word15 (cl_beginLine v (v 16 0) 6)) 0 (((cl_word15 (cl_beginLine v (v 16 0) 6)) 3 1) - 1)).2))), none]) (st' := []) (I := .invokevirtual 26) (pc0 := 56) (len := 3) rfl rfl rfl (e_cl_word11 hX_16 hp_22) ?_
    show WV _ _ _ 59 _ [] _ (cl_word11 ((cl_number (cl_word15 (cl_beginLine v (v 16 0) 6)) 0 (((cl_word15 (cl_beginLine v (v 16 0) 6)) 3 1) - 1)).2)) _
    have hX_23 : XI (cl_word11 ((cl_number (cl_word15 (cl_beginLine v (v 16 0) 6)) 0 (((cl_word15 (cl_beginLine v (v 16 0) 6)) 3 1) - 1)).2)) := i_cl_word11 (v := (cl_number (cl_word15 (cl_beginLine v (v 16 0) 6)) 0 (((cl_word15 (cl_beginLine v (v 16 0) 6)) 3 1) - 1)).2) hX_16 hp_22
    have hb_24 : (cl_word11 ((cl_number (cl_word15 (cl_beginLine v (v 16 0) 6)) 0 (((cl_word15 (cl_beginLine v (v 16 0) 6)) 3 1) - 1)).2)) 3 2 = ((cl_number (cl_word15 (cl_beginLine v (v 16 0) 6)) 0 (((cl_word15 (cl_beginLine v (v 16 0) 6)) 3 1) - 1)).2 3 2) := by rw [o_cl_word11 (by omega)] <;> rfl
    have hb_25 : ((cl_word11 ((cl_number (cl_word15 (cl_beginLine v (v 16 0) 6)) 0 (((cl_word15 (cl_beginLine v (v 16 0) 6)) 3 1) - 1)).2)) 2 7) ≤ ((cl_word11 ((cl_number (cl_word15 (cl_beginLine v (v 16 0) 6)) 0 (((cl_word15 (cl_beginLine v (v 16 0) 6)) 3 1) - 1)).2)) 2 4) := n_cl_word11 (v := (cl_number (cl_word15 (cl_beginLine v (v 16 0) 6)) 0 (((cl_word15 (cl_beginLine v (v 16 0) 6)) 3 1) - 1)).2) hX_16 hp_22
    exact l_cl_readWind_59  (cl_word11 ((cl_number (cl_word15 (cl_beginLine v (v 16 0) 6)) 0 (((cl_word15 (cl_beginLine v (v 16 0) 6)) 3 1) - 1)).2)) ((cl_number (cl_word15 (cl_beginLine v (v 16 0) 6)) 0 (((cl_word15 (cl_beginLine v (v 16 0) 6)) 3 1) - 1)).1) (cl_isAt12 ((cl_number (cl_word15 (cl_beginLine v (v 16 0) 6)) 0 (((cl_word15 (cl_beginLine v (v 16 0) 6)) 3 1) - 1)).2)) _ hX_23 (by first | assumption | omega | (unfold R32 at *; omega) | (unfold R64 at *; omega) | (simp only [R32, R64] at *; omega)) (by first | assumption | omega | (unfold R32 at *; omega) | (unfold R64 at *; omega) | (simp only [R32, R64] at *; omega)) (show ((cl_word11 ((cl_number (cl_word15 (cl_beginLine v (v 16 0) 6)) 0 (((cl_word15 (cl_beginLine v (v 16 0) 6)) 3 1) - 1)).2)) 2 7) ≤ ((cl_word11 ((cl_number (cl_word15 (cl_beginLine v (v 16 0) 6)) 0 (((cl_word15 (cl_beginLine v (v 16 0) 6)) 3 1) - 1)).2)) 2 4) from (by first | assumption | omega | (unfold R32 at *; omega) | (unfold R64 at *; omega) | (simp only [R32, R64] at *; omega))) hQ
  · show WV _ _ _ 49 _ _ _ _ _
    rw [if_neg h_46] at hQ
    refine r_ex 2 (pc' := 56) (lo' := [some (.inr (.inr (some 2))), some (.inl ((cl_number (cl_word15 (cl_beginLine v (v 16 0) 6)) 0 (((cl_word15 (cl_beginLine v (v 16 0) 6)) 3 1) - 1)).1)), some (.inl (cl_isAt12 ((cl_number (cl_word15 (cl_beginLine v (v 16 0) 6)) 0 (((cl_word15 (cl_beginLine v (v 16 0) 6)) 3 1) - 1)).2))), none]) (st' := [.inr (.inr (some 100025)), .inr (.inr (some 2))]) rfl ?_
    have hp_52 : (((cl_number (cl_word15 (cl_beginLine v (v 16 0) 6)) 0 (((cl_word15 (cl_beginLine v (v 16 0) 6)) 3 1) - 1)).2) 2 7) ≤ (((cl_number (cl_word15 (cl_beginLine v (v 16 0) 6)) 0 (((cl_word15 (cl_beginLine v (v 16 0) 6)) 3 1) - 1)).2) 2 4) := (show ((cl_number (cl_word15 (cl_beginLine v (v 16 0) 6)) 0 (((cl_word15 (cl_beginLine v (v 16 0) 6)) 3 1) - 1)).2 2 7) ≤ ((cl_number (cl_word15 (cl_beginLine v (v 16 0) 6)) 0 (((cl_word15 (cl_beginLine v (v 16 0) 6)) 3 1) - 1)).2 2 4) from (by first | assumption | omega | (unfold R32 at *; omega) | (unfold R64 at *; omega) | (simp only [R32, R64] at *; omega)))
    refine r_call (m := 26) (args := [.inr (.inr (some 2)), .inr (.inr (some 100025))]) (n' := 48) (pc' := 59) (lo' := [some (.inr (.inr (some 2))), some (.inl ((cl_number (cl_word15 (cl_beginLine v (v 16 0) 6)) 0 (((cl_word15 (cl_beginLine v (v 16 0) 6)) 3 1) - 1)).1)), some (.inl (cl_isAt12 ((cl_number (cl_word15 (cl_beginLine v (v 16 0) 6)) 0 (((cl_word15 (cl_beginLine v (v 16 0) 6)) 3 1) - 1)).2))), none]) (st' := []) (I := .invokevirtual 26) (pc0 := 56) (len := 3) rfl rfl rfl (e_cl_word12 hX_16 hp_52) ?_
    show WV _ _ _ 59 _ [] _ (cl_word12 ((cl_number (cl_word15 (cl_beginLine v (v 16 0) 6)) 0 (((cl_word15 (cl_beginLine v (v 16 0) 6)) 3 1) - 1)).2)) _
    have hX_53 : XI (cl_word12 ((cl_number (cl_word15 (cl_beginLine v (v 16 0) 6)) 0 (((cl_word15 (cl_beginLine v (v 16 0) 6)) 3 1) - 1)).2)) := i_cl_word12 (v := (cl_number (cl_word15 (cl_beginLine v (v 16 0) 6)) 0 (((cl_word15 (cl_beginLine v (v 16 0) 6)) 3 1) - 1)).2) hX_16 hp_52
    have hb_54 : (cl_word12 ((cl_number (cl_word15 (cl_beginLine v (v 16 0) 6)) 0 (((cl_word15 (cl_beginLine v (v 16 0) 6)) 3 1) - 1)).2)) 3 2 = ((cl_number (cl_word15 (cl_beginLine v (v 16 0) 6)) 0 (((cl_word15 (cl_beginLine v (v 16 0) 6)) 3 1) - 1)).2 3 2) := by rw [o_cl_word12 (by omega)] <;> rfl
    have hb_55 : ((cl_word12 ((cl_number (cl_word15 (cl_beginLine v (v 16 0) 6)) 0 (((cl_word15 (cl_beginLine v (v 16 0) 6)) 3 1) - 1)).2)) 2 7) ≤ ((cl_word12 ((cl_number (cl_word15 (cl_beginLine v (v 16 0) 6)) 0 (((cl_word15 (cl_beginLine v (v 16 0) 6)) 3 1) - 1)).2)) 2 4) := n_cl_word12 (v := (cl_number (cl_word15 (cl_beginLine v (v 16 0) 6)) 0 (((cl_word15 (cl_beginLine v (v 16 0) 6)) 3 1) - 1)).2) hX_16 hp_52
    exact l_cl_readWind_59  (cl_word12 ((cl_number (cl_word15 (cl_beginLine v (v 16 0) 6)) 0 (((cl_word15 (cl_beginLine v (v 16 0) 6)) 3 1) - 1)).2)) ((cl_number (cl_word15 (cl_beginLine v (v 16 0) 6)) 0 (((cl_word15 (cl_beginLine v (v 16 0) 6)) 3 1) - 1)).1) (cl_isAt12 ((cl_number (cl_word15 (cl_beginLine v (v 16 0) 6)) 0 (((cl_word15 (cl_beginLine v (v 16 0) 6)) 3 1) - 1)).2)) _ hX_53 (by first | assumption | omega | (unfold R32 at *; omega) | (unfold R64 at *; omega) | (simp only [R32, R64] at *; omega)) (by first | assumption | omega | (unfold R32 at *; omega) | (unfold R64 at *; omega) | (simp only [R32, R64] at *; omega)) (show ((cl_word12 ((cl_number (cl_word15 (cl_beginLine v (v 16 0) 6)) 0 (((cl_word15 (cl_beginLine v (v 16 0) 6)) 3 1) - 1)).2)) 2 7) ≤ ((cl_word12 ((cl_number (cl_word15 (cl_beginLine v (v 16 0) 6)) 0 (((cl_word15 (cl_beginLine v (v 16 0) 6)) 3 1) - 1)).2)) 2 4) from (by first | assumption | omega | (unfold R32 at *; omega) | (unfold R64 at *; omega) | (simp only [R32, R64] at *; omega))) hQ

theorem e_cl_readWind {X : PX} {d : Nat} {v : VS}  (hX : XI v) (hp_a : (v 2 7) ≤ (v 2 4)) : EvV X (d + 1 + 1 + 1 + 1 + 1 + 1) 48 [.inr (.inr (some 2))] 1 v none 1 (cl_readWind v) := EvV.of (w_cl_readWind hX hp_a (fun _ _ => ⟨rfl, rfl, rfl⟩))

theorem i_cl_readWind {v : VS}  (hX : XI v) (hp_a : (v 2 7) ≤ (v 2 4)) : XI (cl_readWind v) := by
  have q : WV (0, fun _ => 0, none) (0 + 1 + 1 + 1 + 1 + 1 + 1) 48 0 [some (.inr (.inr (some 2))), none, none, none] [] 1 v (fun _ _ _ => XI (cl_readWind v)) := w_cl_readWind (X := (0, fun _ => 0, none)) (d := 0) hX hp_a (fun q _ => q)
  obtain ⟨_, _, _, _, _, _, _, q⟩ := q
  exact q

theorem n_cl_readWind {v : VS}  (hX : XI v) (hp_a : (v 2 7) ≤ (v 2 4)) : ((cl_readWind v) 2 7) ≤ ((cl_readWind v) 2 4) := by
  have q : WV (0, fun _ => 0, none) (0 + 1 + 1 + 1 + 1 + 1 + 1) 48 0 [some (.inr (.inr (some 2))), none, none, none] [] 1 v (fun _ _ _ => ((cl_readWind v) 2 7) ≤ ((cl_readWind v) 2 4)) := w_cl_readWind (X := (0, fun _ => 0, none)) (d := 0) hX hp_a (fun _ q => q)
  obtain ⟨_, _, _, _, _, _, _, q⟩ := q
  exact q

theorem o_cl_readWind {rk : Nat} {v : VS}  (hk : (rk < 2 ∨ 2 < rk) ∧ (rk < 16 ∨ 19 < rk)) : (cl_readWind v ) rk = v rk := by
  unfold cl_readWind
  by_cases hc_ : (cl_isAt12 ((cl_number (cl_word15 (cl_beginLine v (v 16 0) 6)) 0 (((cl_word15 (cl_beginLine v (v 16 0) 6)) 3 1) - 1)).2)) = 0
  · rw [if_pos hc_]
    all_goals (rw [o_cl_readWind_59 (by omega), o_cl_word11 (by omega), o_cl_number (by omega), o_cl_word15 (by omega), o_cl_beginLine (by omega)])
  · rw [if_neg hc_]
    all_goals (rw [o_cl_readWind_59 (by omega), o_cl_word12 (by omega), o_cl_number (by omega), o_cl_word15 (by omega), o_cl_beginLine (by omega)])

def cl_readSpell20 (v : VS) (g : Int) : VS :=
  (if ((cl_stop ((cl_number (cl_word19 ((cl_number (cl_word18 ((cl_number v 0 g).2)) 0 (((cl_word18 ((cl_number v 0 g).2)) 3 1) - 1)).2)) ((cl_number (cl_word18 ((cl_number v 0 g).2)) 0 (((cl_word18 ((cl_number v 0 g).2)) 3 1) - 1)).1) (((cl_word19 ((cl_number (cl_word18 ((cl_number v 0 g).2)) 0 (((cl_word18 ((cl_number v 0 g).2)) 3 1) - 1)).2)) 3 1) - 1)).2)) 2 1) = 0 then (cl_spAdd20 (cl_stop ((cl_number (cl_word19 ((cl_number (cl_word18 ((cl_number v 0 g).2)) 0 (((cl_word18 ((cl_number v 0 g).2)) 3 1) - 1)).2)) ((cl_number (cl_word18 ((cl_number v 0 g).2)) 0 (((cl_word18 ((cl_number v 0 g).2)) 3 1) - 1)).1) (((cl_word19 ((cl_number (cl_word18 ((cl_number v 0 g).2)) 0 (((cl_word18 ((cl_number v 0 g).2)) 3 1) - 1)).2)) 3 1) - 1)).2)) ((cl_number v 0 g).1) ((cl_number (cl_word18 ((cl_number v 0 g).2)) 0 (((cl_word18 ((cl_number v 0 g).2)) 3 1) - 1)).1) ((cl_number (cl_word19 ((cl_number (cl_word18 ((cl_number v 0 g).2)) 0 (((cl_word18 ((cl_number v 0 g).2)) 3 1) - 1)).2)) ((cl_number (cl_word18 ((cl_number v 0 g).2)) 0 (((cl_word18 ((cl_number v 0 g).2)) 3 1) - 1)).1) (((cl_word19 ((cl_number (cl_word18 ((cl_number v 0 g).2)) 0 (((cl_word18 ((cl_number v 0 g).2)) 3 1) - 1)).2)) 3 1) - 1)).1)) else (cl_stop ((cl_number (cl_word19 ((cl_number (cl_word18 ((cl_number v 0 g).2)) 0 (((cl_word18 ((cl_number v 0 g).2)) 3 1) - 1)).2)) ((cl_number (cl_word18 ((cl_number v 0 g).2)) 0 (((cl_word18 ((cl_number v 0 g).2)) 3 1) - 1)).1) (((cl_word19 ((cl_number (cl_word18 ((cl_number v 0 g).2)) 0 (((cl_word18 ((cl_number v 0 g).2)) 3 1) - 1)).2)) 3 1) - 1)).2)))
theorem w_cl_readSpell20 {X : PX} {d : Nat} {v : VS} {g : Int} (hX : XI v) (hp_a : -1 ≤ g ∧ g ≤ 11) (hp_b : (v 2 7) ≤ (v 2 4)) {Q : Option PV → Nat → VS → Prop} (hQ : XI (cl_readSpell20 v g) → (((cl_readSpell20 v g) 2 7) ≤ ((cl_readSpell20 v g) 2 4)) → Q none 1 (cl_readSpell20 v g)) : WV X (d + 1 + 1 + 1 + 1 + 1 + 1) 50 0 [some (.inr (.inr (some 2))), some (.inr (.inr (some 20))), some (.inl g), none, none, none] [] 1 v Q := by
  rw [cl_readSpell20] at hQ
  refine r_ex 3 (pc' := 3) (lo' := [some (.inr (.inr (some 2))), some (.inr (.inr (some 20))), some (.inl g), none, none, none]) (st' := [.inl g, .inl 0, .inr (.inr (some 2))]) rfl ?_
  have hp_1 : 0 ≤ (0 : Int) ∧ (0 : Int) ≤ 300 := (by first | assumption | omega | (unfold R32 at *; omega) | (unfold R64 at *; omega) | (simp only [R32, R64] at *; omega))
  have hp_2 : -1 ≤ g ∧ g ≤ 300 := (by first | assumption | omega | (unfold R32 at *; omega) | (unfold R64 at *; omega) | (simp only [R32, R64] at *; omega))
  have hp_3 : (v 2 7) ≤ (v 2 4) := (show (v 2 7) ≤ (v 2 4) from (by first | assumption | omega | (unfold R32 at *; omega) | (unfold R64 at *; omega) | (simp only [R32, R64] at *; omega)))
  refine r_call (m := 40) (args := [.inr (.inr (some 2)), .inl 0, .inl g]) (n' := 50) (pc' := 6) (lo' := [some (.inr (.inr (some 2))), some (.inr (.inr (some 20))), some (.inl g), none, none, none]) (st' := []) (I := .invokevirtual 40) (pc0 := 3) (len := 3) rfl rfl rfl (e_cl_number hX hp_1 hp_2 hp_3) ?_
  show WV _ _ _ 6 _ [.inl ((cl_number v 0 g).1)] _ (cl_number v 0 g).2 _
  have hX_4 : XI (cl_number v 0 g).2 := i_cl_number (v := v) (l := 0) (g := g) hX hp_1 hp_2 hp_3
  have hb_5 : ((cl_number v 0 g).2) 3 2 = (v 3 2) := by rw [o_cl_number (by omega)] <;> rfl
  have hb_6 := n0_cl_number (v := v) (l := 0) (g := g) hX hp_1 hp_2 hp_3
  have hb_7 : ((cl_number v 0 g).2 2 7) ≤ ((cl_number v 0 g).2 2 4) := n1_cl_number (v := v) (l := 0) (g := g) hX hp_1 hp_2 hp_3
  refine r_ex 3 (pc' := 10) (lo' := [some (.inr (.inr (some 2))), some (.inr (.inr (some 20))), some (.inl g), some (.inl ((cl_number v 0 g).1)), none, none]) (st' := [.inr (.inr (some 100037)), .inr (.inr (some 2))]) rfl ?_
  have hp_8 : (((cl_number v 0 g).2) 2 7) ≤ (((cl_number v 0 g).2) 2 4) := (show ((cl_number v 0 g).2 2 7) ≤ ((cl_number v 0 g).2 2 4) from (by first | assumption | omega | (unfold R32 at *; omega) | (unfold R64 at *; omega) | (simp only [R32, R64] at *; omega)))
  refine r_call (m := 26) (args := [.inr (.inr (some 2)), .inr (.inr (some 100037))]) (n' := 50) (pc' := 13) (lo' := [some (.inr (.inr (some 2))), some (.inr (.inr (some 20))), some (.inl g), some (.inl ((cl_number v 0 g).1)), none, none]) (st' := []) (I := .invokevirtual 26) (pc0 := 10) (len := 3) rfl rfl rfl (e_cl_word18 hX_4 hp_8) ?_
  show WV _ _ _ 13 _ [] _ (cl_word18 ((cl_number v 0 g).2)) _
  have hX_9 : XI (cl_word18 ((cl_number v 0 g).2)) := i_cl_word18 (v := (cl_number v 0 g).2) hX_4 hp_8
  have hb_10 : (cl_word18 ((cl_number v 0 g).2)) 3 2 = ((cl_number v 0 g).2 3 2) := by rw [o_cl_word18 (by omega)] <;> rfl
  have hb_11 : ((cl_word18 ((cl_number v 0 g).2)) 2 7) ≤ ((cl_word18 ((cl_number v 0 g).2)) 2 4) := n_cl_word18 (v := (cl_number v 0 g).2) hX_4 hp_8
  refine r_ex 7 (pc' := 24) (lo' := [some (.inr (.inr (some 2))), some (.inr (.inr (some 20))), some (.inl g), some (.inl ((cl_number v 0 g).1)), none, none]) (st' := [.inl (((cl_word18 ((cl_number v 0 g).2)) 3 1) - 1), .inl 0, .inr (.inr (some 2))]) rfl ?_
  have hb_12 : 0 ≤ ((cl_word18 ((cl_number v 0 g).2)) 3 1) ∧ ((cl_word18 ((cl_number v 0 g).2)) 3 1) ≤ 300 := hX_9 3 1
  have hp_13 : 0 ≤ (0 : Int) ∧ (0 : Int) ≤ 300 := (by first | assumption | omega | (unfold R32 at *; omega) | (unfold R64 at *; omega) | (simp only [R32, R64] at *; omega))
  have hp_14 : -1 ≤ (((cl_word18 ((cl_number v 0 g).2)) 3 1) - 1) ∧ (((cl_word18 ((cl_number v 0 g).2)) 3 1) - 1) ≤ 300 := (by first | assumption | omega | (unfold R32 at *; omega) | (unfold R64 at *; omega) | (simp only [R32, R64] at *; omega))
  have hp_15 : ((cl_word18 ((cl_number v 0 g).2)) 2 7) ≤ ((cl_word18 ((cl_number v 0 g).2)) 2 4) := (show ((cl_word18 ((cl_number v 0 g).2)) 2 7) ≤ ((cl_word18 ((cl_number v 0 g).2)) 2 4) from (by first | assumption | omega | (unfold R32 at *; omega) | (unfold R64 at *; omega) | (simp only [R32, R64] at *; omega)))
  refine r_call (m := 40) (args := [.inr (.inr (some 2)), .inl 0, .inl (((cl_word18 ((cl_number v 0 g).2)) 3 1) - 1)]) (n' := 50) (pc' := 27) (lo' := [some (.inr (.inr (some 2))), some (.inr (.inr (some 20))), some (.inl g), some (.inl ((cl_number v 0 g).1)), none, none]) (st' := []) (I := .invokevirtual 40) (pc0 := 24) (len := 3) rfl rfl rfl (e_cl_number hX_9 hp_13 hp_14 hp_15) ?_
  show WV _ _ _ 27 _ [.inl ((cl_number (cl_word18 ((cl_number v 0 g).2)) 0 (((cl_word18 ((cl_number v 0 g).2)) 3 1) - 1)).1)] _ (cl_number (cl_word18 ((cl_number v 0 g).2)) 0 (((cl_word18 ((cl_number v 0 g).2)) 3 1) - 1)).2 _
  have hX_16 : XI (cl_number (cl_word18 ((cl_number v 0 g).2)) 0 (((cl_word18 ((cl_number v 0 g).2)) 3 1) - 1)).2 := i_cl_number (v := (cl_word18 ((cl_number v 0 g).2))) (l := 0) (g := (((cl_word18 ((cl_number v 0 g).2)) 3 1) - 1)) hX_9 hp_13 hp_14 hp_15
  have hb_17 : ((cl_number (cl_word18 ((cl_number v 0 g).2)) 0 (((cl_word18 ((cl_number v 0 g).2)) 3 1) - 1)).2) 3 2 = ((cl_word18 ((cl_number v 0 g).2)) 3 2) := by rw [o_cl_number (by omega)] <;> rfl
  have hb_18 := n0_cl_number (v := (cl_word18 ((cl_number v 0 g).2))) (l := 0) (g := (((cl_word18 ((cl_number v 0 g).2)) 3 1) - 1)) hX_9 hp_13 hp_14 hp_15
  have hb_19 : ((cl_number (cl_word18 ((cl_number v 0 g).2)) 0 (((cl_word18 ((cl_number v 0 g).2)) 3 1) - 1)).2 2 7) ≤ ((cl_number (cl_word18 ((cl_number v 0 g).2)) 0 (((cl_word18 ((cl_number v 0 g).2)) 3 1) - 1)).2 2 4) := n1_cl_number (v := (cl_word18 ((cl_number v 0 g).2))) (l := 0) (g := (((cl_word18 ((cl_number v 0 g).2)) 3 1) - 1)) hX_9 hp_13 hp_14 hp_15
  refine r_ex 3 (pc' := 32) (lo' := [some (.inr (.inr (some 2))), some (.inr (.inr (some 20))), some (.inl g), some (.inl ((cl_number v 0 g).1)), some (.inl ((cl_number (cl_word18 ((cl_number v 0 g).2)) 0 (((cl_word18 ((cl_number v 0 g).2)) 3 1) - 1)).1)), none]) (st' := [.inr (.inr (some 100039)), .inr (.inr (some 2))]) rfl ?_
  have hp_20 : (((cl_number (cl_word18 ((cl_number v 0 g).2)) 0 (((cl_word18 ((cl_number v 0 g).2)) 3 1) - 1)).2) 2 7) ≤ (((cl_number (cl_word18 ((cl_number v 0 g).2)) 0 (((cl_word18 ((cl_number v 0 g).2)) 3 1) - 1)).2) 2 4) := (show ((cl_number (cl_word18 ((cl_number v 0 g).2)) 0 (((cl_word18 ((cl_number v 0 g).2)) 3 1) - 1)).2 2 7) ≤ ((cl_number (cl_word18 ((cl_number v 0 g).2)) 0 (((cl_word18 ((cl_number v 0 g).2)) 3 1) - 1)).2 2 4) from (by first | assumption | omega | (unfold R32 at *; omega) | (unfold R64 at *; omega) | (simp only [R32, R64] at *; omega)))
  refine r_call (m := 26) (args := [.inr (.inr (some 2)), .inr (.inr (some 100039))]) (n' := 50) (pc' := 35) (lo' := [some (.inr (.inr (some 2))), some (.inr (.inr (some 20))), some (.inl g), some (.inl ((cl_number v 0 g).1)), some (.inl ((cl_number (cl_word18 ((cl_number v 0 g).2)) 0 (((cl_word18 ((cl_number v 0 g).2)) 3 1) - 1)).1)), none]) (st' := []) (I := .invokevirtual 26) (pc0 := 32) (len := 3) rfl rfl rfl (e_cl_word19 hX_16 hp_20) ?_
  show WV _ _ _ 35 _ [] _ (cl_word19 ((cl_number (cl_word18 ((cl_number v 0 g).2)) 0 (((cl_word18 ((cl_number v 0 g).2)) 3 1) - 1)).2)) _
  have hX_21 : XI (cl_word19 ((cl_number (cl_word18 ((cl_number v 0 g).2)) 0 (((cl_word18 ((cl_number v 0 g).2)) 3 1) - 1)).2)) := i_cl_word19 (v := (cl_number (cl_word18 ((cl_number v 0 g).2)) 0 (((cl_word18 ((cl_number v 0 g).2)) 3 1) - 1)).2) hX_16 hp_20
  have hb_22 : (cl_word19 ((cl_number (cl_word18 ((cl_number v 0 g).2)) 0 (((cl_word18 ((cl_number v 0 g).2)) 3 1) - 1)).2)) 3 2 = ((cl_number (cl_word18 ((cl_number v 0 g).2)) 0 (((cl_word18 ((cl_number v 0 g).2)) 3 1) - 1)).2 3 2) := by rw [o_cl_word19 (by omega)] <;> rfl
  have hb_23 : ((cl_word19 ((cl_number (cl_word18 ((cl_number v 0 g).2)) 0 (((cl_word18 ((cl_number v 0 g).2)) 3 1) - 1)).2)) 2 7) ≤ ((cl_word19 ((cl_number (cl_word18 ((cl_number v 0 g).2)) 0 (((cl_word18 ((cl_number v 0 g).2)) 3 1) - 1)).2)) 2 4) := n_cl_word19 (v := (cl_number (cl_word18 ((cl_number v 0 g).2)) 0 (((cl_word18 ((cl_number v 0 g).2)) 3 1) - 1)).2) hX_16 hp_20
  refine r_ex 7 (pc' := 47) (lo' := [some (.inr (.inr (some 2))), some (.inr (.inr (some 20))), some (.inl g), some (.inl ((cl_number v 0 g).1)), some (.inl ((cl_number (cl_word18 ((cl_number v 0 g).2)) 0 (((cl_word18 ((cl_number v 0 g).2)) 3 1) - 1)).1)), none]) (st' := [.inl (((cl_word19 ((cl_number (cl_word18 ((cl_number v 0 g).2)) 0 (((cl_word18 ((cl_number v 0 g).2)) 3 1) - 1)).2)) 3 1) - 1), .inl ((cl_number (cl_word18 ((cl_number v 0 g).2)) 0 (((cl_word18 ((cl_number v 0 g).2)) 3 1) - 1)).1), .inr (.inr (some 2))]) rfl ?_
  have hb_24 : 0 ≤ ((cl_word19 ((cl_number (cl_word18 ((cl_number v 0 g).2)) 0 (((cl_word18 ((cl_number v 0 g).2)) 3 1) - 1)).2)) 3 1) ∧ ((cl_word19 ((cl_number (cl_word18 ((cl_number v 0 g).2)) 0 (((cl_word18 ((cl_number v 0 g).2)) 3 1) - 1)).2)) 3 1) ≤ 300 := hX_21 3 1
  have hp_25 : 0 ≤ ((cl_number (cl_word18 ((cl_number v 0 g).2)) 0 (((cl_word18 ((cl_number v 0 g).2)) 3 1) - 1)).1) ∧ ((cl_number (cl_word18 ((cl_number v 0 g).2)) 0 (((cl_word18 ((cl_number v 0 g).2)) 3 1) - 1)).1) ≤ 300 := (by first | assumption | omega | (unfold R32 at *; omega) | (unfold R64 at *; omega) | (simp only [R32, R64] at *; omega))
  have hp_26 : -1 ≤ (((cl_word19 ((cl_number (cl_word18 ((cl_number v 0 g).2)) 0 (((cl_word18 ((cl_number v 0 g).2)) 3 1) - 1)).2)) 3 1) - 1) ∧ (((cl_word19 ((cl_number (cl_word18 ((cl_number v 0 g).2)) 0 (((cl_word18 ((cl_number v 0 g).2)) 3 1) - 1)).2)) 3 1) - 1) ≤ 300 := (by first | assumption | omega | (unfold R32 at *; omega) | (unfold R64 at *; omega) | (simp only [R32, R64] at *; omega))
  have hp_27 : ((cl_word19 ((cl_number (cl_word18 ((cl_number v 0 g).2)) 0 (((cl_word18 ((cl_number v 0 g).2)) 3 1) - 1)).2)) 2 7) ≤ ((cl_word19 ((cl_number (cl_word18 ((cl_number v 0 g).2)) 0 (((cl_word18 ((cl_number v 0 g).2)) 3 1) - 1)).2)) 2 4) := (show ((cl_word19 ((cl_number (cl_word18 ((cl_number v 0 g).2)) 0 (((cl_word18 ((cl_number v 0 g).2)) 3 1) - 1)).2)) 2 7) ≤ ((cl_word19 ((cl_number (cl_word18 ((cl_number v 0 g).2)) 0 (((cl_word18 ((cl_number v 0 g).2)) 3 1) - 1)).2)) 2 4) from (by first | assumption | omega | (unfold R32 at *; omega) | (unfold R64 at *; omega) | (simp only [R32, R64] at *; omega)))
  refine r_call (m := 40) (args := [.inr (.inr (some 2)), .inl ((cl_number (cl_word18 ((cl_number v 0 g).2)) 0 (((cl_word18 ((cl_number v 0 g).2)) 3 1) - 1)).1), .inl (((cl_word19 ((cl_number (cl_word18 ((cl_number v 0 g).2)) 0 (((cl_word18 ((cl_number v 0 g).2)) 3 1) - 1)).2)) 3 1) - 1)]) (n' := 50) (pc' := 50) (lo' := [some (.inr (.inr (some 2))), some (.inr (.inr (some 20))), some (.inl g), some (.inl ((cl_number v 0 g).1)), some (.inl ((cl_number (cl_word18 ((cl_number v 0 g).2)) 0 (((cl_word18 ((cl_number v 0 g).2)) 3 1) - 1)).1)), none]) (st' := []) (I := .invokevirtual 40) (pc0 := 47) (len := 3) rfl rfl rfl (e_cl_number hX_21 hp_25 hp_26 hp_27) ?_
  show WV _ _ _ 50 _ [.inl ((cl_number (cl_word19 ((cl_number (cl_word18 ((cl_number v 0 g).2)) 0 (((cl_word18 ((cl_number v 0 g).2)) 3 1) - 1)).2)) ((cl_number (cl_word18 ((cl_number v 0 g).2)) 0 (((cl_word18 ((cl_number v 0 g).2)) 3 1) - 1)).1) (((cl_word19 ((cl_number (cl_word18 ((cl_number v 0 g).2)) 0 (((cl_word18 ((cl_number v 0 g).2)) 3 1) - 1)).2)) 3 1) - 1)).1)] _ (cl_number (cl_word19 ((cl_number (cl_word18 ((cl_number v 0 g).2)) 0 (((cl_word18 ((cl_number v 0 g).2)) 3 1) - 1)).2)) ((cl_number (cl_word18 ((cl_number v 0 g).2)) 0 (((cl_word18 ((cl_number v 0 g).2)) 3 1) - 1)).1) (((cl_word19 ((cl_number (cl_word18 ((cl_number v 0 g).2)) 0 (((cl_word18 ((cl_number v 0 g).2)) 3 1) - 1)).2)) 3 1) - 1)).2 _
  have hX_28 : XI (cl_number (cl_word19 ((cl_number (cl_word18 ((cl_number v 0 g).2)) 0 (((cl_word18 ((cl_number v 0 g).2)) 3 1) - 1)).2)) ((cl_number (cl_word18 ((cl_number v 0 g).2)) 0 (((cl_word18 ((cl_number v 0 g).2)) 3 1) - 1)).1) (((cl_word19 ((cl_number (cl_word18 ((cl_number v 0 g).2)) 0 (((cl_word18 ((cl_number v 0 g).2)) 3 1) - 1)).2)) 3 1) - 1)).2 := i_cl_number (v := (cl_word19 ((cl_number (cl_word18 ((cl_number v 0 g).2)) 0 (((cl_word18 ((cl_number v 0 g).2)) 3 1) - 1)).2))) (l := (cl_number (cl_word18 ((cl_number v 0 g).2)) 0 (((cl_word18 ((cl_number v 0 g).2)) 3 1) - 1)).1) (g := (((cl_word19 ((cl_number (cl_word18 ((cl_number v 0 g).2)) 0 (((cl_word18 ((cl_number v 0 g).2)) 3 1) - 1)).2)) 3 1) - 1)) hX_21 hp_25 hp_26 hp_27
  have hb_29 : ((cl_number (cl_word19 ((cl_number (cl_word18 ((cl_number v 0 g).2)) 0 (((cl_word18 ((cl_number v 0 g).2)) 3 1) - 1)).2)) ((cl_number (cl_word18 ((cl_number v 0 g).2)) 0 (((cl_word18 ((cl_number v 0 g).2)) 3 1) - 1)).1) (((cl_word19 ((cl_number (cl_word18 ((cl_number v 0 g).2)) 0 (((cl_word18 ((cl_number v 0 g).2)) 3 1) - 1)).2)) 3 1) - 1)).2) 3 2 = ((cl_word19 ((cl_number (cl_word18 ((cl_number v 0 g).2)) 0 (((cl_word18 ((cl_number v 0 g).2)) 3 1) - 1)).2)) 3 2) := by rw [o_cl_number (by omega)] <;> rfl
  have hb_30 := n0_cl_number (v := (cl_word19 ((cl_number (cl_word18 ((cl_number v 0 g).2)) 0 (((cl_word18 ((cl_number v 0 g).2)) 3 1) - 1)).2))) (l := (cl_number (cl_word18 ((cl_number v 0 g).2)) 0 (((cl_word18 ((cl_number v 0 g).2)) 3 1) - 1)).1) (g := (((cl_word19 ((cl_number (cl_word18 ((cl_number v 0 g).2)) 0 (((cl_word18 ((cl_number v 0 g).2)) 3 1) - 1)).2)) 3 1) - 1)) hX_21 hp_25 hp_26 hp_27
  have hb_31 : ((cl_number (cl_word19 ((cl_number (cl_word18 ((cl_number v 0 g).2)) 0 (((cl_word18 ((cl_number v 0 g).2)) 3 1) - 1)).2)) ((cl_number (cl_word18 ((cl_number v 0 g).2)) 0 (((cl_word18 ((cl_number v 0 g).2)) 3 1) - 1)).1) (((cl_word19 ((cl_number (cl_word18 ((cl_number v 0 g).2)) 0 (((cl_word18 ((cl_number v 0 g).2)) 3 1) - 1)).2)) 3 1) - 1)).2 2 7) ≤ ((cl_number (cl_word19 ((cl_number (cl_word18 ((cl_number v 0 g).2)) 0 (((cl_word18 ((cl_number v 0 g).2)) 3 1) - 1)).2)) ((cl_number (cl_word18 ((cl_number v 0 g).2)) 0 (((cl_word18 ((cl_number v 0 g).2)) 3 1) - 1)).1) (((cl_word19 ((cl_number (cl_word18 ((cl_number v 0 g).2)) 0 (((cl_word18 ((cl_number v 0 g).2)) 3 1) - 1)).2)) 3 1) - 1)).2 2 4) := n1_cl_number (v := (cl_word19 ((cl_number (cl_word18 ((cl_number v 0 g).2)) 0 (((cl_word18 ((cl_number v 0 g).2)) 3 1) - 1)).2))) (l := (cl_number (cl_word18 ((cl_number v 0 g).2)) 0 (((cl_word18 ((cl_number v 0 g).2)) 3 1) - 1)).1) (g := (((cl_word19 ((cl_number (cl_word18 ((cl_number v 0 g).2)) 0 (((cl_word18 ((cl_number v 0 g).2)) 3 1) - 1)).2)) 3 1) - 1)) hX_21 hp_25 hp_26 hp_27
  refine r_ex 2 (pc' := 53) (lo' := [some (.inr (.inr (some 2))), some (.inr (.inr (some 20))), some (.inl g), some (.inl ((cl_number v 0 g).1)), some (.inl ((cl_number (cl_word18 ((cl_number v 0 g).2)) 0 (((cl_word18 ((cl_number v 0 g).2)) 3 1) - 1)).1)), some (.inl ((cl_number (cl_word19 ((cl_number (cl_word18 ((cl_number v 0 g).2)) 0 (((cl_word18 ((cl_number v 0 g).2)) 3 1) - 1)).2)) ((cl_number (cl_word18 ((cl_number v 0 g).2)) 0 (((cl_word18 ((cl_number v 0 g).2)) 3 1) - 1)).1) (((cl_word19 ((cl_number (cl_word18 ((cl_number v 0 g).2)) 0 (((cl_word18 ((cl_number v 0 g).2)) 3 1) - 1)).2)) 3 1) - 1)).1))]) (st' := [.inr (.inr (some 2))]) rfl ?_
  have hp_32 : (((cl_number (cl_word19 ((cl_number (cl_word18 ((cl_number v 0 g).2)) 0 (((cl_word18 ((cl_number v 0 g).2)) 3 1) - 1)).2)) ((cl_number (cl_word18 ((cl_number v 0 g).2)) 0 (((cl_word18 ((cl_number v 0 g).2)) 3 1) - 1)).1) (((cl_word19 ((cl_number (cl_word18 ((cl_number v 0 g).2)) 0 (((cl_word18 ((cl_number v 0 g).2)) 3 1) - 1)).2)) 3 1) - 1)).2) 2 7) ≤ (((cl_number (cl_word19 ((cl_number (cl_word18 ((cl_number v 0 g).2)) 0 (((cl_word18 ((cl_number v 0 g).2)) 3 1) - 1)).2)) ((cl_number (cl_word18 ((cl_number v 0 g).2)) 0 (((cl_word18 ((cl_number v 0 g).2)) 3 1) - 1)).1) (((cl_word19 ((cl_number (cl_word18 ((cl_number v 0 g).2)) 0 (((cl_word18 ((cl_number v 0 g).2)) 3 1) - 1)).2)) 3 1) - 1)).2) 2 4) := (show ((cl_number (cl_word19 ((cl_number (cl_word18 ((cl_number v 0 g).2)) 0 (((cl_word18 ((cl_number v 0 g).2)) 3 1) - 1)).2)) ((cl_number (cl_word18 ((cl_number v 0 g).2)) 0 (((cl_word18 ((cl_number v 0 g).2)) 3 1) - 1)).1) (((cl_word19 ((cl_number (cl_word18 ((cl_number v 0 g).2)) 0 (((cl_word18 ((cl_number v 0 g).2)) 3 1) - 1)).2)) 3 1) - 1)).2 2 7) ≤ ((cl_number (cl_word19 ((cl_number (cl_word18 ((cl_number v 0 g).2)) 0 (((cl_word18 ((cl_number v 0 g).2)) 3 1) - 1)).2)) ((cl_number (cl_word18 ((cl_number v 0 g).2)) 0 (((cl_word18 ((cl_number v 0 g).2)) 3 1) - 1)).1) (((cl_word19 ((cl_number (cl_word18 ((cl_number v 0 g).2)) 0 (((cl_word18 ((cl_number v 0 g).2)) 3 1) - 1)).2)) 3 1) - 1)).2 2 4) from (by first | assumption | omega | (unfold R32 at *; omega) | (unfold R64 at *; omega) | (simp only [R32, R64] at *; omega)))
  refine r_call (m := 41) (args := [.inr (.inr (some 2))]) (n' := 50) (pc' := 56) (lo' := [some (.inr (.inr (some 2))), some (.inr (.inr (some 20))), some (.inl g), some (.inl ((cl_number v 0 g).1)), some (.inl ((cl_number (cl_word18 ((cl_number v 0 g).2)) 0 (((cl_word18 ((cl_number v 0 g).2)) 3 1) - 1)).1)), some (.inl ((cl_number (cl_word19 ((cl_number (cl_word18 ((cl_number v 0 g).2)) 0 (((cl_word18 ((cl_number v 0 g).2)) 3 1) - 1)).2)) ((cl_number (cl_word18 ((cl_number v 0 g).2)) 0 (((cl_word18 ((cl_number v 0 g).2)) 3 1) - 1)).1) (((cl_word19 ((cl_number (cl_word18 ((cl_number v 0 g).2)) 0 (((cl_word18 ((cl_number v 0 g).2)) 3 1) - 1)).2)) 3 1) - 1)).1))]) (st' := []) (I := .invokevirtual 41) (pc0 := 53) (len := 3) rfl rfl rfl (e_cl_stop hX_28 hp_32) ?_
  show WV _ _ _ 56 _ [] _ (cl_stop ((cl_number (cl_word19 ((cl_number (cl_word18 ((cl_number v 0 g).2)) 0 (((cl_word18 ((cl_number v 0 g).2)) 3 1) - 1)).2)) ((cl_number (cl_word18 ((cl_number v 0 g).2)) 0 (((cl_word18 ((cl_number v 0 g).2)) 3 1) - 1)).1) (((cl_word19 ((cl_number (cl_word18 ((cl_number v 0 g).2)) 0 (((cl_word18 ((cl_number v 0 g).2)) 3 1) - 1)).2)) 3 1) - 1)).2)) _
  have hX_33 : XI (cl_stop ((cl_number (cl_word19 ((cl_number (cl_word18 ((cl_number v 0 g).2)) 0 (((cl_word18 ((cl_number v 0 g).2)) 3 1) - 1)).2)) ((cl_number (cl_word18 ((cl_number v 0 g).2)) 0 (((cl_word18 ((cl_number v 0 g).2)) 3 1) - 1)).1) (((cl_word19 ((cl_number (cl_word18 ((cl_number v 0 g).2)) 0 (((cl_word18 ((cl_number v 0 g).2)) 3 1) - 1)).2)) 3 1) - 1)).2)) := i_cl_stop (v := (cl_number (cl_word19 ((cl_number (cl_word18 ((cl_number v 0 g).2)) 0 (((cl_word18 ((cl_number v 0 g).2)) 3 1) - 1)).2)) ((cl_number (cl_word18 ((cl_number v 0 g).2)) 0 (((cl_word18 ((cl_number v 0 g).2)) 3 1) - 1)).1) (((cl_word19 ((cl_number (cl_word18 ((cl_number v 0 g).2)) 0 (((cl_word18 ((cl_number v 0 g).2)) 3 1) - 1)).2)) 3 1) - 1)).2) hX_28 hp_32
  have hb_34 : (cl_stop ((cl_number (cl_word19 ((cl_number (cl_word18 ((cl_number v 0 g).2)) 0 (((cl_word18 ((cl_number v 0 g).2)) 3 1) - 1)).2)) ((cl_number (cl_word18 ((cl_number v 0 g).2)) 0 (((cl_word18 ((cl_number v 0 g).2)) 3 1) - 1)).1) (((cl_word19 ((cl_number (cl_word18 ((cl_number v 0 g).2)) 0 (((cl_word18 ((cl_number v 0 g).2)) 3 1) - 1)).2)) 3 1) - 1)).2)) 3 2 = ((cl_number (cl_word19 ((cl_number (cl_word18 ((cl_number v 0 g).2)) 0 (((cl_word18 ((cl_number v 0 g).2)) 3 1) - 1)).2)) ((cl_number (cl_word18 ((cl_number v 0 g).2)) 0 (((cl_word18 ((cl_number v 0 g).2)) 3 1) - 1)).1) (((cl_word19 ((cl_number (cl_word18 ((cl_number v 0 g).2)) 0 (((cl_word18 ((cl_number v 0 g).2)) 3 1) - 1)).2)) 3 1) - 1)).2 3 2) := by rw [o_cl_stop (by omega)] <;> rfl
  have hb_35 : ((cl_stop ((cl_number (cl_word19 ((cl_number (cl_word18 ((cl_number v 0 g).2)) 0 (((cl_word18 ((cl_number v 0 g).2)) 3 1) - 1)).2)) ((cl_number (cl_word18 ((cl_number v 0 g).2)) 0 (((cl_word18 ((cl_number v 0 g).2)) 3 1) - 1)).1) (((cl_word19 ((cl_number (cl_word18 ((cl_number v 0 g).2)) 0 (((cl_word18 ((cl_number v 0 g).2)) 3 1) - 1)).2)) 3 1) - 1)).2)) 2 7) ≤ ((cl_stop ((cl_number (cl_word19 ((cl_number (cl_word18 ((cl_number v 0 g).2)) 0 (((cl_word18 ((cl_number v 0 g).2)) 3 1) - 1)).2)) ((cl_number (cl_word18 ((cl_number v 0 g).2)) 0 (((cl_word18 ((cl_number v 0 g).2)) 3 1) - 1)).1) (((cl_word19 ((cl_number (cl_word18 ((cl_number v 0 g).2)) 0 (((cl_word18 ((cl_number v 0 g).2)) 3 1) - 1)).2)) 3 1) - 1)).2)) 2 4) := n_cl_stop (v := (cl_number (cl_word19 ((cl_number (cl_word18 ((cl_number v 0 g).2)) 0 (((cl_word18 ((cl_number v 0 g).2)) 3 1) - 1)).2)) ((cl_number (cl_word18 ((cl_number v 0 g).2)) 0 (((cl_word18 ((cl_number v 0 g).2)) 3 1) - 1)).1) (((cl_word19 ((cl_number (cl_word18 ((cl_number v 0 g).2)) 0 (((cl_word18 ((cl_number v 0 g).2)) 3 1) - 1)).2)) 3 1) - 1)).2) hX_28 hp_32
  refine r_ex 2 (pc' := 60) (lo' := [some (.inr (.inr (some 2))), some (.inr (.inr (some 20))), some (.inl g), some (.inl ((cl_number v 0 g).1)), some (.inl ((cl_number (cl_word18 ((cl_number v 0 g).2)) 0 (((cl_word18 ((cl_number v 0 g).2)) 3 1) - 1)).1)), some (.inl ((cl_number (cl_word19 ((cl_number (cl_word18 ((cl_number v 0 g).2)) 0 (((cl_word18 ((cl_number v 0 g).2)) 3 1) - 1)).2)) ((cl_number (cl_word18 ((cl_number v 0 g).2)) 0 (((cl_word18 ((cl_number v 0 g).2)) 3 1) - 1)).1) (((cl_word19 ((cl_number (cl_word18 ((cl_number v 0 g).2)) 0 (((cl_word18 ((cl_number v 0 g).2)) 3 1) - 1)).2)) 3 1) - 1)).1))]) (st' := [.inl ((cl_stop ((cl_number (cl_word19 ((cl_number (cl_word18 ((cl_number v 0 g).2)) 0 (((cl_word18 ((cl_number v 0 g).2)) 3 1) - 1)).2)) ((cl_number (cl_word18 ((cl_number v 0 g).2)) 0 (((cl_word18 ((cl_number v 0 g).2)) 3 1) - 1)).1) (((cl_word19 ((cl_number (cl_word18 ((cl_number v 0 g).2)) 0 (((cl_word18 ((cl_number v 0 g).2)) 3 1) - 1)).2)) 3 1) - 1)).2)) 2 1)]) rfl ?_
  have hb_36 : 0 ≤ ((cl_stop ((cl_number (cl_word19 ((cl_number (cl_word18 ((cl_number v 0 g).2)) 0 (((cl_word18 ((cl_number v 0 g).2)) 3 1) - 1)).2)) ((cl_number (cl_word18 ((cl_number v 0 g).2)) 0 (((cl_word18 ((cl_number v 0 g).2)) 3 1) - 1)).1) (((cl_word19 ((cl_number (cl_word18 ((cl_number v 0 g).2)) 0 (((cl_word18 ((cl_number v 0 g).2)) 3 1) - 1)).2)) 3 1) - 1)).2)) 2 1) ∧ ((cl_stop ((cl_number (cl_word19 ((cl_number (cl_word18 ((cl_number v 0 g).2)) 0 (((cl_word18 ((cl_number v 0 g).2)) 3 1) - 1)).2)) ((cl_number (cl_word18 ((cl_number v 0 g).2)) 0 (((cl_word18 ((cl_number v 0 g).2)) 3 1) - 1)).1) (((cl_word19 ((cl_number (cl_word18 ((cl_number v 0 g).2)) 0 (((cl_word18 ((cl_number v 0 g).2)) 3 1) - 1)).2)) 3 1) - 1)).2)) 2 1) ≤ 3 := hX_33 2 1
  refine n_if_ne (pc0 := 60) (len := 3) (t := 72) rfl (by first | assumption | omega | (unfold R32 at *; omega) | (unfold R64 at *; omega) | (simp only [R32, R64] at *; omega)) (fun h_60 => ?_) (fun h_60 => ?_)
  · show WV _ _ _ 72 _ _ _ _ _
    rw [if_neg h_60] at hQ
    refine r_ret (rr := none) (I := .return_) (pc0 := 72) (len := 1) rfl rfl ?_
    exact hQ hX_33 (show ((cl_stop ((cl_number (cl_word19 ((cl_number (cl_word18 ((cl_number v 0 g).2)) 0 (((cl_word18 ((cl_number v 0 g).2)) 3 1) - 1)).2)) ((cl_number (cl_word18 ((cl_number v 0 g).2)) 0 (((cl_word18 ((cl_number v 0 g).2)) 3 1) - 1)).1) (((cl_word19 ((cl_number (cl_word18 ((cl_number v 0 g).2)) 0 (((cl_word18 ((cl_number v 0 g).2)) 3 1) - 1)).2)) 3 1) - 1)).2)) 2 7) ≤ ((cl_stop ((cl_number (cl_word19 ((cl_number (cl_word18 ((cl_number v 0 g).2)) 0 (((cl_word18 ((cl_number v 0 g).2)) 3 1) - 1)).2)) ((cl_number (cl_word18 ((cl_number v 0 g).2)) 0 (((cl_word18 ((cl_number v 0 g).2)) 3 1) - 1)).1) (((cl_word19 ((cl_number (cl_word18 ((cl_number v 0 g).2)) 0 (((cl_word18 ((cl_number v 0 g).2)) 3 1) - 1)).2)) 3 1) - 1)).2)) 2 4) from (by first | assumption | omega | (unfold R32 at *; omega) | (unfold R64 at *; omega) | (simp only [R32, R64] at *; omega)))
  · show WV _ _ _ 63 _ _ _ _ _
    rw [if_pos h_60] at hQ
    refine r_ex 4 (pc' := 69) (lo' := [some (.inr (.inr (some 2))), some (.inr (.inr (some 20))), some (.inl g), some (.inl ((cl_number v 0 g).1)), some (.inl ((cl_number (cl_word18 ((cl_number v 0 g).2)) 0 (((cl_word18 ((cl_number v 0 g).2)) 3 1) - 1)).1)), some (.inl ((cl_number (cl_word19 ((cl_number (cl_word18 ((cl_number v 0 g).2)) 0 (((cl_word18 ((cl_number v 0 g).2)) 3 1) - 1)).2)) ((cl_number (cl_word18 ((cl_number v 0 g).2)) 0 (((cl_word18 ((cl_number v 0 g).2)) 3 1) - 1)).1) (((cl_word19 ((cl_number (cl_word18 ((cl_number v 0 g).2)) 0 (((cl_word18 ((cl_number v 0 g).2)) 3 1) - 1)).2)) 3 1) - 1)).1))]) (st' := [.inl ((cl_number (cl_word19 ((cl_number (cl_word18 ((cl_number v 0 g).2)) 0 (((cl_word18 ((cl_number v 0 g).2)) 3 1) - 1)).2)) ((cl_number (cl_word18 ((cl_number v 0 g).2)) 0 (((cl_word18 ((cl_number v 0 g).2)) 3 1) - 1)).1) (((cl_word19 ((cl_number (cl_word18 ((cl_number v 0 g).2)) 0 (((cl_word18 ((cl_number v 0 g).2)) 3 1) - 1)).2)) 3 1) - 1)).1), .inl ((cl_number (cl_word18 ((cl_number v 0 g).2)) 0 (((cl_word18 ((cl_number v 0 g).2)) 3 1) - 1)).1), .inl ((cl_number v 0 g).1), .inr (.inr (some 20))]) rfl ?_
    have hp_37 : 0 ≤ ((cl_number v 0 g).1) ∧ ((cl_number v 0 g).1) ≤ 11 := (by first | assumption | omega | (unfold R32 at *; omega) | (unfold R64 at *; omega) | (simp only [R32, R64] at *; omega))
    have hp_38 : 0 ≤ ((cl_number (cl_word18 ((cl_number v 0 g).2)) 0 (((cl_word18 ((cl_number v 0 g).2)) 3 1) - 1)).1) ∧ ((cl_number (cl_word18 ((cl_number v 0 g).2)) 0 (((cl_word18 ((cl_number v 0 g).2)) 3 1) - 1)).1) ≤ 299 := (by first | assumption | omega | (unfold R32 at *; omega) | (unfold R64 at *; omega) | (simp only [R32, R64] at *; omega))
    have hp_39 : 0 ≤ ((cl_number (cl_word19 ((cl_number (cl_word18 ((cl_number v 0 g).2)) 0 (((cl_word18 ((cl_number v 0 g).2)) 3 1) - 1)).2)) ((cl_number (cl_word18 ((cl_number v 0 g).2)) 0 (((cl_word18 ((cl_number v 0 g).2)) 3 1) - 1)).1) (((cl_word19 ((cl_number (cl_word18 ((cl_number v 0 g).2)) 0 (((cl_word18 ((cl_number v 0 g).2)) 3 1) - 1)).2)) 3 1) - 1)).1) ∧ ((cl_number (cl_word19 ((cl_number (cl_word18 ((cl_number v 0 g).2)) 0 (((cl_word18 ((cl_number v 0 g).2)) 3 1) - 1)).2)) ((cl_number (cl_word18 ((cl_number v 0 g).2)) 0 (((cl_word18 ((cl_number v 0 g).2)) 3 1) - 1)).1) (((cl_word19 ((cl_number (cl_word18 ((cl_number v 0 g).2)) 0 (((cl_word18 ((cl_number v 0 g).2)) 3 1) - 1)).2)) 3 1) - 1)).1) ≤ 299 := (by first | assumption | omega | (unfold R32 at *; omega) | (unfold R64 at *; omega) | (simp only [R32, R64] at *; omega))
    refine r_call (m := 49) (args := [.inr (.inr (some 20)), .inl ((cl_number v 0 g).1), .inl ((cl_number (cl_word18 ((cl_number v 0 g).2)) 0 (((cl_word18 ((cl_number v 0 g).2)) 3 1) - 1)).1), .inl ((cl_number (cl_word19 ((cl_number (cl_word18 ((cl_number v 0 g).2)) 0 (((cl_word18 ((cl_number v 0 g).2)) 3 1) - 1)).2)) ((cl_number (cl_word18 ((cl_number v 0 g).2)) 0 (((cl_word18 ((cl_number v 0 g).2)) 3 1) - 1)).1) (((cl_word19 ((cl_number (cl_word18 ((cl_number v 0 g).2)) 0 (((cl_word18 ((cl_number v 0 g).2)) 3 1) - 1)).2)) 3 1) - 1)).1)]) (n' := 50) (pc' := 72) (lo' := [some (.inr (.inr (some 2))), some (.inr (.inr (some 20))), some (.inl g), some (.inl ((cl_number v 0 g).1)), some (.inl ((cl_number (cl_word18 ((cl_number v 0 g).2)) 0 (((cl_word18 ((cl_number v 0 g).2)) 3 1) - 1)).1)), some (.inl ((cl_number (cl_word19 ((cl_number (cl_word18 ((cl_number v 0 g).2)) 0 (((cl_word18 ((cl_number v 0 g).2)) 3 1) - 1)).2)) ((cl_number (cl_word18 ((cl_number v 0 g).2)) 0 (((cl_word18 ((cl_number v 0 g).2)) 3 1) - 1)).1) (((cl_word19 ((cl_number (cl_word18 ((cl_number v 0 g).2)) 0 (((cl_word18 ((cl_number v 0 g).2)) 3 1) - 1)).2)) 3 1) - 1)).1))]) (st' := []) (I := .invokevirtual 49) (pc0 := 69) (len := 3) rfl rfl rfl (e_cl_spAdd20 hX_33 hp_37 hp_38 hp_39) ?_
    show WV _ _ _ 72 _ [] _ (cl_spAdd20 (cl_stop ((cl_number (cl_word19 ((cl_number (cl_word18 ((cl_number v 0 g).2)) 0 (((cl_word18 ((cl_number v 0 g).2)) 3 1) - 1)).2)) ((cl_number (cl_word18 ((cl_number v 0 g).2)) 0 (((cl_word18 ((cl_number v 0 g).2)) 3 1) - 1)).1) (((cl_word19 ((cl_number (cl_word18 ((cl_number v 0 g).2)) 0 (((cl_word18 ((cl_number v 0 g).2)) 3 1) - 1)).2)) 3 1) - 1)).2)) ((cl_number v 0 g).1) ((cl_number (cl_word18 ((cl_number v 0 g).2)) 0 (((cl_word18 ((cl_number v 0 g).2)) 3 1) - 1)).1) ((cl_number (cl_word19 ((cl_number (cl_word18 ((cl_number v 0 g).2)) 0 (((cl_word18 ((cl_number v 0 g).2)) 3 1) - 1)).2)) ((cl_number (cl_word18 ((cl_number v 0 g).2)) 0 (((cl_word18 ((cl_number v 0 g).2)) 3 1) - 1)).1) (((cl_word19 ((cl_number (cl_word18 ((cl_number v 0 g).2)) 0 (((cl_word18 ((cl_number v 0 g).2)) 3 1) - 1)).2)) 3 1) - 1)).1)) _
    have hX_40 : XI (cl_spAdd20 (cl_stop ((cl_number (cl_word19 ((cl_number (cl_word18 ((cl_number v 0 g).2)) 0 (((cl_word18 ((cl_number v 0 g).2)) 3 1) - 1)).2)) ((cl_number (cl_word18 ((cl_number v 0 g).2)) 0 (((cl_word18 ((cl_number v 0 g).2)) 3 1) - 1)).1) (((cl_word19 ((cl_number (cl_word18 ((cl_number v 0 g).2)) 0 (((cl_word18 ((cl_number v 0 g).2)) 3 1) - 1)).2)) 3 1) - 1)).2)) ((cl_number v 0 g).1) ((cl_number (cl_word18 ((cl_number v 0 g).2)) 0 (((cl_word18 ((cl_number v 0 g).2)) 3 1) - 1)).1) ((cl_number (cl_word19 ((cl_number (cl_word18 ((cl_number v 0 g).2)) 0 (((cl_word18 ((cl_number v 0 g).2)) 3 1) - 1)).2)) ((cl_number (cl_word18 ((cl_number v 0 g).2)) 0 (((cl_word18 ((cl_number v 0 g).2)) 3 1) - 1)).1) (((cl_word19 ((cl_number (cl_word18 ((cl_number v 0 g).2)) 0 (((cl_word18 ((cl_number v 0 g).2)) 3 1) - 1)).2)) 3 1) - 1)).1)) := i_cl_spAdd20 (v := (cl_stop ((cl_number (cl_word19 ((cl_number (cl_word18 ((cl_number v 0 g).2)) 0 (((cl_word18 ((cl_number v 0 g).2)) 3 1) - 1)).2)) ((cl_number (cl_word18 ((cl_number v 0 g).2)) 0 (((cl_word18 ((cl_number v 0 g).2)) 3 1) - 1)).1) (((cl_word19 ((cl_number (cl_word18 ((cl_number v 0 g).2)) 0 (((cl_word18 ((cl_number v 0 g).2)) 3 1) - 1)).2)) 3 1) - 1)).2))) (c := (cl_number v 0 g).1) (s := (cl_number (cl_word18 ((cl_number v 0 g).2)) 0 (((cl_word18 ((cl_number v 0 g).2)) 3 1) - 1)).1) (n := (cl_number (cl_word19 ((cl_number (cl_word18 ((cl_number v 0 g).2)) 0 (((cl_word18 ((cl_number v 0 g).2)) 3 1) - 1)).2)) ((cl_number (cl_word18 ((cl_number v 0 g).2)) 0 (((cl_word18 ((cl_number v 0 g).2)) 3 1) - 1)).1) (((cl_word19 ((cl_number (cl_word18 ((cl_number v 0 g).2)) 0 (((cl_word18 ((cl_number v 0 g).2)) 3 1) - 1)).2)) 3 1) - 1)).1) hX_33 hp_37 hp_38 hp_39
    have hb_41 : (cl_spAdd20 (cl_stop ((cl_number (cl_word19 ((cl_number (cl_word18 ((cl_number v 0 g).2)) 0 (((cl_word18 ((cl_number v 0 g).2)) 3 1) - 1)).2)) ((cl_number (cl_word18 ((cl_number v 0 g).2)) 0 (((cl_word18 ((cl_number v 0 g).2)) 3 1) - 1)).1) (((cl_word19 ((cl_number (cl_word18 ((cl_number v 0 g).2)) 0 (((cl_word18 ((cl_number v 0 g).2)) 3 1) - 1)).2)) 3 1) - 1)).2)) ((cl_number v 0 g).1) ((cl_number (cl_word18 ((cl_number v 0 g).2)) 0 (((cl_word18 ((cl_number v 0 g).2)) 3 1) - 1)).1) ((cl_number (cl_word19 ((cl_number (cl_word18 ((cl_number v 0 g).2)) 0 (((cl_word18 ((cl_number v 0 g).2)) 3 1) - 1)).2)) ((cl_number (cl_word18 ((cl_number v 0 g).2)) 0 (((cl_word18 ((cl_number v 0 g).2)) 3 1) - 1)).1) (((cl_word19 ((cl_number (cl_word18 ((cl_number v 0 g).2)) 0 (((cl_word18 ((cl_number v 0 g).2)) 3 1) - 1)).2)) 3 1) - 1)).1)) 2 7 = ((cl_stop ((cl_number (cl_word19 ((cl_number (cl_word18 ((cl_number v 0 g).2)) 0 (((cl_word18 ((cl_number v 0 g).2)) 3 1) - 1)).2)) ((cl_number (cl_word18 ((cl_number v 0 g).2)) 0 (((cl_word18 ((cl_number v 0 g).2)) 3 1) - 1)).1) (((cl_word19 ((cl_number (cl_word18 ((cl_number v 0 g).2)) 0 (((cl_word18 ((cl_number v 0 g).2)) 3 1) - 1)).2)) 3 1) - 1)).2)) 2 7) := by rw [o_cl_spAdd20 (by omega)] <;> rfl
    have hb_42 : (cl_spAdd20 (cl_stop ((cl_number (cl_word19 ((cl_number (cl_word18 ((cl_number v 0 g).2)) 0 (((cl_word18 ((cl_number v 0 g).2)) 3 1) - 1)).2)) ((cl_number (cl_word18 ((cl_number v 0 g).2)) 0 (((cl_word18 ((cl_number v 0 g).2)) 3 1) - 1)).1) (((cl_word19 ((cl_number (cl_word18 ((cl_number v 0 g).2)) 0 (((cl_word18 ((cl_number v 0 g).2)) 3 1) - 1)).2)) 3 1) - 1)).2)) ((cl_number v 0 g).1) ((cl_number (cl_word18 ((cl_number v 0 g).2)) 0 (((cl_word18 ((cl_number v 0 g).2)) 3 1) - 1)).1) ((cl_number (cl_word19 ((cl_number (cl_word18 ((cl_number v 0 g).2)) 0 (((cl_word18 ((cl_number v 0 g).2)) 3 1) - 1)).2)) ((cl_number (cl_word18 ((cl_number v 0 g).2)) 0 (((cl_word18 ((cl_number v 0 g).2)) 3 1) - 1)).1) (((cl_word19 ((cl_number (cl_word18 ((cl_number v 0 g).2)) 0 (((cl_word18 ((cl_number v 0 g).2)) 3 1) - 1)).2)) 3 1) - 1)).1)) 2 4 = ((cl_stop ((cl_number (cl_word19 ((cl_number (cl_word18 ((cl_number v 0 g).2)) 0 (((cl_word18 ((cl_number v 0 g).2)) 3 1) - 1)).2)) ((cl_number (cl_word18 ((cl_number v 0 g).2)) 0 (((cl_word18 ((cl_number v 0 g).2)) 3 1) - 1)).1) (((cl_word19 ((cl_number (cl_word18 ((cl_number v 0 g).2)) 0 (((cl_word18 ((cl_number v 0 g).2)) 3 1) - 1)).2)) 3 1) - 1)).2)) 2 4) := by rw [o_cl_spAdd20 (by omega)] <;> rfl
    have hb_43 : (cl_spAdd20 (cl_stop ((cl_number (cl_word19 ((cl_number (cl_word18 ((cl_number v 0 g).2)) 0 (((cl_word18 ((cl_number v 0 g).2)) 3 1) - 1)).2)) ((cl_number (cl_word18 ((cl_number v 0 g).2)) 0 (((cl_word18 ((cl_number v 0 g).2)) 3 1) - 1)).1) (((cl_word19 ((cl_number (cl_word18 ((cl_number v 0 g).2)) 0 (((cl_word18 ((cl_number v 0 g).2)) 3 1) - 1)).2)) 3 1) - 1)).2)) ((cl_number v 0 g).1) ((cl_number (cl_word18 ((cl_number v 0 g).2)) 0 (((cl_word18 ((cl_number v 0 g).2)) 3 1) - 1)).1) ((cl_number (cl_word19 ((cl_number (cl_word18 ((cl_number v 0 g).2)) 0 (((cl_word18 ((cl_number v 0 g).2)) 3 1) - 1)).2)) ((cl_number (cl_word18 ((cl_number v 0 g).2)) 0 (((cl_word18 ((cl_number v 0 g).2)) 3 1) - 1)).1) (((cl_word19 ((cl_number (cl_word18 ((cl_number v 0 g).2)) 0 (((cl_word18 ((cl_number v 0 g).2)) 3 1) - 1)).2)) 3 1) - 1)).1)) 3 2 = ((cl_stop ((cl_number (cl_word19 ((cl_number (cl_word18 ((cl_number v 0 g).2)) 0 (((cl_word18 ((cl_number v 0 g).2)) 3 1) - 1)).2)) ((cl_number (cl_word18 ((cl_number v 0 g).2)) 0 (((cl_word18 ((cl_number v 0 g).2)) 3 1) - 1)).1) (((cl_word19 ((cl_number (cl_word18 ((cl_number v 0 g).2)) 0 (((cl_word18 ((cl_number v 0 g).2)) 3 1) - 1)).2)) 3 1) - 1)).2)) 3 2) := by rw [o_cl_spAdd20 (by omega)] <;> rfl
    refine r_ret (rr := none) (I := .return_) (pc0 := 72) (len := 1) rfl rfl ?_
    exact hQ hX_40 (show ((cl_spAdd20 (cl_stop ((cl_number (cl_word19 ((cl_number (cl_word18 ((cl_number v 0 g).2)) 0 (((cl_word18 ((cl_number v 0 g).2)) 3 1) - 1)).2)) ((cl_number (cl_word18 ((cl_number v 0 g).2)) 0 (((cl_word18 ((cl_number v 0 g).2)) 3 1) - 1)).1) (((cl_word19 ((cl_number (cl_word18 ((cl_number v 0 g).2)) 0 (((cl_word18 ((cl_number v 0 g).2)) 3 1) - 1)).2)) 3 1) - 1)).2)) ((cl_number v 0 g).1) ((cl_number (cl_word18 ((cl_number v 0 g).2)) 0 (((cl_word18 ((cl_number v 0 g).2)) 3 1) - 1)).1) ((cl_number (cl_word19 ((cl_number (cl_word18 ((cl_number v 0 g).2)) 0 (((cl_word18 ((cl_number v 0 g).2)) 3 1) - 1)).2)) ((cl_number (cl_word18 ((cl_number v 0 g).2)) 0 (((cl_word18 ((cl_number v 0 g).2)) 3 1) - 1)).1) (((cl_word19 ((cl_number (cl_word18 ((cl_number v 0 g).2)) 0 (((cl_word18 ((cl_number v 0 g).2)) 3 1) - 1)).2)) 3 1) - 1)).1)) 2 7) ≤ ((cl_spAdd20 (cl_stop ((cl_number (cl_word19 ((cl_number (cl_word18 ((cl_number v 0 g).2)) 0 (((cl_word18 ((cl_number v 0 g).2)) 3 1) - 1)).2)) ((cl_number (cl_word18 ((cl_number v 0 g).2)) 0 (((cl_word18 ((cl_number v 0 g).2)) 3 1) - 1)).1) (((cl_word19 ((cl_number (cl_word18 ((cl_number v 0 g).2)) 0 (((cl_word18 ((cl_number v 0 g).2)) 3 1) - 1)).2)) 3 1) - 1)).2)) ((cl_number v 0 g).1) ((cl_number (cl_word18 ((cl_number v 0 g).2)) 0 (((cl_word18 ((cl_number v 0 g).2)) 3 1) - 1)).1) ((cl_number (cl_word19 ((cl_number (cl_word18 ((cl_number v 0 g).2)) 0 (((cl_word18 ((cl_number v 0 g).2)) 3 1) - 1)).2)) ((cl_number (cl_word18 ((cl_number v 0 g).2)) 0 (((cl_word18 ((cl_number v 0 g).2)) 3 1) - 1)).1) (((cl_word19 ((cl_number (cl_word18 ((cl_number v 0 g).2)) 0 (((cl_word18 ((cl_number v 0 g).2)) 3 1) - 1)).2)) 3 1) - 1)).1)) 2 4) from (by first | assumption | omega | (unfold R32 at *; omega) | (unfold R64 at *; omega) | (simp only [R32, R64] at *; omega)))

theorem e_cl_readSpell20 {X : PX} {d : Nat} {v : VS} {g : Int} (hX : XI v) (hp_a : -1 ≤ g ∧ g ≤ 11) (hp_b : (v 2 7) ≤ (v 2 4)) : EvV X (d + 1 + 1 + 1 + 1 + 1 + 1) 50 [.inr (.inr (some 2)), .inr (.inr (some 20)), .inl g] 1 v none 1 (cl_readSpell20 v g) := EvV.of (w_cl_readSpell20 hX hp_a hp_b (fun _ _ => ⟨rfl, rfl, rfl⟩))

theorem i_cl_readSpell20 {v : VS} {g : Int} (hX : XI v) (hp_a : -1 ≤ g ∧ g ≤ 11) (hp_b : (v 2 7) ≤ (v 2 4)) : XI (cl_readSpell20 v g) := by
  have q : WV (0, fun _ => 0, none) (0 + 1 + 1 + 1 + 1 + 1 + 1) 50 0 [some (.inr (.inr (some 2))), some (.inr (.inr (some 20))), some (.inl g), none, none, none] [] 1 v (fun _ _ _ => XI (cl_readSpell20 v g)) := w_cl_readSpell20 (X := (0, fun _ => 0, none)) (d := 0) hX hp_a hp_b (fun q _ => q)
  obtain ⟨_, _, _, _, _, _, _, q⟩ := q
  exact q

theorem n_cl_readSpell20 {v : VS} {g : Int} (hX : XI v) (hp_a : -1 ≤ g ∧ g ≤ 11) (hp_b : (v 2 7) ≤ (v 2 4)) : ((cl_readSpell20 v g) 2 7) ≤ ((cl_readSpell20 v g) 2 4) := by
  have q : WV (0, fun _ => 0, none) (0 + 1 + 1 + 1 + 1 + 1 + 1) 50 0 [some (.inr (.inr (some 2))), some (.inr (.inr (some 20))), some (.inl g), none, none, none] [] 1 v (fun _ _ _ => ((cl_readSpell20 v g) 2 7) ≤ ((cl_readSpell20 v g) 2 4)) := w_cl_readSpell20 (X := (0, fun _ => 0, none)) (d := 0) hX hp_a hp_b (fun _ q => q)
  obtain ⟨_, _, _, _, _, _, _, q⟩ := q
  exact q

theorem o_cl_readSpell20 {rk : Nat} {v : VS} {g : Int} (hk : (rk < 2 ∨ 2 < rk) ∧ (rk < 20 ∨ 23 < rk)) : (cl_readSpell20 v g) rk = v rk := by
  unfold cl_readSpell20
  by_cases hc_ : ((cl_stop ((cl_number (cl_word19 ((cl_number (cl_word18 ((cl_number v 0 g).2)) 0 (((cl_word18 ((cl_number v 0 g).2)) 3 1) - 1)).2)) ((cl_number (cl_word18 ((cl_number v 0 g).2)) 0 (((cl_word18 ((cl_number v 0 g).2)) 3 1) - 1)).1) (((cl_word19 ((cl_number (cl_word18 ((cl_number v 0 g).2)) 0 (((cl_word18 ((cl_number v 0 g).2)) 3 1) - 1)).2)) 3 1) - 1)).2)) 2 1) = 0
  · rw [if_pos hc_]
    all_goals (show (cl_spAdd20 (cl_stop ((cl_number (cl_word19 ((cl_number (cl_word18 ((cl_number v 0 g).2)) 0 (((cl_word18 ((cl_number v 0 g).2)) 3 1) - 1)).2)) ((cl_number (cl_word18 ((cl_number v 0 g).2)) 0 (((cl_word18 ((cl_number v 0 g).2)) 3 1) - 1)).1) (((cl_word19 ((cl_number (cl_word18 ((cl_number v 0 g).2)) 0 (((cl_word18 ((cl_number v 0 g).2)) 3 1) - 1)).2)) 3 1) - 1)).2)) ((cl_number v 0 g).1) ((cl_number (cl_word18 ((cl_number v 0 g).2)) 0 (((cl_word18 ((cl_number v 0 g).2)) 3 1) - 1)).1) ((cl_number (cl_word19 ((cl_number (cl_word18 ((cl_number v 0 g).2)) 0 (((cl_word18 ((cl_number v 0 g).2)) 3 1) - 1)).2)) ((cl_number (cl_word18 ((cl_number v 0 g).2)) 0 (((cl_word18 ((cl_number v 0 g).2)) 3 1) - 1)).1) (((cl_word19 ((cl_number (cl_word18 ((cl_number v 0 g).2)) 0 (((cl_word18 ((cl_number v 0 g).2)) 3 1) - 1)).2)) 3 1) - 1)).1)) rk = _)
    all_goals (rw [o_cl_spAdd20 (by omega), o_cl_stop (by omega), o_cl_number (by omega), o_cl_word19 (by omega), o_cl_number (by omega), o_cl_word18 (by omega), o_cl_number (by omega)])
  · rw [if_neg hc_]
    all_goals (show (cl_stop ((cl_number (cl_word19 ((cl_number (cl_word18 ((cl_number v 0 g).2)) 0 (((cl_word18 ((cl_number v 0 g).2)) 3 1) - 1)).2)) ((cl_number (cl_word18 ((cl_number v 0 g).2)) 0 (((cl_word18 ((cl_number v 0 g).2)) 3 1) - 1)).1) (((cl_word19 ((cl_number (cl_word18 ((cl_number v 0 g).2)) 0 (((cl_word18 ((cl_number v 0 g).2)) 3 1) - 1)).2)) 3 1) - 1)).2)) rk = _)
    all_goals (rw [o_cl_stop (by omega), o_cl_number (by omega), o_cl_word19 (by omega), o_cl_number (by omega), o_cl_word18 (by omega), o_cl_number (by omega)])

def cl_readSpell24 (v : VS) (g : Int) : VS :=
  (if ((cl_stop ((cl_number (cl_word19 ((cl_number (cl_word18 ((cl_number v 0 g).2)) 0 (((cl_word18 ((cl_number v 0 g).2)) 3 1) - 1)).2)) ((cl_number (cl_word18 ((cl_number v 0 g).2)) 0 (((cl_word18 ((cl_number v 0 g).2)) 3 1) - 1)).1) (((cl_word19 ((cl_number (cl_word18 ((cl_number v 0 g).2)) 0 (((cl_word18 ((cl_number v 0 g).2)) 3 1) - 1)).2)) 3 1) - 1)).2)) 2 1) = 0 then (cl_spAdd24 (cl_stop ((cl_number (cl_word19 ((cl_number (cl_word18 ((cl_number v 0 g).2)) 0 (((cl_word18 ((cl_number v 0 g).2)) 3 1) - 1)).2)) ((cl_number (cl_word18 ((cl_number v 0 g).2)) 0 (((cl_word18 ((cl_number v 0 g).2)) 3 1) - 1)).1) (((cl_word19 ((cl_number (cl_word18 ((cl_number v 0 g).2)) 0 (((cl_word18 ((cl_number v 0 g).2)) 3 1) - 1)).2)) 3 1) - 1)).2)) ((cl_number v 0 g).1) ((cl_number (cl_word18 ((cl_number v 0 g).2)) 0 (((cl_word18 ((cl_number v 0 g).2)) 3 1) - 1)).1) ((cl_number (cl_word19 ((cl_number (cl_word18 ((cl_number v 0 g).2)) 0 (((cl_word18 ((cl_number v 0 g).2)) 3 1) - 1)).2)) ((cl_number (cl_word18 ((cl_number v 0 g).2)) 0 (((cl_word18 ((cl_number v 0 g).2)) 3 1) - 1)).1) (((cl_word19 ((cl_number (cl_word18 ((cl_number v 0 g).2)) 0 (((cl_word18 ((cl_number v 0 g).2)) 3 1) - 1)).2)) 3 1) - 1)).1)) else (cl_stop ((cl_number (cl_word19 ((cl_number (cl_word18 ((cl_number v 0 g).2)) 0 (((cl_word18 ((cl_number v 0 g).2)) 3 1) - 1)).2)) ((cl_number (cl_word18 ((cl_number v 0 g).2)) 0 (((cl_word18 ((cl_number v 0 g).2)) 3 1) - 1)).1) (((cl_word19 ((cl_number (cl_word18 ((cl_number v 0 g).2)) 0 (((cl_word18 ((cl_number v 0 g).2)) 3 1) - 1)).2)) 3 1) - 1)).2)))
theorem w_cl_readSpell24 {X : PX} {d : Nat} {v : VS} {g : Int} (hX : XI v) (hp_a : -1 ≤ g ∧ g ≤ 8) (hp_b : (v 2 7) ≤ (v 2 4)) {Q : Option PV → Nat → VS → Prop} (hQ : XI (cl_readSpell24 v g) → (((cl_readSpell24 v g) 2 7) ≤ ((cl_readSpell24 v g) 2 4)) → Q none 1 (cl_readSpell24 v g)) : WV X (d + 1 + 1 + 1 + 1 + 1 + 1) 50 0 [some (.inr (.inr (some 2))), some (.inr (.inr (some 24))), some (.inl g), none, none, none] [] 1 v Q := by
  rw [cl_readSpell24] at hQ
  refine r_ex 3 (pc' := 3) (lo' := [some (.inr (.inr (some 2))), some (.inr (.inr (some 24))), some (.inl g), none, none, none]) (st' := [.inl g, .inl 0, .inr (.inr (some 2))]) rfl ?_
  have hp_1 : 0 ≤ (0 : Int) ∧ (0 : Int) ≤ 300 := (by first | assumption | omega | (unfold R32 at *; omega) | (unfold R64 at *; omega) | (simp only [R32, R64] at *; omega))
  have hp_2 : -1 ≤ g ∧ g ≤ 300 := (by first | assumption | omega | (unfold R32 at *; omega) | (unfold R64 at *; omega) | (simp only [R32, R64] at *; omega))
  have hp_3 : (v 2 7) ≤ (v 2 4) := (show (v 2 7) ≤ (v 2 4) from (by first | assumption | omega | (unfold R32 at *; omega) | (unfold R64 at *; omega) | (simp only [R32, R64] at *; omega)))
  refine r_call (m := 40) (args := [.inr (.inr (some 2)), .inl 0, .inl g]) (n' := 50) (pc' := 6) (lo' := [some (.inr (.inr (some 2))), some (.inr (.inr (some 24))), some (.inl g), none, none, none]) (st' := []) (I := .invokevirtual 40) (pc0 := 3) (len := 3) rfl rfl rfl (e_cl_number hX hp_1 hp_2 hp_3) ?_
  show WV _ _ _ 6 _ [.inl ((cl_number v 0 g).1)] _ (cl_number v 0 g).2 _
  have hX_4 : XI (cl_number v 0 g).2 := i_cl_number (v := v) (l := 0) (g := g) hX hp_1 hp_2 hp_3
  have hb_5 : ((cl_number v 0 g).2) 3 2 = (v 3 2) := by rw [o_cl_number (by omega)] <;> rfl
  have hb_6 := n0_cl_number (v := v) (l := 0) (g := g) hX hp_1 hp_2 hp_3
  have hb_7 : ((cl_number v 0 g).2 2 7) ≤ ((cl_number v 0 g).2 2 4) := n1_cl_number (v := v) (l := 0) (g := g) hX hp_1 hp_2 hp_3
  refine r_ex 3 (pc' := 10) (lo' := [some (.inr (.inr (some 2))), some (.inr (.inr (some 24))), some (.inl g), some (.inl ((cl_number v 0 g).1)), none, none]) (st' := [.inr (.inr (some 100037)), .inr (.inr (some 2))]) rfl ?_
  have hp_8 : (((cl_number v 0 g).2) 2 7) ≤ (((cl_number v 0 g).2) 2 4) := (show ((cl_number v 0 g).2 2 7) ≤ ((cl_number v 0 g).2 2 4) from (by first | assumption | omega | (unfold R32 at *; omega) | (unfold R64 at *; omega) | (simp only [R32, R64] at *; omega)))
  refine r_call (m := 26) (args := [.inr (.inr (some 2)), .inr (.inr (some 100037))]) (n' := 50) (pc' := 13) (lo' := [some (.inr (.inr (some 2))), some (.inr (.inr (some 24))), some (.inl g), some (.inl ((cl_number v 0 g).1)), none, none]) (st' := []) (I := .invokevirtual 26) (pc0 := 10) (len := 3) rfl rfl rfl (e_cl_word18 hX_4 hp_8) ?_
  show WV _ _ _ 13 _ [] _ (cl_word18 ((cl_number v 0 g).2)) _
  have hX_9 : XI (cl_word18 ((cl_number v 0 g).2)) := i_cl_word18 (v := (cl_number v 0 g).2) hX_4 hp_8
  have hb_10 : (cl_word18 ((cl_number v 0 g).2)) 3 2 = ((cl_number v 0 g).2 3 2) := by rw [o_cl_word18 (by omega)] <;> rfl
  have hb_11 : ((cl_word18 ((cl_number v 0 g).2)) 2 7) ≤ ((cl_word18 ((cl_number v 0 g).2)) 2 4) := n_cl_word18 (v := (cl_number v 0 g).2) hX_4 hp_8
  refine r_ex 7 (pc' := 24) (lo' := [some (.inr (.inr (some 2))), some (.inr (.inr (some 24))), some (.inl g), some (.inl ((cl_number v 0 g).1)), none, none]) (st' := [.inl (((cl_word18 ((cl_number v 0 g).2)) 3 1) - 1), .inl 0, .inr (.inr (some 2))]) rfl ?_
  have hb_12 : 0 ≤ ((cl_word18 ((cl_number v 0 g).2)) 3 1) ∧ ((cl_word18 ((cl_number v 0 g).2)) 3 1) ≤ 300 := hX_9 3 1
  have hp_13 : 0 ≤ (0 : Int) ∧ (0 : Int) ≤ 300 := (by first | assumption | omega | (unfold R32 at *; omega) | (unfold R64 at *; omega) | (simp only [R32, R64] at *; omega))
  have hp_14 : -1 ≤ (((cl_word18 ((cl_number v 0 g).2)) 3 1) - 1) ∧ (((cl_word18 ((cl_number v 0 g).2)) 3 1) - 1) ≤ 300 := (by first | assumption | omega | (unfold R32 at *; omega) | (unfold R64 at *; omega) | (simp only [R32, R64] at *; omega))
  have hp_15 : ((cl_word18 ((cl_number v 0 g).2)) 2 7) ≤ ((cl_word18 ((cl_number v 0 g).2)) 2 4) := (show ((cl_word18 ((cl_number v 0 g).2)) 2 7) ≤ ((cl_word18 ((cl_number v 0 g).2)) 2 4) from (by first | assumption | omega | (unfold R32 at *; omega) | (unfold R64 at *; omega) | (simp only [R32, R64] at *; omega)))
  refine r_call (m := 40) (args := [.inr (.inr (some 2)), .inl 0, .inl (((cl_word18 ((cl_number v 0 g).2)) 3 1) - 1)]) (n' := 50) (pc' := 27) (lo' := [some (.inr (.inr (some 2))), some (.inr (.inr (some 24))), some (.inl g), some (.inl ((cl_number v 0 g).1)), none, none]) (st' := []) (I := .invokevirtual 40) (pc0 := 24) (len := 3) rfl rfl rfl (e_cl_number hX_9 hp_13 hp_14 hp_15) ?_
  show WV _ _ _ 27 _ [.inl ((cl_number (cl_word18 ((cl_number v 0 g).2)) 0 (((cl_word18 ((cl_number v 0 g).2)) 3 1) - 1)).1)] _ (cl_number (cl_word18 ((cl_number v 0 g).2)) 0 (((cl_word18 ((cl_number v 0 g).2)) 3 1) - 1)).2 _
  have hX_16 : XI (cl_number (cl_word18 ((cl_number v 0 g).2)) 0 (((cl_word18 ((cl_number v 0 g).2)) 3 1) - 1)).2 := i_cl_number (v := (cl_word18 ((cl_number v 0 g).2))) (l := 0) (g := (((cl_word18 ((cl_number v 0 g).2)) 3 1) - 1)) hX_9 hp_13 hp_14 hp_15
  have hb_17 : ((cl_number (cl_word18 ((cl_number v 0 g).2)) 0 (((cl_word18 ((cl_number v 0 g).2)) 3 1) - 1)).2) 3 2 = ((cl_word18 ((cl_number v 0 g).2)) 3 2) := by rw [o_cl_number (by omega)] <;> rfl
  have hb_18 := n0_cl_number (v := (cl_word18 ((cl_number v 0 g).2))) (l := 0) (g := (((cl_word18 ((cl_number v 0 g).2)) 3 1) - 1)) hX_9 hp_13 hp_14 hp_15
  have hb_19 : ((cl_number (cl_word18 ((cl_number v 0 g).2)) 0 (((cl_word18 ((cl_number v 0 g).2)) 3 1) - 1)).2 2 7) ≤ ((cl_number (cl_word18 ((cl_number v 0 g).2)) 0 (((cl_word18 ((cl_number v 0 g).2)) 3 1) - 1)).2 2 4) := n1_cl_number (v := (cl_word18 ((cl_number v 0 g).2))) (l := 0) (g := (((cl_word18 ((cl_number v 0 g).2)) 3 1) - 1)) hX_9 hp_13 hp_14 hp_15
  refine r_ex 3 (pc' := 32) (lo' := [some (.inr (.inr (some 2))), some (.inr (.inr (some 24))), some (.inl g), some (.inl ((cl_number v 0 g).1)), some (.inl ((cl_number (cl_word18 ((cl_number v 0 g).2)) 0 (((cl_word18 ((cl_number v 0 g).2)) 3 1) - 1)).1)), none]) (st' := [.inr (.inr (some 100039)), .inr (.inr (some 2))]) rfl ?_
  have hp_20 : (((cl_number (cl_word18 ((cl_number v 0 g).2)) 0 (((cl_word18 ((cl_number v 0 g).2)) 3 1) - 1)).2) 2 7) ≤ (((cl_number (cl_word18 ((cl_number v 0 g).2)) 0 (((cl_word18 ((cl_number v 0 g).2)) 3 1) - 1)).2) 2 4) := (show ((cl_number (cl_word18 ((cl_number v 0 g).2)) 0 (((cl_word18 ((cl_number v 0 g).2)) 3 1) - 1)).2 2 7) ≤ ((cl_number (cl_word18 ((cl_number v 0 g).2)) 0 (((cl_word18 ((cl_number v 0 g).2)) 3 1) - 1)).2 2 4) from (by first | assumption | omega | (unfold R32 at *; omega) | (unfold R64 at *; omega) | (simp only [R32, R64] at *; omega)))
  refine r_call (m := 26) (args := [.inr (.inr (some 2)), .inr (.inr (some 100039))]) (n' := 50) (pc' := 35) (lo' := [some (.inr (.inr (some 2))), some (.inr (.inr (some 24))), some (.inl g), some (.inl ((cl_number v 0 g).1)), some (.inl ((cl_number (cl_word18 ((cl_number v 0 g).2)) 0 (((cl_word18 ((cl_number v 0 g).2)) 3 1) - 1)).1)), none]) (st' := []) (I := .invokevirtual 26) (pc0 := 32) (len := 3) rfl rfl rfl (e_cl_word19 hX_16 hp_20) ?_
  show WV _ _ _ 35 _ [] _ (cl_word19 ((cl_number (cl_word18 ((cl_number v 0 g).2)) 0 (((cl_word18 ((cl_number v 0 g).2)) 3 1) - 1)).2)) _
  have hX_21 : XI (cl_word19 ((cl_number (cl_word18 ((cl_number v 0 g).2)) 0 (((cl_word18 ((cl_number v 0 g).2)) 3 1) - 1)).2)) := i_cl_word19 (v := (cl_number (cl_word18 ((cl_number v 0 g).2)) 0 (((cl_word18 ((cl_number v 0 g).2)) 3 1) - 1)).2) hX_16 hp_20
  have hb_22 : (cl_word19 ((cl_number (cl_word18 ((cl_number v 0 g).2)) 0 (((cl_word18 ((cl_number v 0 g).2)) 3 1) - 1)).2)) 3 2 = ((cl_number (cl_word18 ((cl_number v 0 g).2)) 0 (((cl_word18 ((cl_number v 0 g).2)) 3 1) - 1)).2 3 2) := by rw [o_cl_word19 (by omega)] <;> rfl
  have hb_23 : ((cl_word19 ((cl_number (cl_word18 ((cl_number v 0 g).2)) 0 (((cl_word18 ((cl_number v 0 g).2)) 3 1) - 1)).2)) 2 7) ≤ ((cl_word19 ((cl_number (cl_word18 ((cl_number v 0 g).2)) 0 (((cl_word18 ((cl_number v 0 g).2)) 3 1) - 1)).2)) 2 4) := n_cl_word19 (v := (cl_number (cl_word18 ((cl_number v 0 g).2)) 0 (((cl_word18 ((cl_number v 0 g).2)) 3 1) - 1)).2) hX_16 hp_20
  refine r_ex 7 (pc' := 47) (lo' := [some (.inr (.inr (some 2))), some (.inr (.inr (some 24))), some (.inl g), some (.inl ((cl_number v 0 g).1)), some (.inl ((cl_number (cl_word18 ((cl_number v 0 g).2)) 0 (((cl_word18 ((cl_number v 0 g).2)) 3 1) - 1)).1)), none]) (st' := [.inl (((cl_word19 ((cl_number (cl_word18 ((cl_number v 0 g).2)) 0 (((cl_word18 ((cl_number v 0 g).2)) 3 1) - 1)).2)) 3 1) - 1), .inl ((cl_number (cl_word18 ((cl_number v 0 g).2)) 0 (((cl_word18 ((cl_number v 0 g).2)) 3 1) - 1)).1), .inr (.inr (some 2))]) rfl ?_
  have hb_24 : 0 ≤ ((cl_word19 ((cl_number (cl_word18 ((cl_number v 0 g).2)) 0 (((cl_word18 ((cl_number v 0 g).2)) 3 1) - 1)).2)) 3 1) ∧ ((cl_word19 ((cl_number (cl_word18 ((cl_number v 0 g).2)) 0 (((cl_word18 ((cl_number v 0 g).2)) 3 1) - 1)).2)) 3 1) ≤ 300 := hX_21 3 1
  have hp_25 : 0 ≤ ((cl_number (cl_word18 ((cl_number v 0 g).2)) 0 (((cl_word18 ((cl_number v 0 g).2)) 3 1) - 1)).1) ∧ ((cl_number (cl_word18 ((cl_number v 0 g).2)) 0 (((cl_word18 ((cl_number v 0 g).2)) 3 1) - 1)).1) ≤ 300 := (by first | assumption | omega | (unfold R32 at *; omega) | (unfold R64 at *; omega) | (simp only [R32, R64] at *; omega))
  have hp_26 : -1 ≤ (((cl_word19 ((cl_number (cl_word18 ((cl_number v 0 g).2)) 0 (((cl_word18 ((cl_number v 0 g).2)) 3 1) - 1)).2)) 3 1) - 1) ∧ (((cl_word19 ((cl_number (cl_word18 ((cl_number v 0 g).2)) 0 (((cl_word18 ((cl_number v 0 g).2)) 3 1) - 1)).2)) 3 1) - 1) ≤ 300 := (by first | assumption | omega | (unfold R32 at *; omega) | (unfold R64 at *; omega) | (simp only [R32, R64] at *; omega))
  have hp_27 : ((cl_word19 ((cl_number (cl_word18 ((cl_number v 0 g).2)) 0 (((cl_word18 ((cl_number v 0 g).2)) 3 1) - 1)).2)) 2 7) ≤ ((cl_word19 ((cl_number (cl_word18 ((cl_number v 0 g).2)) 0 (((cl_word18 ((cl_number v 0 g).2)) 3 1) - 1)).2)) 2 4) := (show ((cl_word19 ((cl_number (cl_word18 ((cl_number v 0 g).2)) 0 (((cl_word18 ((cl_number v 0 g).2)) 3 1) - 1)).2)) 2 7) ≤ ((cl_word19 ((cl_number (cl_word18 ((cl_number v 0 g).2)) 0 (((cl_word18 ((cl_number v 0 g).2)) 3 1) - 1)).2)) 2 4) from (by first | assumption | omega | (unfold R32 at *; omega) | (unfold R64 at *; omega) | (simp only [R32, R64] at *; omega)))
  refine r_call (m := 40) (args := [.inr (.inr (some 2)), .inl ((cl_number (cl_word18 ((cl_number v 0 g).2)) 0 (((cl_word18 ((cl_number v 0 g).2)) 3 1) - 1)).1), .inl (((cl_word19 ((cl_number (cl_word18 ((cl_number v 0 g).2)) 0 (((cl_word18 ((cl_number v 0 g).2)) 3 1) - 1)).2)) 3 1) - 1)]) (n' := 50) (pc' := 50) (lo' := [some (.inr (.inr (some 2))), some (.inr (.inr (some 24))), some (.inl g), some (.inl ((cl_number v 0 g).1)), some (.inl ((cl_number (cl_word18 ((cl_number v 0 g).2)) 0 (((cl_word18 ((cl_number v 0 g).2)) 3 1) - 1)).1)), none]) (st' := []) (I := .invokevirtual 40) (pc0 := 47) (len := 3) rfl rfl rfl (e_cl_number hX_21 hp_25 hp_26 hp_27) ?_
  show WV _ _ _ 50 _ [.inl ((cl_number (cl_word19 ((cl_number (cl_word18 ((cl_number v 0 g).2)) 0 (((cl_word18 ((cl_number v 0 g).2)) 3 1) - 1)).2)) ((cl_number (cl_word18 ((cl_number v 0 g).2)) 0 (((cl_word18 ((cl_number v 0 g).2)) 3 1) - 1)).1) (((cl_word19 ((cl_number (cl_word18 ((cl_number v 0 g).2)) 0 (((cl_word18 ((cl_number v 0 g).2)) 3 1) - 1)).2)) 3 1) - 1)).1)] _ (cl_number (cl_word19 ((cl_number (cl_word18 ((cl_number v 0 g).2)) 0 (((cl_word18 ((cl_number v 0 g).2)) 3 1) - 1)).2)) ((cl_number (cl_word18 ((cl_number v 0 g).2)) 0 (((cl_word18 ((cl_number v 0 g).2)) 3 1) - 1)).1) (((cl_word19 ((cl_number (cl_word18 ((cl_number v 0 g).2)) 0 (((cl_word18 ((cl_number v 0 g).2)) 3 1) - 1)).2)) 3 1) - 1)).2 _
  have hX_28 : XI (cl_number (cl_word19 ((cl_number (cl_word18 ((cl_number v 0 g).2)) 0 (((cl_word18 ((cl_number v 0 g).2)) 3 1) - 1)).2)) ((cl_number (cl_word18 ((cl_number v 0 g).2)) 0 (((cl_word18 ((cl_number v 0 g).2)) 3 1) - 1)).1) (((cl_word19 ((cl_number (cl_word18 ((cl_number v 0 g).2)) 0 (((cl_word18 ((cl_number v 0 g).2)) 3 1) - 1)).2)) 3 1) - 1)).2 := i_cl_number (v := (cl_word19 ((cl_number (cl_word18 ((cl_number v 0 g).2)) 0 (((cl_word18 ((cl_number v 0 g).2)) 3 1) - 1)).2))) (l := (cl_number (cl_word18 ((cl_number v 0 g).2)) 0 (((cl_word18 ((cl_number v 0 g).2)) 3 1) - 1)).1) (g := (((cl_word19 ((cl_number (cl_word18 ((cl_number v 0 g).2)) 0 (((cl_word18 ((cl_number v 0 g).2)) 3 1) - 1)).2)) 3 1) - 1)) hX_21 hp_25 hp_26 hp_27
  have hb_29 : ((cl_number (cl_word19 ((cl_number (cl_word18 ((cl_number v 0 g).2)) 0 (((cl_word18 ((cl_number v 0 g).2)) 3 1) - 1)).2)) ((cl_number (cl_word18 ((cl_number v 0 g).2)) 0 (((cl_word18 ((cl_number v 0 g).2)) 3 1) - 1)).1) (((cl_word19 ((cl_number (cl_word18 ((cl_number v 0 g).2)) 0 (((cl_word18 ((cl_number v 0 g).2)) 3 1) - 1)).2)) 3 1) - 1)).2) 3 2 = ((cl_word19 ((cl_number (cl_word18 ((cl_number v 0 g).2)) 0 (((cl_word18 ((cl_number v 0 g).2)) 3 1) - 1)).2)) 3 2) := by rw [o_cl_number (by omega)] <;> rfl
  have hb_30 := n0_cl_number (v := (cl_word19 ((cl_number (cl_word18 ((cl_number v 0 g).2)) 0 (((cl_word18 ((cl_number v 0 g).2)) 3 1) - 1)).2))) (l := (cl_number (cl_word18 ((cl_number v 0 g).2)) 0 (((cl_word18 ((cl_number v 0 g).2)) 3 1) - 1)).1) (g := (((cl_word19 ((cl_number (cl_word18 ((cl_number v 0 g).2)) 0 (((cl_word18 ((cl_number v 0 g).2)) 3 1) - 1)).2)) 3 1) - 1)) hX_21 hp_25 hp_26 hp_27
  have hb_31 : ((cl_number (cl_word19 ((cl_number (cl_word18 ((cl_number v 0 g).2)) 0 (((cl_word18 ((cl_number v 0 g).2)) 3 1) - 1)).2)) ((cl_number (cl_word18 ((cl_number v 0 g).2)) 0 (((cl_word18 ((cl_number v 0 g).2)) 3 1) - 1)).1) (((cl_word19 ((cl_number (cl_word18 ((cl_number v 0 g).2)) 0 (((cl_word18 ((cl_number v 0 g).2)) 3 1) - 1)).2)) 3 1) - 1)).2 2 7) ≤ ((cl_number (cl_word19 ((cl_number (cl_word18 ((cl_number v 0 g).2)) 0 (((cl_word18 ((cl_number v 0 g).2)) 3 1) - 1)).2)) ((cl_number (cl_word18 ((cl_number v 0 g).2)) 0 (((cl_word18 ((cl_number v 0 g).2)) 3 1) - 1)).1) (((cl_word19 ((cl_number (cl_word18 ((cl_number v 0 g).2)) 0 (((cl_word18 ((cl_number v 0 g).2)) 3 1) - 1)).2)) 3 1) - 1)).2 2 4) := n1_cl_number (v := (cl_word19 ((cl_number (cl_word18 ((cl_number v 0 g).2)) 0 (((cl_word18 ((cl_number v 0 g).2)) 3 1) - 1)).2))) (l := (cl_number (cl_word18 ((cl_number v 0 g).2)) 0 (((cl_word18 ((cl_number v 0 g).2)) 3 1) - 1)).1) (g := (((cl_word19 ((cl_number (cl_word18 ((cl_number v 0 g).2)) 0 (((cl_word18 ((cl_number v 0 g).2)) 3 1) - 1)).2)) 3 1) - 1)) hX_21 hp_25 hp_26 hp_27
  refine r_ex 2 (pc' := 53) (lo' := [some (.inr (.inr (some 2))), some (.inr (.inr (some 24))), some (.inl g), some (.inl ((cl_number v 0 g).1)), some (.inl ((cl_number (cl_word18 ((cl_number v 0 g).2)) 0 (((cl_word18 ((cl_number v 0 g).2)) 3 1) - 1)).1)), some (.inl ((cl_number (cl_word19 ((cl_number (cl_word18 ((cl_number v 0 g).2)) 0 (((cl_word18 ((cl_number v 0 g).2)) 3 1) - 1)).2)) ((cl_number (cl_word18 ((cl_number v 0 g).2)) 0 (((cl_word18 ((cl_number v 0 g).2)) 3 1) - 1)).1) (((cl_word19 ((cl_number (cl_word18 ((cl_number v 0 g).2)) 0 (((cl_word18 ((cl_number v 0 g).2)) 3 1) - 1)).2)) 3 1) - 1)).1))]) (st' := [.inr (.inr (some 2))]) rfl ?_
  have hp_32 : (((cl_number (cl_word19 ((cl_number (cl_word18 ((cl_number v 0 g).2)) 0 (((cl_word18 ((cl_number v 0 g).2)) 3 1) - 1)).2)) ((cl_number (cl_word18 ((cl_number v 0 g).2)) 0 (((cl_word18 ((cl_number v 0 g).2)) 3 1) - 1)).1) (((cl_word19 ((cl_number (cl_word18 ((cl_number v 0 g).2)) 0 (((cl_word18 ((cl_number v 0 g).2)) 3 1) - 1)).2)) 3 1) - 1)).2) 2 7) ≤ (((cl_number (cl_word19 ((cl_number (cl_word18 ((cl_number v 0 g).2)) 0 (((cl_word18 ((cl_number v 0 g).2)) 3 1) - 1)).2)) ((cl_number (cl_word18 ((cl_number v 0 g).2)) 0 (((cl_word18 ((cl_number v 0 g).2)) 3 1) - 1)).1) (((cl_word19 ((cl_number (cl_word18 ((cl_number v 0 g).2)) 0 (((cl_word18 ((cl_number v 0 g).2)) 3 1) - 1)).2)) 3 1) - 1)).2) 2 4) := (show ((cl_number (cl_word19 ((cl_number (cl_word18 ((cl_number v 0 g).2)) 0 (((cl_word18 ((cl_number v 0 g).2)) 3 1) - 1)).2)) ((cl_number (cl_word18 ((cl_number v 0 g).2)) 0 (((cl_word18 ((cl_number v 0 g).2)) 3 1) - 1)).1) (((cl_word19 ((cl_number (cl_word18 ((cl_number v 0 g).2)) 0 (((cl_word18 ((cl_number v 0 g).2)) 3 1) - 1)).2)) 3 1) - 1)).2 2 7) ≤ ((cl_number (cl_word19 ((cl_number (cl_word18 ((cl_number v 0 g).2)) 0 (((cl_word18 ((cl_number v 0 g).2)) 3 1) - 1)).2)) ((cl_number (cl_word18 ((cl_number v 0 g).2)) 0 (((cl_word18 ((cl_number v 0 g).2)) 3 1) - 1)).1) (((cl_word19 ((cl_number (cl_word18 ((cl_number v 0 g).2)) 0 (((cl_word18 ((cl_number v 0 g).2)) 3 1) - 1)).2)) 3 1) - 1)).2 2 4) from (by first | assumption | omega | (unfold R32 at *; omega) | (unfold R64 at *; omega) | (simp only [R32, R64] at *; omega)))
  refine r_call (m := 41) (args := [.inr (.inr (some 2))]) (n' := 50) (pc' := 56) (lo' := [some (.inr (.inr (some 2))), some (.inr (.inr (some 24))), some (.inl g), some (.inl ((cl_number v 0 g).1)), some (.inl ((cl_number (cl_word18 ((cl_number v 0 g).2)) 0 (((cl_word18 ((cl_number v 0 g).2)) 3 1) - 1)).1)), some (.inl ((cl_number (cl_word19 ((cl_number (cl_word18 ((cl_number v 0 g).2)) 0 (((cl_word18 ((cl_number v 0 g).2)) 3 1) - 1)).2)) ((cl_number (cl_word18 ((cl_number v 0 g).2)) 0 (((cl_word18 ((cl_number v 0 g).2)) 3 1) - 1)).1) (((cl_word19 ((cl_number (cl_word18 ((cl_number v 0 g).2)) 0 (((cl_word18 ((cl_number v 0 g).2)) 3 1) - 1)).2)) 3 1) - 1)).1))]) (st' := []) (I := .invokevirtual 41) (pc0 := 53) (len := 3) rfl rfl rfl (e_cl_stop hX_28 hp_32) ?_
  show WV _ _ _ 56 _ [] _ (cl_stop ((cl_number (cl_word19 ((cl_number (cl_word18 ((cl_number v 0 g).2)) 0 (((cl_word18 ((cl_number v 0 g).2)) 3 1) - 1)).2)) ((cl_number (cl_word18 ((cl_number v 0 g).2)) 0 (((cl_word18 ((cl_number v 0 g).2)) 3 1) - 1)).1) (((cl_word19 ((cl_number (cl_word18 ((cl_number v 0 g).2)) 0 (((cl_word18 ((cl_number v 0 g).2)) 3 1) - 1)).2)) 3 1) - 1)).2)) _
  have hX_33 : XI (cl_stop ((cl_number (cl_word19 ((cl_number (cl_word18 ((cl_number v 0 g).2)) 0 (((cl_word18 ((cl_number v 0 g).2)) 3 1) - 1)).2)) ((cl_number (cl_word18 ((cl_number v 0 g).2)) 0 (((cl_word18 ((cl_number v 0 g).2)) 3 1) - 1)).1) (((cl_word19 ((cl_number (cl_word18 ((cl_number v 0 g).2)) 0 (((cl_word18 ((cl_number v 0 g).2)) 3 1) - 1)).2)) 3 1) - 1)).2)) := i_cl_stop (v := (cl_number (cl_word19 ((cl_number (cl_word18 ((cl_number v 0 g).2)) 0 (((cl_word18 ((cl_number v 0 g).2)) 3 1) - 1)).2)) ((cl_number (cl_word18 ((cl_number v 0 g).2)) 0 (((cl_word18 ((cl_number v 0 g).2)) 3 1) - 1)).1) (((cl_word19 ((cl_number (cl_word18 ((cl_number v 0 g).2)) 0 (((cl_word18 ((cl_number v 0 g).2)) 3 1) - 1)).2)) 3 1) - 1)).2) hX_28 hp_32
  have hb_34 : (cl_stop ((cl_number (cl_word19 ((cl_number (cl_word18 ((cl_number v 0 g).2)) 0 (((cl_word18 ((cl_number v 0 g).2)) 3 1) - 1)).2)) ((cl_number (cl_word18 ((cl_number v 0 g).2)) 0 (((cl_word18 ((cl_number v 0 g).2)) 3 1) - 1)).1) (((cl_word19 ((cl_number (cl_word18 ((cl_number v 0 g).2)) 0 (((cl_word18 ((cl_number v 0 g).2)) 3 1) - 1)).2)) 3 1) - 1)).2)) 3 2 = ((cl_number (cl_word19 ((cl_number (cl_word18 ((cl_number v 0 g).2)) 0 (((cl_word18 ((cl_number v 0 g).2)) 3 1) - 1)).2)) ((cl_number (cl_word18 ((cl_number v 0 g).2)) 0 (((cl_word18 ((cl_number v 0 g).2)) 3 1) - 1)).1) (((cl_word19 ((cl_number (cl_word18 ((cl_number v 0 g).2)) 0 (((cl_word18 ((cl_number v 0 g).2)) 3 1) - 1)).2)) 3 1) - 1)).2 3 2) := by rw [o_cl_stop (by omega)] <;> rfl
  have hb_35 : ((cl_stop ((cl_number (cl_word19 ((cl_number (cl_word18 ((cl_number v 0 g).2)) 0 (((cl_word18 ((cl_number v 0 g).2)) 3 1) - 1)).2)) ((cl_number (cl_word18 ((cl_number v 0 g).2)) 0 (((cl_word18 ((cl_number v 0 g).2)) 3 1) - 1)).1) (((cl_word19 ((cl_number (cl_word18 ((cl_number v 0 g).2)) 0 (((cl_word18 ((cl_number v 0 g).2)) 3 1) - 1)).2)) 3 1) - 1)).2)) 2 7) ≤ ((cl_stop ((cl_number (cl_word19 ((cl_number (cl_word18 ((cl_number v 0 g).2)) 0 (((cl_word18 ((cl_number v 0 g).2)) 3 1) - 1)).2)) ((cl_number (cl_word18 ((cl_number v 0 g).2)) 0 (((cl_word18 ((cl_number v 0 g).2)) 3 1) - 1)).1) (((cl_word19 ((cl_number (cl_word18 ((cl_number v 0 g).2)) 0 (((cl_word18 ((cl_number v 0 g).2)) 3 1) - 1)).2)) 3 1) - 1)).2)) 2 4) := n_cl_stop (v := (cl_number (cl_word19 ((cl_number (cl_word18 ((cl_number v 0 g).2)) 0 (((cl_word18 ((cl_number v 0 g).2)) 3 1) - 1)).2)) ((cl_number (cl_word18 ((cl_number v 0 g).2)) 0 (((cl_word18 ((cl_number v 0 g).2)) 3 1) - 1)).1) (((cl_word19 ((cl_number (cl_word18 ((cl_number v 0 g).2)) 0 (((cl_word18 ((cl_number v 0 g).2)) 3 1) - 1)).2)) 3 1) - 1)).2) hX_28 hp_32
  refine r_ex 2 (pc' := 60) (lo' := [some (.inr (.inr (some 2))), some (.inr (.inr (some 24))), some (.inl g), some (.inl ((cl_number v 0 g).1)), some (.inl ((cl_number (cl_word18 ((cl_number v 0 g).2)) 0 (((cl_word18 ((cl_number v 0 g).2)) 3 1) - 1)).1)), some (.inl ((cl_number (cl_word19 ((cl_number (cl_word18 ((cl_number v 0 g).2)) 0 (((cl_word18 ((cl_number v 0 g).2)) 3 1) - 1)).2)) ((cl_number (cl_word18 ((cl_number v 0 g).2)) 0 (((cl_word18 ((cl_number v 0 g).2)) 3 1) - 1)).1) (((cl_word19 ((cl_number (cl_word18 ((cl_number v 0 g).2)) 0 (((cl_word18 ((cl_number v 0 g).2)) 3 1) - 1)).2)) 3 1) - 1)).1))]) (st' := [.inl ((cl_stop ((cl_number (cl_word19 ((cl_number (cl_word18 ((cl_number v 0 g).2)) 0 (((cl_word18 ((cl_number v 0 g).2)) 3 1) - 1)).2)) ((cl_number (cl_word18 ((cl_number v 0 g).2)) 0 (((cl_word18 ((cl_number v 0 g).2)) 3 1) - 1)).1) (((cl_word19 ((cl_number (cl_word18 ((cl_number v 0 g).2)) 0 (((cl_word18 ((cl_number v 0 g).2)) 3 1) - 1)).2)) 3 1) - 1)).2)) 2 1)]) rfl ?_
  have hb_36 : 0 ≤ ((cl_stop ((cl_number (cl_word19 ((cl_number (cl_word18 ((cl_number v 0 g).2)) 0 (((cl_word18 ((cl_number v 0 g).2)) 3 1) - 1)).2)) ((cl_number (cl_word18 ((cl_number v 0 g).2)) 0 (((cl_word18 ((cl_number v 0 g).2)) 3 1) - 1)).1) (((cl_word19 ((cl_number (cl_word18 ((cl_number v 0 g).2)) 0 (((cl_word18 ((cl_number v 0 g).2)) 3 1) - 1)).2)) 3 1) - 1)).2)) 2 1) ∧ ((cl_stop ((cl_number (cl_word19 ((cl_number (cl_word18 ((cl_number v 0 g).2)) 0 (((cl_word18 ((cl_number v 0 g).2)) 3 1) - 1)).2)) ((cl_number (cl_word18 ((cl_number v 0 g).2)) 0 (((cl_word18 ((cl_number v 0 g).2)) 3 1) - 1)).1) (((cl_word19 ((cl_number (cl_word18 ((cl_number v 0 g).2)) 0 (((cl_word18 ((cl_number v 0 g).2)) 3 1) - 1)).2)) 3 1) - 1)).2)) 2 1) ≤ 3 := hX_33 2 1
  refine n_if_ne (pc0 := 60) (len := 3) (t := 72) rfl (by first | assumption | omega | (unfold R32 at *; omega) | (unfold R64 at *; omega) | (simp only [R32, R64] at *; omega)) (fun h_60 => ?_) (fun h_60 => ?_)
  · show WV _ _ _ 72 _ _ _ _ _
    rw [if_neg h_60] at hQ
    refine r_ret (rr := none) (I := .return_) (pc0 := 72) (len := 1) rfl rfl ?_
    exact hQ hX_33 (show ((cl_stop ((cl_number (cl_word19 ((cl_number (cl_word18 ((cl_number v 0 g).2)) 0 (((cl_word18 ((cl_number v 0 g).2)) 3 1) - 1)).2)) ((cl_number (cl_word18 ((cl_number v 0 g).2)) 0 (((cl_word18 ((cl_number v 0 g).2)) 3 1) - 1)).1) (((cl_word19 ((cl_number (cl_word18 ((cl_number v 0 g).2)) 0 (((cl_word18 ((cl_number v 0 g).2)) 3 1) - 1)).2)) 3 1) - 1)).2)) 2 7) ≤ ((cl_stop ((cl_number (cl_word19 ((cl_number (cl_word18 ((cl_number v 0 g).2)) 0 (((cl_word18 ((cl_number v 0 g).2)) 3 1) - 1)).2)) ((cl_number (cl_word18 ((cl_number v 0 g).2)) 0 (((cl_word18 ((cl_number v 0 g).2)) 3 1) - 1)).1) (((cl_word19 ((cl_number (cl_word18 ((cl_number v 0 g).2)) 0 (((cl_word18 ((cl_number v 0 g).2)) 3 1) - 1)).2)) 3 1) - 1)).2)) 2 4) from (by first | assumption | omega | (unfold R32 at *; omega) | (unfold R64 at *; omega) | (simp only [R32, R64] at *; omega)))
  · show WV _ _ _ 63 _ _ _ _ _
    rw [if_pos h_60] at hQ
    refine r_ex 4 (pc' := 69) (lo' := [some (.inr (.inr (some 2))), some (.inr (.inr (some 24))), some (.inl g), some (.inl ((cl_number v 0 g).1)), some (.inl ((cl_number (cl_word18 ((cl_number v 0 g).2)) 0 (((cl_word18 ((cl_number v 0 g).2)) 3 1) - 1)).1)), some (.inl ((cl_number (cl_word19 ((cl_number (cl_word18 ((cl_number v 0 g).2)) 0 (((cl_word18 ((cl_number v 0 g).2)) 3 1) - 1)).2)) ((cl_number (cl_word18 ((cl_number v 0 g).2)) 0 (((cl_word18 ((cl_number v 0 g).2)) 3 1) - 1)).1) (((cl_word19 ((cl_number (cl_word18 ((cl_number v 0 g).2)) 0 (((cl_word18 ((cl_number v 0 g).2)) 3 1) - 1)).2)) 3 1) - 1)).1))]) (st' := [.inl ((cl_number (cl_word19 ((cl_number (cl_word18 ((cl_number v 0 g).2)) 0 (((cl_word18 ((cl_number v 0 g).2)) 3 1) - 1)).2)) ((cl_number (cl_word18 ((cl_number v 0 g).2)) 0 (((cl_word18 ((cl_number v 0 g).2)) 3 1) - 1)).1) (((cl_word19 ((cl_number (cl_word18 ((cl_number v 0 g).2)) 0 (((cl_word18 ((cl_number v 0 g).2)) 3 1) - 1)).2)) 3 1) - 1)).1), .inl ((cl_number (cl_word18 ((cl_number v 0 g).2)) 0 (((cl_word18 ((cl_number v 0 g).2)) 3 1) - 1)).1), .inl ((cl_number v 0 g).1), .inr (.inr (some 24))]) rfl ?_
    have hp_37 : 0 ≤ ((cl_number v 0 g).1) ∧ ((cl_number v 0 g).1) ≤ 8 := (by first | assumption | omega | (unfold R32 at *; omega) | (unfold R64 at *; omega) | (simp only [R32, R64] at *; omega))
    have hp_38 : 0 ≤ ((cl_number (cl_word18 ((cl_number v 0 g).2)) 0 (((cl_word18 ((cl_number v 0 g).2)) 3 1) - 1)).1) ∧ ((cl_number (cl_word18 ((cl_number v 0 g).2)) 0 (((cl_word18 ((cl_number v 0 g).2)) 3 1) - 1)).1) ≤ 299 := (by first | assumption | omega | (unfold R32 at *; omega) | (unfold R64 at *; omega) | (simp only [R32, R64] at *; omega))
    have hp_39 : 0 ≤ ((cl_number (cl_word19 ((cl_number (cl_word18 ((cl_number v 0 g).2)) 0 (((cl_word18 ((cl_number v 0 g).2)) 3 1) - 1)).2)) ((cl_number (cl_word18 ((cl_number v 0 g).2)) 0 (((cl_word18 ((cl_number v 0 g).2)) 3 1) - 1)).1) (((cl_word19 ((cl_number (cl_word18 ((cl_number v 0 g).2)) 0 (((cl_word18 ((cl_number v 0 g).2)) 3 1) - 1)).2)) 3 1) - 1)).1) ∧ ((cl_number (cl_word19 ((cl_number (cl_word18 ((cl_number v 0 g).2)) 0 (((cl_word18 ((cl_number v 0 g).2)) 3 1) - 1)).2)) ((cl_number (cl_word18 ((cl_number v 0 g).2)) 0 (((cl_word18 ((cl_number v 0 g).2)) 3 1) - 1)).1) (((cl_word19 ((cl_number (cl_word18 ((cl_number v 0 g).2)) 0 (((cl_word18 ((cl_number v 0 g).2)) 3 1) - 1)).2)) 3 1) - 1)).1) ≤ 299 := (by first | assumption | omega | (unfold R32 at *; omega) | (unfold R64 at *; omega) | (simp only [R32, R64] at *; omega))
    refine r_call (m := 49) (args := [.inr (.inr (some 24)), .inl ((cl_number v 0 g).1), .inl ((cl_number (cl_word18 ((cl_number v 0 g).2)) 0 (((cl_word18 ((cl_number v 0 g).2)) 3 1) - 1)).1), .inl ((cl_number (cl_word19 ((cl_number (cl_word18 ((cl_number v 0 g).2)) 0 (((cl_word18 ((cl_number v 0 g).2)) 3 1) - 1)).2)) ((cl_number (cl_word18 ((cl_number v 0 g).2)) 0 (((cl_word18 ((cl_number v 0 g).2)) 3 1) - 1)).1) (((cl_word19 ((cl_number (cl_word18 ((cl_number v 0 g).2)) 0 (((cl_word18 ((cl_number v 0 g).2)) 3 1) - 1)).2)) 3 1) - 1)).1)]) (n' := 50) (pc' := 72) (lo' := [some (.inr (.inr (some 2))), some (.inr (.inr (some 24))), some (.inl g), some (.inl ((cl_number v 0 g).1)), some (.inl ((cl_number (cl_word18 ((cl_number v 0 g).2)) 0 (((cl_word18 ((cl_number v 0 g).2)) 3 1) - 1)).1)), some (.inl ((cl_number (cl_word19 ((cl_number (cl_word18 ((cl_number v 0 g).2)) 0 (((cl_word18 ((cl_number v 0 g).2)) 3 1) - 1)).2)) ((cl_number (cl_word18 ((cl_number v 0 g).2)) 0 (((cl_word18 ((cl_number v 0 g).2)) 3 1) - 1)).1) (((cl_word19 ((cl_number (cl_word18 ((cl_number v 0 g).2)) 0 (((cl_word18 ((cl_number v 0 g).2)) 3 1) - 1)).2)) 3 1) - 1)).1))]) (st' := []) (I := .invokevirtual 49) (pc0 := 69) (len := 3) rfl rfl rfl (e_cl_spAdd24 hX_33 hp_37 hp_38 hp_39) ?_
    show WV _ _ _ 72 _ [] _ (cl_spAdd24 (cl_stop ((cl_number (cl_word19 ((cl_number (cl_word18 ((cl_number v 0 g).2)) 0 (((cl_word18 ((cl_number v 0 g).2)) 3 1) - 1)).2)) ((cl_number (cl_word18 ((cl_number v 0 g).2)) 0 (((cl_word18 ((cl_number v 0 g).2)) 3 1) - 1)).1) (((cl_word19 ((cl_number (cl_word18 ((cl_number v 0 g).2)) 0 (((cl_word18 ((cl_number v 0 g).2)) 3 1) - 1)).2)) 3 1) - 1)).2)) ((cl_number v 0 g).1) ((cl_number (cl_word18 ((cl_number v 0 g).2)) 0 (((cl_word18 ((cl_number v 0 g).2)) 3 1) - 1)).1) ((cl_number (cl_word19 ((cl_number (cl_word18 ((cl_number v 0 g).2)) 0 (((cl_word18 ((cl_number v 0 g).2)) 3 1) - 1)).2)) ((cl_number (cl_word18 ((cl_number v 0 g).2)) 0 (((cl_word18 ((cl_number v 0 g).2)) 3 1) - 1)).1) (((cl_word19 ((cl_number (cl_word18 ((cl_number v 0 g).2)) 0 (((cl_word18 ((cl_number v 0 g).2)) 3 1) - 1)).2)) 3 1) - 1)).1)) _
    have hX_40 : XI (cl_spAdd24 (cl_stop ((cl_number (cl_word19 ((cl_number (cl_word18 ((cl_number v 0 g).2)) 0 (((cl_word18 ((cl_number v 0 g).2)) 3 1) - 1)).2)) ((cl_number (cl_word18 ((cl_number v 0 g).2)) 0 (((cl_word18 ((cl_number v 0 g).2)) 3 1) - 1)).1) (((cl_word19 ((cl_number (cl_word18 ((cl_number v 0 g).2)) 0 (((cl_word18 ((cl_number v 0 g).2)) 3 1) - 1)).2)) 3 1) - 1)).2)) ((cl_number v 0 g).1) ((cl_number (cl_word18 ((cl_number v 0 g).2)) 0 (((cl_word18 ((cl_number v 0 g).2)) 3 1) - 1)).1) ((cl_number (cl_word19 ((cl_number (cl_word18 ((cl_number v 0 g).2)) 0 (((cl_word18 ((cl_number v 0 g).2)) 3 1) - 1)).2)) ((cl_number (cl_word18 ((cl_number v 0 g).2)) 0 (((cl_word18 ((cl_number v 0 g).2)) 3 1) - 1)).1) (((cl_word19 ((cl_number (cl_word18 ((cl_number v 0 g).2)) 0 (((cl_word18 ((cl_number v 0 g).2)) 3 1) - 1)).2)) 3 1) - 1)).1)) := i_cl_spAdd24 (v := (cl_stop ((cl_number (cl_word19 ((cl_number (cl_word18 ((cl_number v 0 g).2)) 0 (((cl_word18 ((cl_number v 0 g).2)) 3 1) - 1)).2)) ((cl_number (cl_word18 ((cl_number v 0 g).2)) 0 (((cl_word18 ((cl_number v 0 g).2)) 3 1) - 1)).1) (((cl_word19 ((cl_number (cl_word18 ((cl_number v 0 g).2)) 0 (((cl_word18 ((cl_number v 0 g).2)) 3 1) - 1)).2)) 3 1) - 1)).2))) (c := (cl_number v 0 g).1) (s := (cl_number (cl_word18 ((cl_number v 0 g).2)) 0 (((cl_word18 ((cl_number v 0 g).2)) 3 1) - 1)).1) (n := (cl_number (cl_word19 ((cl_number (cl_word18 ((cl_number v 0 g).2)) 0 (((cl_word18 ((cl_number v 0 g).2)) 3 1) - 1)).2)) ((cl_number (cl_word18 ((cl_number v 0 g).2)) 0 (((cl_word18 ((cl_number v 0 g).2)) 3 1) - 1)).1) (((cl_word19 ((cl_number (cl_word18 ((cl_number v 0 g).2)) 0 (((cl_word18 ((cl_number v 0 g).2)) 3 1) - 1)).2)) 3 1) - 1)).1) hX_33 hp_37 hp_38 hp_39
    have hb_41 : (cl_spAdd24 (cl_stop ((cl_number (cl_word19 ((cl_number (cl_word18 ((cl_number v 0 g).2)) 0 (((cl_word18 ((cl_number v 0 g).2)) 3 1) - 1)).2)) ((cl_number (cl_word18 ((cl_number v 0 g).2)) 0 (((cl_word18 ((cl_number v 0 g).2)) 3 1) - 1)).1) (((cl_word19 ((cl_number (cl_word18 ((cl_number v 0 g).2)) 0 (((cl_word18 ((cl_number v 0 g).2)) 3 1) - 1)).2)) 3 1) - 1)).2)) ((cl_number v 0 g).1) ((cl_number (cl_word18 ((cl_number v 0 g).2)) 0 (((cl_word18 ((cl_number v 0 g).2)) 3 1) - 1)).1) ((cl_number (cl_word19 ((cl_number (cl_word18 ((cl_number v 0 g).2)) 0 (((cl_word18 ((cl_number v 0 g).2)) 3 1) - 1)).2)) ((cl_number (cl_word18 ((cl_number v 0 g).2)) 0 (((cl_word18 ((cl_number v 0 g).2)) 3 1) - 1)).1) (((cl_word19 ((cl_number (cl_word18 ((cl_number v 0 g).2)) 0 (((cl_word18 ((cl_number v 0 g).2)) 3 1) - 1)).2)) 3 1) - 1)).1)) 2 7 = ((cl_stop ((cl_number (cl_word19 ((cl_number (cl_word18 ((cl_number v 0 g).2)) 0 (((cl_word18 ((cl_number v 0 g).2)) 3 1) - 1)).2)) ((cl_number (cl_word18 ((cl_number v 0 g).2)) 0 (((cl_word18 ((cl_number v 0 g).2)) 3 1) - 1)).1) (((cl_word19 ((cl_number (cl_word18 ((cl_number v 0 g).2)) 0 (((cl_word18 ((cl_number v 0 g).2)) 3 1) - 1)).2)) 3 1) - 1)).2)) 2 7) := by rw [o_cl_spAdd24 (by omega)] <;> rfl
    have hb_42 : (cl_spAdd24 (cl_stop ((cl_number (cl_word19 ((cl_number (cl_word18 ((cl_number v 0 g).2)) 0 (((cl_word18 ((cl_number v 0 g).2)) 3 1) - 1)).2)) ((cl_number (cl_word18 ((cl_number v 0 g).2)) 0 (((cl_word18 ((cl_number v 0 g).2)) 3 1) - 1)).1) (((cl_word19 ((cl_number (cl_word18 ((cl_number v 0 g).2)) 0 (((cl_word18 ((cl_number v 0 g).2)) 3 1) - 1)).2)) 3 1) - 1)).2)) ((cl_number v 0 g).1) ((cl_number (cl_word18 ((cl_number v 0 g).2)) 0 (((cl_word18 ((cl_number v 0 g).2)) 3 1) - 1)).1) ((cl_number (cl_word19 ((cl_number (cl_word18 ((cl_number v 0 g).2)) 0 (((cl_word18 ((cl_number v 0 g).2)) 3 1) - 1)).2)) ((cl_number (cl_word18 ((cl_number v 0 g).2)) 0 (((cl_word18 ((cl_number v 0 g).2)) 3 1) - 1)).1) (((cl_word19 ((cl_number (cl_word18 ((cl_number v 0 g).2)) 0 (((cl_word18 ((cl_number v 0 g).2)) 3 1) - 1)).2)) 3 1) - 1)).1)) 2 4 = ((cl_stop ((cl_number (cl_word19 ((cl_number (cl_word18 ((cl_number v 0 g).2)) 0 (((cl_word18 ((cl_number v 0 g).2)) 3 1) - 1)).2)) ((cl_number (cl_word18 ((cl_number v 0 g).2)) 0 (((cl_word18 ((cl_number v 0 g).2)) 3 1) - 1)).1) (((cl_word19 ((cl_number (cl_word18 ((cl_number v 0 g).2)) 0 (((cl_word18 ((cl_number v 0 g).2)) 3 1) - 1)).2)) 3 1) - 1)).2)) 2 4) := by rw [o_cl_spAdd24 (by omega)] <;> rfl
    have hb_43 : (cl_spAdd24 (cl_stop ((cl_number (cl_word19 ((cl_number (cl_word18 ((cl_number v 0 g).2)) 0 (((cl_word18 ((cl_number v 0 g).2)) 3 1) - 1)).2)) ((cl_number (cl_word18 ((cl_number v 0 g).2)) 0 (((cl_word18 ((cl_number v 0 g).2)) 3 1) - 1)).1) (((cl_word19 ((cl_number (cl_word18 ((cl_number v 0 g).2)) 0 (((cl_word18 ((cl_number v 0 g).2)) 3 1) - 1)).2)) 3 1) - 1)).2)) ((cl_number v 0 g).1) ((cl_number (cl_word18 ((cl_number v 0 g).2)) 0 (((cl_word18 ((cl_number v 0 g).2)) 3 1) - 1)).1) ((cl_number (cl_word19 ((cl_number (cl_word18 ((cl_number v 0 g).2)) 0 (((cl_word18 ((cl_number v 0 g).2)) 3 1) - 1)).2)) ((cl_number (cl_word18 ((cl_number v 0 g).2)) 0 (((cl_word18 ((cl_number v 0 g).2)) 3 1) - 1)).1) (((cl_word19 ((cl_number (cl_word18 ((cl_number v 0 g).2)) 0 (((cl_word18 ((cl_number v 0 g).2)) 3 1) - 1)).2)) 3 1) - 1)).1)) 3 2 = ((cl_stop ((cl_number (cl_word19 ((cl_number (cl_word18 ((cl_number v 0 g).2)) 0 (((cl_word18 ((cl_number v 0 g).2)) 3 1) - 1)).2)) ((cl_number (cl_word18 ((cl_number v 0 g).2)) 0 (((cl_word18 ((cl_number v 0 g).2)) 3 1) - 1)).1) (((cl_word19 ((cl_number (cl_word18 ((cl_number v 0 g).2)) 0 (((cl_word18 ((cl_number v 0 g).2)) 3 1) - 1)).2)) 3 1) - 1)).2)) 3 2) := by rw [o_cl_spAdd24 (by omega)] <;> rfl
    refine r_ret (rr := none) (I := .return_) (pc0 := 72) (len := 1) rfl rfl ?_
    exact hQ hX_40 (show ((cl_spAdd24 (cl_stop ((cl_number (cl_word19 ((cl_number (cl_word18 ((cl_number v 0 g).2)) 0 (((cl_word18 ((cl_number v 0 g).2)) 3 1) - 1)).2)) ((cl_number (cl_word18 ((cl_number v 0 g).2)) 0 (((cl_word18 ((cl_number v 0 g).2)) 3 1) - 1)).1) (((cl_word19 ((cl_number (cl_word18 ((cl_number v 0 g).2)) 0 (((cl_word18 ((cl_number v 0 g).2)) 3 1) - 1)).2)) 3 1) - 1)).2)) ((cl_number v 0 g).1) ((cl_number (cl_word18 ((cl_number v 0 g).2)) 0 (((cl_word18 ((cl_number v 0 g).2)) 3 1) - 1)).1) ((cl_number (cl_word19 ((cl_number (cl_word18 ((cl_number v 0 g).2)) 0 (((cl_word18 ((cl_number v 0 g).2)) 3 1) - 1)).2)) ((cl_number (cl_word18 ((cl_number v 0 g).2)) 0 (((cl_word18 ((cl_number v 0 g).2)) 3 1) - 1)).1) (((cl_word19 ((cl_number (cl_word18 ((cl_number v 0 g).2)) 0 (((cl_word18 ((cl_number v 0 g).2)) 3 1) - 1)).2)) 3 1) - 1)).1)) 2 7) ≤ ((cl_spAdd24 (cl_stop ((cl_number (cl_word19 ((cl_number (cl_word18 ((cl_number v 0 g).2)) 0 (((cl_word18 ((cl_number v 0 g).2)) 3 1) - 1)).2)) ((cl_number (cl_word18 ((cl_number v 0 g).2)) 0 (((cl_word18 ((cl_number v 0 g).2)) 3 1) - 1)).1) (((cl_word19 ((cl_number (cl_word18 ((cl_number v 0 g).2)) 0 (((cl_word18 ((cl_number v 0 g).2)) 3 1) - 1)).2)) 3 1) - 1)).2)) ((cl_number v 0 g).1) ((cl_number (cl_word18 ((cl_number v 0 g).2)) 0 (((cl_word18 ((cl_number v 0 g).2)) 3 1) - 1)).1) ((cl_number (cl_word19 ((cl_number (cl_word18 ((cl_number v 0 g).2)) 0 (((cl_word18 ((cl_number v 0 g).2)) 3 1) - 1)).2)) ((cl_number (cl_word18 ((cl_number v 0 g).2)) 0 (((cl_word18 ((cl_number v 0 g).2)) 3 1) - 1)).1) (((cl_word19 ((cl_number (cl_word18 ((cl_number v 0 g).2)) 0 (((cl_word18 ((cl_number v 0 g).2)) 3 1) - 1)).2)) 3 1) - 1)).1)) 2 4) from (by first | assumption | omega | (unfold R32 at *; omega) | (unfold R64 at *; omega) | (simp only [R32, R64] at *; omega)))

theorem e_cl_readSpell24 {X : PX} {d : Nat} {v : VS} {g : Int} (hX : XI v) (hp_a : -1 ≤ g ∧ g ≤ 8) (hp_b : (v 2 7) ≤ (v 2 4)) : EvV X (d + 1 + 1 + 1 + 1 + 1 + 1) 50 [.inr (.inr (some 2)), .inr (.inr (some 24)), .inl g] 1 v none 1 (cl_readSpell24 v g) := EvV.of (w_cl_readSpell24 hX hp_a hp_b (fun _ _ => ⟨rfl, rfl, rfl⟩))

theorem i_cl_readSpell24 {v : VS} {g : Int} (hX : XI v) (hp_a : -1 ≤ g ∧ g ≤ 8) (hp_b : (v 2 7) ≤ (v 2 4)) : XI (cl_readSpell24 v g) := by
  have q : WV (0, fun _ => 0, none) (0 + 1 + 1 + 1 + 1 + 1 + 1) 50 0 [some (.inr (.inr (some 2))), some (.inr (.inr (some 24))), some (.inl g), none, none, none] [] 1 v (fun _ _ _ => XI (cl_readSpell24 v g)) := w_cl_readSpell24 (X := (0, fun _ => 0, none)) (d := 0) hX hp_a hp_b (fun q _ => q)
  obtain ⟨_, _, _, _, _, _, _, q⟩ := q
  exact q

theorem n_cl_readSpell24 {v : VS} {g : Int} (hX : XI v) (hp_a : -1 ≤ g ∧ g ≤ 8) (hp_b : (v 2 7) ≤ (v 2 4)) : ((cl_readSpell24 v g) 2 7) ≤ ((cl_readSpell24 v g) 2 4) := by
  have q : WV (0, fun _ => 0, none) (0 + 1 + 1 + 1 + 1 + 1 + 1) 50 0 [some (.inr (.inr (some 2))), some (.inr (.inr (some 24))), some (.inl g), none, none, none] [] 1 v (fun _ _ _ => ((cl_readSpell24 v g) 2 7) ≤ ((cl_readSpell24 v g) 2 4)) := w_cl_readSpell24 (X := (0, fun _ => 0, none)) (d := 0) hX hp_a hp_b (fun _ q => q)
  obtain ⟨_, _, _, _, _, _, _, q⟩ := q
  exact q

theorem o_cl_readSpell24 {rk : Nat} {v : VS} {g : Int} (hk : (rk < 2 ∨ 2 < rk) ∧ (rk < 24 ∨ 27 < rk)) : (cl_readSpell24 v g) rk = v rk := by
  unfold cl_readSpell24
  by_cases hc_ : ((cl_stop ((cl_number (cl_word19 ((cl_number (cl_word18 ((cl_number v 0 g).2)) 0 (((cl_word18 ((cl_number v 0 g).2)) 3 1) - 1)).2)) ((cl_number (cl_word18 ((cl_number v 0 g).2)) 0 (((cl_word18 ((cl_number v 0 g).2)) 3 1) - 1)).1) (((cl_word19 ((cl_number (cl_word18 ((cl_number v 0 g).2)) 0 (((cl_word18 ((cl_number v 0 g).2)) 3 1) - 1)).2)) 3 1) - 1)).2)) 2 1) = 0
  · rw [if_pos hc_]
    all_goals (show (cl_spAdd24 (cl_stop ((cl_number (cl_word19 ((cl_number (cl_word18 ((cl_number v 0 g).2)) 0 (((cl_word18 ((cl_number v 0 g).2)) 3 1) - 1)).2)) ((cl_number (cl_word18 ((cl_number v 0 g).2)) 0 (((cl_word18 ((cl_number v 0 g).2)) 3 1) - 1)).1) (((cl_word19 ((cl_number (cl_word18 ((cl_number v 0 g).2)) 0 (((cl_word18 ((cl_number v 0 g).2)) 3 1) - 1)).2)) 3 1) - 1)).2)) ((cl_number v 0 g).1) ((cl_number (cl_word18 ((cl_number v 0 g).2)) 0 (((cl_word18 ((cl_number v 0 g).2)) 3 1) - 1)).1) ((cl_number (cl_word19 ((cl_number (cl_word18 ((cl_number v 0 g).2)) 0 (((cl_word18 ((cl_number v 0 g).2)) 3 1) - 1)).2)) ((cl_number (cl_word18 ((cl_number v 0 g).2)) 0 (((cl_word18 ((cl_number v 0 g).2)) 3 1) - 1)).1) (((cl_word19 ((cl_number (cl_word18 ((cl_number v 0 g).2)) 0 (((cl_word18 ((cl_number v 0 g).2)) 3 1) - 1)).2)) 3 1) - 1)).1)) rk = _)
    all_goals (rw [o_cl_spAdd24 (by omega), o_cl_stop (by omega), o_cl_number (by omega), o_cl_word19 (by omega), o_cl_number (by omega), o_cl_word18 (by omega), o_cl_number (by omega)])
  · rw [if_neg hc_]
    all_goals (show (cl_stop ((cl_number (cl_word19 ((cl_number (cl_word18 ((cl_number v 0 g).2)) 0 (((cl_word18 ((cl_number v 0 g).2)) 3 1) - 1)).2)) ((cl_number (cl_word18 ((cl_number v 0 g).2)) 0 (((cl_word18 ((cl_number v 0 g).2)) 3 1) - 1)).1) (((cl_word19 ((cl_number (cl_word18 ((cl_number v 0 g).2)) 0 (((cl_word18 ((cl_number v 0 g).2)) 3 1) - 1)).2)) 3 1) - 1)).2)) rk = _)
    all_goals (rw [o_cl_stop (by omega), o_cl_number (by omega), o_cl_word19 (by omega), o_cl_number (by omega), o_cl_word18 (by omega), o_cl_number (by omega)])

def cl_readSpell28 (v : VS) (g : Int) : VS :=
  (if ((cl_stop ((cl_number (cl_word19 ((cl_number (cl_word18 ((cl_number v 0 g).2)) 0 (((cl_word18 ((cl_number v 0 g).2)) 3 1) - 1)).2)) ((cl_number (cl_word18 ((cl_number v 0 g).2)) 0 (((cl_word18 ((cl_number v 0 g).2)) 3 1) - 1)).1) (((cl_word19 ((cl_number (cl_word18 ((cl_number v 0 g).2)) 0 (((cl_word18 ((cl_number v 0 g).2)) 3 1) - 1)).2)) 3 1) - 1)).2)) 2 1) = 0 then (cl_spAdd28 (cl_stop ((cl_number (cl_word19 ((cl_number (cl_word18 ((cl_number v 0 g).2)) 0 (((cl_word18 ((cl_number v 0 g).2)) 3 1) - 1)).2)) ((cl_number (cl_word18 ((cl_number v 0 g).2)) 0 (((cl_word18 ((cl_number v 0 g).2)) 3 1) - 1)).1) (((cl_word19 ((cl_number (cl_word18 ((cl_number v 0 g).2)) 0 (((cl_word18 ((cl_number v 0 g).2)) 3 1) - 1)).2)) 3 1) - 1)).2)) ((cl_number v 0 g).1) ((cl_number (cl_word18 ((cl_number v 0 g).2)) 0 (((cl_word18 ((cl_number v 0 g).2)) 3 1) - 1)).1) ((cl_number (cl_word19 ((cl_number (cl_word18 ((cl_number v 0 g).2)) 0 (((cl_word18 ((cl_number v 0 g).2)) 3 1) - 1)).2)) ((cl_number (cl_word18 ((cl_number v 0 g).2)) 0 (((cl_word18 ((cl_number v 0 g).2)) 3 1) - 1)).1) (((cl_word19 ((cl_number (cl_word18 ((cl_number v 0 g).2)) 0 (((cl_word18 ((cl_number v 0 g).2)) 3 1) - 1)).2)) 3 1) - 1)).1)) else (cl_stop ((cl_number (cl_word19 ((cl_number (cl_word18 ((cl_number v 0 g).2)) 0 (((cl_word18 ((cl_number v 0 g).2)) 3 1) - 1)).2)) ((cl_number (cl_word18 ((cl_number v 0 g).2)) 0 (((cl_word18 ((cl_number v 0 g).2)) 3 1) - 1)).1) (((cl_word19 ((cl_number (cl_word18 ((cl_number v 0 g).2)) 0 (((cl_word18 ((cl_number v 0 g).2)) 3 1) - 1)).2)) 3 1) - 1)).2)))
theorem w_cl_readSpell28 {X : PX} {d : Nat} {v : VS} {g : Int} (hX : XI v) (hp_a : -1 ≤ g ∧ g ≤ 8) (hp_b : (v 2 7) ≤ (v 2 4)) {Q : Option PV → Nat → VS → Prop} (hQ : XI (cl_readSpell28 v g) → (((cl_readSpell28 v g) 2 7) ≤ ((cl_readSpell28 v g) 2 4)) → Q none 1 (cl_readSpell28 v g)) : WV X (d + 1 + 1 + 1 + 1 + 1 + 1) 50 0 [some (.inr (.inr (some 2))), some (.inr (.inr (some 28))), some (.inl g), none, none, none] [] 1 v Q := by
  rw [cl_readSpell28] at hQ
  refine r_ex 3 (pc' := 3) (lo' := [some (.inr (.inr (some 2))), some (.inr (.inr (some 28))), some (.inl g), none, none, none]) (st' := [.inl g, .inl 0, .inr (.inr (some 2))]) rfl ?_
  have hp_1 : 0 ≤ (0 : Int) ∧ (0 : Int) ≤ 300 := (by first | assumption | omega | (unfold R32 at *; omega) | (unfold R64 at *; omega) | (simp only [R32, R64] at *; omega))
  have hp_2 : -1 ≤ g ∧ g ≤ 300 := (by first | assumption | omega | (unfold R32 at *; omega) | (unfold R64 at *; omega) | (simp only [R32, R64] at *; omega))
  have hp_3 : (v 2 7) ≤ (v 2 4) := (show (v 2 7) ≤ (v 2 4) from (by first | assumption | omega | (unfold R32 at *; omega) | (unfold R64 at *; omega) | (simp only [R32, R64] at *; omega)))
  refine r_call (m := 40) (args := [.inr (.inr (some 2)), .inl 0, .inl g]) (n' := 50) (pc' := 6) (lo' := [some (.inr (.inr (some 2))), some (.inr (.inr (some 28))), some (.inl g), none, none, none]) (st' := []) (I := .invokevirtual 40) (pc0 := 3) (len := 3) rfl rfl rfl (e_cl_number hX hp_1 hp_2 hp_3) ?_
  show WV _ _ _ 6 _ [.inl ((cl_number v 0 g).1)] _ (cl_number v 0 g).2 _
  have hX_4 : XI (cl_number v 0 g).2 := i_cl_number (v := v) (l := 0) (g := g) hX hp_1 hp_2 hp_3
  have hb_5 : ((cl_number v 0 g).2) 3 2 = (v 3 2) := by rw [o_cl_number (by omega)] <;> rfl
  have hb_6 := n0_cl_number (v := v) (l := 0) (g := g) hX hp_1 hp_2 hp_3
  have hb_7 : ((cl_number v 0 g).2 2 7) ≤ ((cl_number v 0 g).2 2 4) := n1_cl_number (v := v) (l := 0) (g := g) hX hp_1 hp_2 hp_3
  refine r_ex 3 (pc' := 10) (lo' := [some (.inr (.inr (some 2))), some (.inr (.inr (some 28))), some (.inl g), some (.inl ((cl_number v 0 g).1)), none, none]) (st' := [.inr (.inr (some 100037)), .inr (.inr (some 2))]) rfl ?_
  have hp_8 : (((cl_number v 0 g).2) 2 7) ≤ (((cl_number v 0 g).2) 2 4) := (show ((cl_number v 0 g).2 2 7) ≤ ((cl_number v 0 g).2 2 4) from (by first | assumption | omega | (unfold R32 at *; omega) | (unfold R64 at *; omega) | (simp only [R32, R64] at *; omega)))
  refine r_call (m := 26) (args := [.inr (.inr (some 2)), .inr (.inr (some 100037))]) (n' := 50) (pc' := 13) (lo' := [some (.inr (.inr (some 2))), some (.inr (.inr (some 28))), some (.inl g), some (.inl ((cl_number v 0 g).1)), none, none]) (st' := []) (I := .invokevirtual 26) (pc0 := 10) (len := 3) rfl rfl rfl (e_cl_word18 hX_4 hp_8) ?_
  show WV _ _ _ 13 _ [] _ (cl_word18 ((cl_number v 0 g).2)) _
  have hX_9 : XI (cl_word18 ((cl_number v 0 g).2)) := i_cl_word18 (v := (cl_number v 0 g).2) hX_4 hp_8
  have hb_10 : (cl_word18 ((cl_number v 0 g).2)) 3 2 = ((cl_number v 0 g).2 3 2) := by rw [o_cl_word18 (by omega)] <;> rfl
  have hb_11 : ((cl_word18 ((cl_number v 0 g).2)) 2 7) ≤ ((cl_word18 ((cl_number v 0 g).2)) 2 4) := n_cl_word18 (v := (cl_number v 0 g).2) hX_4 hp_8
  refine r_ex 7 (pc' := 24) (lo' := [some (.inr (.inr (some 2))), some (.inr (.inr (some 28))), some (.inl g), some (.inl ((cl_number v 0 g).1)), none, none]) (st' := [.inl (((cl_word18 ((cl_number v 0 g).2)) 3 1) - 1), .inl 0, .inr (.inr (some 2))]) rfl ?_
  have hb_12 : 0 ≤ ((cl_word18 ((cl_number v 0 g).2)) 3 1) ∧ ((cl_word18 ((cl_number v 0 g).2)) 3 1) ≤ 300 := hX_9 3 1
  have hp_13 : 0 ≤ (0 : Int) ∧ (0 : Int) ≤ 300 := (by first | assumption | omega | (unfold R32 at *; omega) | (unfold R64 at *; omega) | (simp only [R32, R64] at *; omega))
  have hp_14 : -1 ≤ (((cl_word18 ((cl_number v 0 g).2)) 3 1) - 1) ∧ (((cl_word18 ((cl_number v 0 g).2)) 3 1) - 1) ≤ 300 := (by first | assumption | omega | (unfold R32 at *; omega) | (unfold R64 at *; omega) | (simp only [R32, R64] at *; omega))
  have hp_15 : ((cl_word18 ((cl_number v 0 g).2)) 2 7) ≤ ((cl_word18 ((cl_number v 0 g).2)) 2 4) := (show ((cl_word18 ((cl_number v 0 g).2)) 2 7) ≤ ((cl_word18 ((cl_number v 0 g).2)) 2 4) from (by first | assumption | omega | (unfold R32 at *; omega) | (unfold R64 at *; omega) | (simp only [R32, R64] at *; omega)))
  refine r_call (m := 40) (args := [.inr (.inr (some 2)), .inl 0, .inl (((cl_word18 ((cl_number v 0 g).2)) 3 1) - 1)]) (n' := 50) (pc' := 27) (lo' := [some (.inr (.inr (some 2))), some (.inr (.inr (some 28))), some (.inl g), some (.inl ((cl_number v 0 g).1)), none, none]) (st' := []) (I := .invokevirtual 40) (pc0 := 24) (len := 3) rfl rfl rfl (e_cl_number hX_9 hp_13 hp_14 hp_15) ?_
  show WV _ _ _ 27 _ [.inl ((cl_number (cl_word18 ((cl_number v 0 g).2)) 0 (((cl_word18 ((cl_number v 0 g).2)) 3 1) - 1)).1)] _ (cl_number (cl_word18 ((cl_number v 0 g).2)) 0 (((cl_word18 ((cl_number v 0 g).2)) 3 1) - 1)).2 _
  have hX_16 : XI (cl_number (cl_word18 ((cl_number v 0 g).2)) 0 (((cl_word18 ((cl_number v 0 g).2)) 3 1) - 1)).2 := i_cl_number (v := (cl_word18 ((cl_number v 0 g).2))) (l := 0) (g := (((cl_word18 ((cl_number v 0 g).2)) 3 1) - 1)) hX_9 hp_13 hp_14 hp_15
  have hb_17 : ((cl_number (cl_word18 ((cl_number v 0 g).2)) 0 (((cl_word18 ((cl_number v 0 g).2)) 3 1) - 1)).2) 3 2 = ((cl_word18 ((cl_number v 0 g).2)) 3 2) := by rw [o_cl_number (by omega)] <;> rfl
  have hb_18 := n0_cl_number (v := (cl_word18 ((cl_number v 0 g).2))) (l := 0) (g := (((cl_word18 ((cl_number v 0 g).2)) 3 1) - 1)) hX_9 hp_13 hp_14 hp_15
  have hb_19 : ((cl_number (cl_word18 ((cl_number v 0 g).2)) 0 (((cl_word18 ((cl_number v 0 g).2)) 3 1) - 1)).2 2 7) ≤ ((cl_number (cl_word18 ((cl_number v 0 g).2)) 0 (((cl_word18 ((cl_number v 0 g).2)) 3 1) - 1)).2 2 4) := n1_cl_number (v := (cl_word18 ((cl_number v 0 g).2))) (l := 0) (g := (((cl_word18 ((cl_number v 0 g).2)) 3 1) - 1)) hX_9 hp_13 hp_14 hp_15
  refine r_ex 3 (pc' := 32) (lo' := [some (.inr (.inr (some 2))), some (.inr (.inr (some 28))), some (.inl g), some (.inl ((cl_number v 0 g).1)), some (.inl ((cl_number (cl_word18 ((cl_number v 0 g).2)) 0 (((cl_word18 ((cl_number v 0 g).2)) 3 1) - 1)).1)), none]) (st' := [.inr (.inr (some 100039)), .inr (.inr (some 2))]) rfl ?_
  have hp_20 : (((cl_number (cl_word18 ((cl_number v 0 g).2)) 0 (((cl_word18 ((cl_number v 0 g).2)) 3 1) - 1)).2) 2 7) ≤ (((cl_number (cl_word18 ((cl_number v 0 g).2)) 0 (((cl_word18 ((cl_number v 0 g).2)) 3 1) - 1)).2) 2 4) := (show ((cl_number (cl_word18 ((cl_number v 0 g).2)) 0 (((cl_word18 ((cl_number v 0 g).2)) 3 1) - 1)).2 2 7) ≤ ((cl_number (cl_word18 ((cl_number v 0 g).2)) 0 (((cl_word18 ((cl_number v 0 g).2)) 3 1) - 1)).2 2 4) from (by first | assumption | omega | (unfold R32 at *; omega) | (unfold R64 at *; omega) | (simp only [R32, R64] at *; omega)))
  refine r_call (m := 26) (args := [.inr (.inr (some 2)), .inr (.inr (some 100039))]) (n' := 50) (pc' := 35) (lo' := [some (.inr (.inr (some 2))), some (.inr (.inr (some 28))), some (.inl g), some (.inl ((cl_number v 0 g).1)), some (.inl ((cl_number (cl_word18 ((cl_number v 0 g).2)) 0 (((cl_word18 ((cl_number v 0 g).2)) 3 1) - 1)).1)), none]) (st' := []) (I := .invokevirtual 26) (pc0 := 32) (len := 3) rfl rfl rfl (e_cl_word19 hX_16 hp_20) ?_
  show WV _ _ _ 35 _ [] _ (cl_word19 ((cl_number (cl_word18 ((cl_number v 0 g).2)) 0 (((cl_word18 ((cl_number v 0 g).2)) 3 1) - 1)).2)) _
  have hX_21 : XI (cl_word19 ((cl_number (cl_word18 ((cl_number v 0 g).2)) 0 (((cl_word18 ((cl_number v 0 g).2)) 3 1) - 1)).2)) := i_cl_word19 (v := (cl_number (cl_word18 ((cl_number v 0 g).2)) 0 (((cl_word18 ((cl_number v 0 g).2)) 3 1) - 1)).2) hX_16 hp_20
  have hb_22 : (cl_word19 ((cl_number (cl_word18 ((cl_number v 0 g).2)) 0 (((cl_word18 ((cl_number v 0 g).2)) 3 1) - 1)).2)) 3 2 = ((cl_number (cl_word18 ((cl_number v 0 g).2)) 0 (((cl_word18 ((cl_number v 0 g).2)) 3 1) - 1)).2 3 2) := by rw [o_cl_word19 (by omega)] <;> rfl
  have hb_23 : ((cl_word19 ((cl_number (cl_word18 ((cl_number v 0 g).2)) 0 (((cl_word18 ((cl_number v 0 g).2)) 3 1) - 1)).2)) 2 7) ≤ ((cl_word19 ((cl_number (cl_word18 ((cl_number v 0 g).2)) 0 (((cl_word18 ((cl_number v 0 g).2)) 3 1) - 1)).2)) 2 4) := n_cl_word19 (v := (cl_number (cl_word18 ((cl_number v 0 g).2)) 0 (((cl_word18 ((cl_number v 0 g).2)) 3 1) - 1)).2) hX_16 hp_20
  refine r_ex 7 (pc' := 47) (lo' := [some (.inr (.inr (some 2))), some (.inr (.inr (some 28))), some (.inl g), some (.inl ((cl_number v 0 g).1)), some (.inl ((cl_number (cl_word18 ((cl_number v 0 g).2)) 0 (((cl_word18 ((cl_number v 0 g).2)) 3 1) - 1)).1)), none]) (st' := [.inl (((cl_word19 ((cl_number (cl_word18 ((cl_number v 0 g).2)) 0 (((cl_word18 ((cl_number v 0 g).2)) 3 1) - 1)).2)) 3 1) - 1), .inl ((cl_number (cl_word18 ((cl_number v 0 g).2)) 0 (((cl_word18 ((cl_number v 0 g).2)) 3 1) - 1)).1), .inr (.inr (some 2))]) rfl ?_
  have hb_24 : 0 ≤ ((cl_word19 ((cl_number (cl_word18 ((cl_number v 0 g).2)) 0 (((cl_word18 ((cl_number v 0 g).2)) 3 1) - 1)).2)) 3 1) ∧ ((cl_word19 ((cl_number (cl_word18 ((cl_number v 0 g).2)) 0 (((cl_word18 ((cl_number v 0 g).2)) 3 1) - 1)).2)) 3 1) ≤ 300 := hX_21 3 1
  have hp_25 : 0 ≤ ((cl_number (cl_word18 ((cl_number v 0 g).2)) 0 (((cl_word18 ((cl_number v 0 g).2)) 3 1) - 1)).1) ∧ ((cl_number (cl_word18 ((cl_number v 0 g).2)) 0 (((cl_word18 ((cl_number v 0 g).2)) 3 1) - 1)).1) ≤ 300 := (by first | assumption | omega | (unfold R32 at *; omega) | (unfold R64 at *; omega) | (simp only [R32, R64] at *; omega))
  have hp_26 : -1 ≤ (((cl_word19 ((cl_number (cl_word18 ((cl_number v 0 g).2)) 0 (((cl_word18 ((cl_number v 0 g).2)) 3 1) - 1)).2)) 3 1) - 1) ∧ (((cl_word19 ((cl_number (cl_word18 ((cl_number v 0 g).2)) 0 (((cl_word18 ((cl_number v 0 g).2)) 3 1) - 1)).2)) 3 1) - 1) ≤ 300 := (by first | assumption | omega | (unfold R32 at *; omega) | (unfold R64 at *; omega) | (simp only [R32, R64] at *; omega))
  have hp_27 : ((cl_word19 ((cl_number (cl_word18 ((cl_number v 0 g).2)) 0 (((cl_word18 ((cl_number v 0 g).2)) 3 1) - 1)).2)) 2 7) ≤ ((cl_word19 ((cl_number (cl_word18 ((cl_number v 0 g).2)) 0 (((cl_word18 ((cl_number v 0 g).2)) 3 1) - 1)).2)) 2 4) := (show ((cl_word19 ((cl_number (cl_word18 ((cl_number v 0 g).2)) 0 (((cl_word18 ((cl_number v 0 g).2)) 3 1) - 1)).2)) 2 7) ≤ ((cl_word19 ((cl_number (cl_word18 ((cl_number v 0 g).2)) 0 (((cl_word18 ((cl_number v 0 g).2)) 3 1) - 1)).2)) 2 4) from (by first | assumption | omega | (unfold R32 at *; omega) | (unfold R64 at *; omega) | (simp only [R32, R64] at *; omega)))
  refine r_call (m := 40) (args := [.inr (.inr (some 2)), .inl ((cl_number (cl_word18 ((cl_number v 0 g).2)) 0 (((cl_word18 ((cl_number v 0 g).2)) 3 1) - 1)).1), .inl (((cl_word19 ((cl_number (cl_word18 ((cl_number v 0 g).2)) 0 (((cl_word18 ((cl_number v 0 g).2)) 3 1) - 1)).2)) 3 1) - 1)]) (n' := 50) (pc' := 50) (lo' := [some (.inr (.inr (some 2))), some (.inr (.inr (some 28))), some (.inl g), some (.inl ((cl_number v 0 g).1)), some (.inl ((cl_number (cl_word18 ((cl_number v 0 g).2)) 0 (((cl_word18 ((cl_number v 0 g).2)) 3 1) - 1)).1)), none]) (st' := []) (I := .invokevirtual 40) (pc0 := 47) (len := 3) rfl rfl rfl (e_cl_number hX_21 hp_25 hp_26 hp_27) ?_
  show WV _ _ _ 50 _ [.inl ((cl_number (cl_word19 ((cl_number (cl_word18 ((cl_number v 0 g).2)) 0 (((cl_word18 ((cl_number v 0 g).2)) 3 1) - 1)).2)) ((cl_number (cl_word18 ((cl_number v 0 g).2)) 0 (((cl_word18 ((cl_number v 0 g).2)) 3 1) - 1)).1) (((cl_word19 ((cl_number (cl_word18 ((cl_number v 0 g).2)) 0 (((cl_word18 ((cl_number v 0 g).2)) 3 1) - 1)).2)) 3 1) - 1)).1)] _ (cl_number (cl_word19 ((cl_number (cl_word18 ((cl_number v 0 g).2)) 0 (((cl_word18 ((cl_number v 0 g).2)) 3 1) - 1)).2)) ((cl_number (cl_word18 ((cl_number v 0 g).2)) 0 (((cl_word18 ((cl_number v 0 g).2)) 3 1) - 1)).1) (((cl_word19 ((cl_number (cl_word18 ((cl_number v 0 g).2)) 0 (((cl_word18 ((cl_number v 0 g).2)) 3 1) - 1)).2)) 3 1) - 1)).2 _
  have hX_28 : XI (cl_number (cl_word19 ((cl_number (cl_word18 ((cl_number v 0 g).2)) 0 (((cl_word18 ((cl_number v 0 g).2)) 3 1) - 1)).2)) ((cl_number (cl_word18 ((cl_number v 0 g).2)) 0 (((cl_word18 ((cl_number v 0 g).2)) 3 1) - 1)).1) (((cl_word19 ((cl_number (cl_word18 ((cl_number v 0 g).2)) 0 (((cl_word18 ((cl_number v 0 g).2)) 3 1) - 1)).2)) 3 1) - 1)).2 := i_cl_number (v := (cl_word19 ((cl_number (cl_word18 ((cl_number v 0 g).2)) 0 (((cl_word18 ((cl_number v 0 g).2)) 3 1) - 1)).2))) (l := (cl_number (cl_word18 ((cl_number v 0 g).2)) 0 (((cl_word18 ((cl_number v 0 g).2)) 3 1) - 1)).1) (g := (((cl_word19 ((cl_number (cl_word18 ((cl_number v 0 g).2)) 0 (((cl_word18 ((cl_number v 0 g).2)) 3 1) - 1)).2)) 3 1) - 1)) hX_21 hp_25 hp_26 hp_27
  have hb_29 : ((cl_number (cl_word19 ((cl_number (cl_word18 ((cl_number v 0 g).2)) 0 (((cl_word18 ((cl_number v 0 g).2)) 3 1) - 1)).2)) ((cl_number (cl_word18 ((cl_number v 0 g).2)) 0 (((cl_word18 ((cl_number v 0 g).2)) 3 1) - 1)).1) (((cl_word19 ((cl_number (cl_word18 ((cl_number v 0 g).2)) 0 (((cl_word18 ((cl_number v 0 g).2)) 3 1) - 1)).2)) 3 1) - 1)).2) 3 2 = ((cl_word19 ((cl_number (cl_word18 ((cl_number v 0 g).2)) 0 (((cl_word18 ((cl_number v 0 g).2)) 3 1) - 1)).2)) 3 2) := by rw [o_cl_number (by omega)] <;> rfl
  have hb_30 := n0_cl_number (v := (cl_word19 ((cl_number (cl_word18 ((cl_number v 0 g).2)) 0 (((cl_word18 ((cl_number v 0 g).2)) 3 1) - 1)).2))) (l := (cl_number (cl_word18 ((cl_number v 0 g).2)) 0 (((cl_word18 ((cl_number v 0 g).2)) 3 1) - 1)).1) (g := (((cl_word19 ((cl_number (cl_word18 ((cl_number v 0 g).2)) 0 (((cl_word18 ((cl_number v 0 g).2)) 3 1) - 1)).2)) 3 1) - 1)) hX_21 hp_25 hp_26 hp_27
  have hb_31 : ((cl_number (cl_word19 ((cl_number (cl_word18 ((cl_number v 0 g).2)) 0 (((cl_word18 ((cl_number v 0 g).2)) 3 1) - 1)).2)) ((cl_number (cl_word18 ((cl_number v 0 g).2)) 0 (((cl_word18 ((cl_number v 0 g).2)) 3 1) - 1)).1) (((cl_word19 ((cl_number (cl_word18 ((cl_number v 0 g).2)) 0 (((cl_word18 ((cl_number v 0 g).2)) 3 1) - 1)).2)) 3 1) - 1)).2 2 7) ≤ ((cl_number (cl_word19 ((cl_number (cl_word18 ((cl_number v 0 g).2)) 0 (((cl_word18 ((cl_number v 0 g).2)) 3 1) - 1)).2)) ((cl_number (cl_word18 ((cl_number v 0 g).2)) 0 (((cl_word18 ((cl_number v 0 g).2)) 3 1) - 1)).1) (((cl_word19 ((cl_number (cl_word18 ((cl_number v 0 g).2)) 0 (((cl_word18 ((cl_number v 0 g).2)) 3 1) - 1)).2)) 3 1) - 1)).2 2 4) := n1_cl_number (v := (cl_word19 ((cl_number (cl_word18 ((cl_number v 0 g).2)) 0 (((cl_word18 ((cl_number v 0 g).2)) 3 1) - 1)).2))) (l := (cl_number (cl_word18 ((cl_number v 0 g).2)) 0 (((cl_word18 ((cl_number v 0 g).2)) 3 1) - 1)).1) (g := (((cl_word19 ((cl_number (cl_word18 ((cl_number v 0 g).2)) 0 (((cl_word18 ((cl_number v 0 g).2)) 3 1) - 1)).2)) 3 1) - 1)) hX_21 hp_25 hp_26 hp_27
  refine r_ex 2 (pc' := 53) (lo' := [some (.inr (.inr (some 2))), some (.inr (.inr (some 28))), some (.inl g), some (.inl ((cl_number v 0 g).1)), some (.inl ((cl_number (cl_word18 ((cl_number v 0 g).2)) 0 (((cl_word18 ((cl_number v 0 g).2)) 3 1) - 1)).1)), some (.inl ((cl_number (cl_word19 ((cl_number (cl_word18 ((cl_number v 0 g).2)) 0 (((cl_word18 ((cl_number v 0 g).2)) 3 1) - 1)).2)) ((cl_number (cl_word18 ((cl_number v 0 g).2)) 0 (((cl_word18 ((cl_number v 0 g).2)) 3 1) - 1)).1) (((cl_word19 ((cl_number (cl_word18 ((cl_number v 0 g).2)) 0 (((cl_word18 ((cl_number v 0 g).2)) 3 1) - 1)).2)) 3 1) - 1)).1))]) (st' := [.inr (.inr (some 2))]) rfl ?_
  have hp_32 : (((cl_number (cl_word19 ((cl_number (cl_word18 ((cl_number v 0 g).2)) 0 (((cl_word18 ((cl_number v 0 g).2)) 3 1) - 1)).2)) ((cl_number (cl_word18 ((cl_number v 0 g).2)) 0 (((cl_word18 ((cl_number v 0 g).2)) 3 1) - 1)).1) (((cl_word19 ((cl_number (cl_word18 ((cl_number v 0 g).2)) 0 (((cl_word18 ((cl_number v 0 g).2)) 3 1) - 1)).2)) 3 1) - 1)).2) 2 7) ≤ (((cl_number (cl_word19 ((cl_number (cl_word18 ((cl_number v 0 g).2)) 0 (((cl_word18 ((cl_number v 0 g).2)) 3 1) - 1)).2)) ((cl_number (cl_word18 ((cl_number v 0 g).2)) 0 (((cl_word18 ((cl_number v 0 g).2)) 3 1) - 1)).1) (((cl_word19 ((cl_number (cl_word18 ((cl_number v 0 g).2)) 0 (((cl_word18 ((cl_number v 0 g).2)) 3 1) - 1)).2)) 3 1) - 1)).2) 2 4) := (show ((cl_number (cl_word19 ((cl_number (cl_word18 ((cl_number v 0 g).2)) 0 (((cl_word18 ((cl_number v 0 g).2)) 3 1) - 1)).2)) ((cl_number (cl_word18 ((cl_number v 0 g).2)) 0 (((cl_word18 ((cl_number v 0 g).2)) 3 1) - 1)).1) (((cl_word19 ((cl_number (cl_word18 ((cl_number v 0 g).2)) 0 (((cl_word18 ((cl_number v 0 g).2)) 3 1) - 1)).2)) 3 1) - 1)).2 2 7) ≤ ((cl_number (cl_word19 ((cl_number (cl_word18 ((cl_number v 0 g).2)) 0 (((cl_word18 ((cl_number v 0 g).2)) 3 1) - 1)).2)) ((cl_number (cl_word18 ((cl_number v 0 g).2)) 0 (((cl_word18 ((cl_number v 0 g).2)) 3 1) - 1)).1) (((cl_word19 ((cl_number (cl_word18 ((cl_number v 0 g).2)) 0 (((cl_word18 ((cl_number v 0 g).2)) 3 1) - 1)).2)) 3 1) - 1)).2 2 4) from (by first | assumption | omega | (unfold R32 at *; omega) | (unfold R64 at *; omega) | (simp only [R32, R64] at *; omega)))
  refine r_call (m := 41) (args := [.inr (.inr (some 2))]) (n' := 50) (pc' := 56) (lo' := [some (.inr (.inr (some 2))), some (.inr (.inr (some 28))), some (.inl g), some (.inl ((cl_number v 0 g).1)), some (.inl ((cl_number (cl_word18 ((cl_number v 0 g).2)) 0 (((cl_word18 ((cl_number v 0 g).2)) 3 1) - 1)).1)), some (.inl ((cl_number (cl_word19 ((cl_number (cl_word18 ((cl_number v 0 g).2)) 0 (((cl_word18 ((cl_number v 0 g).2)) 3 1) - 1)).2)) ((cl_number (cl_word18 ((cl_number v 0 g).2)) 0 (((cl_word18 ((cl_number v 0 g).2)) 3 1) - 1)).1) (((cl_word19 ((cl_number (cl_word18 ((cl_number v 0 g).2)) 0 (((cl_word18 ((cl_number v 0 g).2)) 3 1) - 1)).2)) 3 1) - 1)).1))]) (st' := []) (I := .invokevirtual 41) (pc0 := 53) (len := 3) rfl rfl rfl (e_cl_stop hX_28 hp_32) ?_
  show WV _ _ _ 56 _ [] _ (cl_stop ((cl_number (cl_word19 ((cl_number (cl_word18 ((cl_number v 0 g).2)) 0 (((cl_word18 ((cl_number v 0 g).2)) 3 1) - 1)).2)) ((cl_number (cl_word18 ((cl_number v 0 g).2)) 0 (((cl_word18 ((cl_number v 0 g).2)) 3 1) - 1)).1) (((cl_word19 ((cl_number (cl_word18 ((cl_number v 0 g).2)) 0 (((cl_word18 ((cl_number v 0 g).2)) 3 1) - 1)).2)) 3 1) - 1)).2)) _
  have hX_33 : XI (cl_stop ((cl_number (cl_word19 ((cl_number (cl_word18 ((cl_number v 0 g).2)) 0 (((cl_word18 ((cl_number v 0 g).2)) 3 1) - 1)).2)) ((cl_number (cl_word18 ((cl_number v 0 g).2)) 0 (((cl_word18 ((cl_number v 0 g).2)) 3 1) - 1)).1) (((cl_word19 ((cl_number (cl_word18 ((cl_number v 0 g).2)) 0 (((cl_word18 ((cl_number v 0 g).2)) 3 1) - 1)).2)) 3 1) - 1)).2)) := i_cl_stop (v := (cl_number (cl_word19 ((cl_number (cl_word18 ((cl_number v 0 g).2)) 0 (((cl_word18 ((cl_number v 0 g).2)) 3 1) - 1)).2)) ((cl_number (cl_word18 ((cl_number v 0 g).2)) 0 (((cl_word18 ((cl_number v 0 g).2)) 3 1) - 1)).1) (((cl_word19 ((cl_number (cl_word18 ((cl_number v 0 g).2)) 0 (((cl_word18 ((cl_number v 0 g).2)) 3 1) - 1)).2)) 3 1) - 1)).2) hX_28 hp_32
  have hb_34 : (cl_stop ((cl_number (cl_word19 ((cl_number (cl_word18 ((cl_number v 0 g).2)) 0 (((cl_word18 ((cl_number v 0 g).2)) 3 1) - 1)).2)) ((cl_number (cl_word18 ((cl_number v 0 g).2)) 0 (((cl_word18 ((cl_number v 0 g).2)) 3 1) - 1)).1) (((cl_word19 ((cl_number (cl_word18 ((cl_number v 0 g).2)) 0 (((cl_word18 ((cl_number v 0 g).2)) 3 1) - 1)).2)) 3 1) - 1)).2)) 3 2 = ((cl_number (cl_word19 ((cl_number (cl_word18 ((cl_number v 0 g).2)) 0 (((cl_word18 ((cl_number v 0 g).2)) 3 1) - 1)).2)) ((cl_number (cl_word18 ((cl_number v 0 g).2)) 0 (((cl_word18 ((cl_number v 0 g).2)) 3 1) - 1)).1) (((cl_word19 ((cl_number (cl_word18 ((cl_number v 0 g).2)) 0 (((cl_word18 ((cl_number v 0 g).2)) 3 1) - 1)).2)) 3 1) - 1)).2 3 2) := by rw [o_cl_stop (by omega)] <;> rfl
  have hb_35 : ((cl_stop ((cl_number (cl_word19 ((cl_number (cl_word18 ((cl_number v 0 g).2)) 0 (((cl_word18 ((cl_number v 0 g).2)) 3 1) - 1)).2)) ((cl_number (cl_word18 ((cl_number v 0 g).2)) 0 (((cl_word18 ((cl_number v 0 g).2)) 3 1) - 1)).1) (((cl_word19 ((cl_number (cl_word18 ((cl_number v 0 g).2)) 0 (((cl_word18 ((cl_number v 0 g).2)) 3 1) - 1)).2)) 3 1) - 1)).2)) 2 7) ≤ ((cl_stop ((cl_number (cl_word19 ((cl_number (cl_word18 ((cl_number v 0 g).2)) 0 (((cl_word18 ((cl_number v 0 g).2)) 3 1) - 1)).2)) ((cl_number (cl_word18 ((cl_number v 0 g).2)) 0 (((cl_word18 ((cl_number v 0 g).2)) 3 1) - 1)).1) (((cl_word19 ((cl_number (cl_word18 ((cl_number v 0 g).2)) 0 (((cl_word18 ((cl_number v 0 g).2)) 3 1) - 1)).2)) 3 1) - 1)).2)) 2 4) := n_cl_stop (v := (cl_number (cl_word19 ((cl_number (cl_word18 ((cl_number v 0 g).2)) 0 (((cl_word18 ((cl_number v 0 g).2)) 3 1) - 1)).2)) ((cl_number (cl_word18 ((cl_number v 0 g).2)) 0 (((cl_word18 ((cl_number v 0 g).2)) 3 1) - 1)).1) (((cl_word19 ((cl_number (cl_word18 ((cl_number v 0 g).2)) 0 (((cl_word18 ((cl_number v 0 g).2)) 3 1) - 1)).2)) 3 1) - 1)).2) hX_28 hp_32
  refine r_ex 2 (pc' := 60) (lo' := [some (.inr (.inr (some 2))), some (.inr (.inr (some 28))), some (.inl g), some (.inl ((cl_number v 0 g).1)), some (.inl ((cl_number (cl_word18 ((cl_number v 0 g).2)) 0 (((cl_word18 ((cl_number v 0 g).2)) 3 1) - 1)).1)), some (.inl ((cl_number (cl_word19 ((cl_number (cl_word18 ((cl_number v 0 g).2)) 0 (((cl_word18 ((cl_number v 0 g).2)) 3 1) - 1)).2)) ((cl_number (cl_word18 ((cl_number v 0 g).2)) 0 (((cl_word18 ((cl_number v 0 g).2)) 3 1) - 1)).1) (((cl_word19 ((cl_number (cl_word18 ((cl_number v 0 g).2)) 0 (((cl_word18 ((cl_number v 0 g).2)) 3 1) - 1)).2)) 3 1) - 1)).1))]) (st' := [.inl ((cl_stop ((cl_number (cl_word19 ((cl_number (cl_word18 ((cl_number v 0 g).2)) 0 (((cl_word18 ((cl_number v 0 g).2)) 3 1) - 1)).2)) ((cl_number (cl_word18 ((cl_number v 0 g).2)) 0 (((cl_word18 ((cl_number v 0 g).2)) 3 1) - 1)).1) (((cl_word19 ((cl_number (cl_word18 ((cl_number v 0 g).2)) 0 (((cl_word18 ((cl_number v 0 g).2)) 3 1) - 1)).2)) 3 1) - 1)).2)) 2 1)]) rfl ?_
  have hb_36 : 0 ≤ ((cl_stop ((cl_number (cl_word19 ((cl_number (cl_word18 ((cl_number v 0 g).2)) 0 (((cl_word18 ((cl_number v 0 g).2)) 3 1) - 1)).2)) ((cl_number (cl_word18 ((cl_number v 0 g).2)) 0 (((cl_word18 ((cl_number v 0 g).2)) 3 1) - 1)).1) (((cl_word19 ((cl_number (cl_word18 ((cl_number v 0 g).2)) 0 (((cl_word18 ((cl_number v 0 g).2)) 3 1) - 1)).2)) 3 1) - 1)).2)) 2 1) ∧ ((cl_stop ((cl_number (cl_word19 ((cl_number (cl_word18 ((cl_number v 0 g).2)) 0 (((cl_word18 ((cl_number v 0 g).2)) 3 1) - 1)).2)) ((cl_number (cl_word18 ((cl_number v 0 g).2)) 0 (((cl_word18 ((cl_number v 0 g).2)) 3 1) - 1)).1) (((cl_word19 ((cl_number (cl_word18 ((cl_number v 0 g).2)) 0 (((cl_word18 ((cl_number v 0 g).2)) 3 1) - 1)).2)) 3 1) - 1)).2)) 2 1) ≤ 3 := hX_33 2 1
  refine n_if_ne (pc0 := 60) (len := 3) (t := 72) rfl (by first | assumption | omega | (unfold R32 at *; omega) | (unfold R64 at *; omega) | (simp only [R32, R64] at *; omega)) (fun h_60 => ?_) (fun h_60 => ?_)
  · show WV _ _ _ 72 _ _ _ _ _
    rw [if_neg h_60] at hQ
    refine r_ret (rr := none) (I := .return_) (pc0 := 72) (len := 1) rfl rfl ?_
    exact hQ hX_33 (show ((cl_stop ((cl_number (cl_word19 ((cl_number (cl_word18 ((cl_number v 0 g).2)) 0 (((cl_word18 ((cl_number v 0 g).2)) 3 1) - 1)).2)) ((cl_number (cl_word18 ((cl_number v 0 g).2)) 0 (((cl_word18 ((cl_number v 0 g).2)) 3 1) - 1)).1) (((cl_word19 ((cl_number (cl_word18 ((cl_number v 0 g).2)) 0 (((cl_word18 ((cl_number v 0 g).2)) 3 1) - 1)).2)) 3 1) - 1)).2)) 2 7) ≤ ((cl_stop ((cl_number (cl_word19 ((cl_number (cl_word18 ((cl_number v 0 g).2)) 0 (((cl_word18 ((cl_number v 0 g).2)) 3 1) - 1)).2)) ((cl_number (cl_word18 ((cl_number v 0 g).2)) 0 (((cl_word18 ((cl_number v 0 g).2)) 3 1) - 1)).1) (((cl_word19 ((cl_number (cl_word18 ((cl_number v 0 g).2)) 0 (((cl_word18 ((cl_number v 0 g).2)) 3 1) - 1)).2)) 3 1) - 1)).2)) 2 4) from (by first | assumption | omega | (unfold R32 at *; omega) | (unfold R64 at *; omega) | (simp only [R32, R64] at *; omega)))
  · show WV _ _ _ 63 _ _ _ _ _
    rw [if_pos h_60] at hQ
    refine r_ex 4 (pc' := 69) (lo' := [some (.inr (.inr (some 2))), some (.inr (.inr (some 28))), some (.inl g), some (.inl ((cl_number v 0 g).1)), some (.inl ((cl_number (cl_word18 ((cl_number v 0 g).2)) 0 (((cl_word18 ((cl_number v 0 g).2)) 3 1) - 1)).1)), some (.inl ((cl_number (cl_word19 ((cl_number (cl_word18 ((cl_number v 0 g).2)) 0 (((cl_word18 ((cl_number v 0 g).2)) 3 1) - 1)).2)) ((cl_number (cl_word18 ((cl_number v 0 g).2)) 0 (((cl_word18 ((cl_number v 0 g).2)) 3 1) - 1)).1) (((cl_word19 ((cl_number (cl_word18 ((cl_number v 0 g).2)) 0 (((cl_word18 ((cl_number v 0 g).2)) 3 1) - 1)).2)) 3 1) - 1)).1))]) (st' := [.inl ((cl_number (cl_word19 ((cl_number (cl_word18 ((cl_number v 0 g).2)) 0 (((cl_word18 ((cl_number v 0 g).2)) 3 1) - 1)).2)) ((cl_number (cl_word18 ((cl_number v 0 g).2)) 0 (((cl_word18 ((cl_number v 0 g).2)) 3 1) - 1)).1) (((cl_word19 ((cl_number (cl_word18 ((cl_number v 0 g).2)) 0 (((cl_word18 ((cl_number v 0 g).2)) 3 1) - 1)).2)) 3 1) - 1)).1), .inl ((cl_number (cl_word18 ((cl_number v 0 g).2)) 0 (((cl_word18 ((cl_number v 0 g).2)) 3 1) - 1)).1), .inl ((cl_number v 0 g).1), .inr (.inr (some 28))]) rfl ?_
    have hp_37 : 0 ≤ ((cl_number v 0 g).1) ∧ ((cl_number v 0 g).1) ≤ 8 := (by first | assumption | omega | (unfold R32 at *; omega) | (unfold R64 at *; omega) | (simp only [R32, R64] at *; omega))
    have hp_38 : 0 ≤ ((cl_number (cl_word18 ((cl_number v 0 g).2)) 0 (((cl_word18 ((cl_number v 0 g).2)) 3 1) - 1)).1) ∧ ((cl_number (cl_word18 ((cl_number v 0 g).2)) 0 (((cl_word18 ((cl_number v 0 g).2)) 3 1) - 1)).1) ≤ 299 := (by first | assumption | omega | (unfold R32 at *; omega) | (unfold R64 at *; omega) | (simp only [R32, R64] at *; omega))
    have hp_39 : 0 ≤ ((cl_number (cl_word19 ((cl_number (cl_word18 ((cl_number v 0 g).2)) 0 (((cl_word18 ((cl_number v 0 g).2)) 3 1) - 1)).2)) ((cl_number (cl_word18 ((cl_number v 0 g).2)) 0 (((cl_word18 ((cl_number v 0 g).2)) 3 1) - 1)).1) (((cl_word19 ((cl_number (cl_word18 ((cl_number v 0 g).2)) 0 (((cl_word18 ((cl_number v 0 g).2)) 3 1) - 1)).2)) 3 1) - 1)).1) ∧ ((cl_number (cl_word19 ((cl_number (cl_word18 ((cl_number v 0 g).2)) 0 (((cl_word18 ((cl_number v 0 g).2)) 3 1) - 1)).2)) ((cl_number (cl_word18 ((cl_number v 0 g).2)) 0 (((cl_word18 ((cl_number v 0 g).2)) 3 1) - 1)).1) (((cl_word19 ((cl_number (cl_word18 ((cl_number v 0 g).2)) 0 (((cl_word18 ((cl_number v 0 g).2)) 3 1) - 1)).2)) 3 1) - 1)).1) ≤ 299 := (by first | assumption | omega | (unfold R32 at *; omega) | (unfold R64 at *; omega) | (simp only [R32, R64] at *; omega))
    refine r_call (m := 49) (args := [.inr (.inr (some 28)), .inl ((cl_number v 0 g).1), .inl ((cl_number (cl_word18 ((cl_number v 0 g).2)) 0 (((cl_word18 ((cl_number v 0 g).2)) 3 1) - 1)).1), .inl ((cl_number (cl_word19 ((cl_number (cl_word18 ((cl_number v 0 g).2)) 0 (((cl_word18 ((cl_number v 0 g).2)) 3 1) - 1)).2)) ((cl_number (cl_word18 ((cl_number v 0 g).2)) 0 (((cl_word18 ((cl_number v 0 g).2)) 3 1) - 1)).1) (((cl_word19 ((cl_number (cl_word18 ((cl_number v 0 g).2)) 0 (((cl_word18 ((cl_number v 0 g).2)) 3 1) - 1)).2)) 3 1) - 1)).1)]) (n' := 50) (pc' := 72) (lo' := [some (.inr (.inr (some 2))), some (.inr (.inr (some 28))), some (.inl g), some (.inl ((cl_number v 0 g).1)), some (.inl ((cl_number (cl_word18 ((cl_number v 0 g).2)) 0 (((cl_word18 ((cl_number v 0 g).2)) 3 1) - 1)).1)), some (.inl ((cl_number (cl_word19 ((cl_number (cl_word18 ((cl_number v 0 g).2)) 0 (((cl_word18 ((cl_number v 0 g).2)) 3 1) - 1)).2)) ((cl_number (cl_word18 ((cl_number v 0 g).2)) 0 (((cl_word18 ((cl_number v 0 g).2)) 3 1) - 1)).1) (((cl_word19 ((cl_number (cl_word18 ((cl_number v 0 g).2)) 0 (((cl_word18 ((cl_number v 0 g).2)) 3 1) - 1)).2)) 3 1) - 1)).1))]) (st' := []) (I := .invokevirtual 49) (pc0 := 69) (len := 3) rfl rfl rfl (e_cl_spAdd28 hX_33 hp_37 hp_38 hp_39) ?_
    show WV _ _ _ 72 _ [] _ (cl_spAdd28 (cl_stop ((cl_number (cl_word19 ((cl_number (cl_word18 ((cl_number v 0 g).2)) 0 (((cl_word18 ((cl_number v 0 g).2)) 3 1) - 1)).2)) ((cl_number (cl_word18 ((cl_number v 0 g).2)) 0 (((cl_word18 ((cl_number v 0 g).2)) 3 1) - 1)).1) (((cl_word19 ((cl_number (cl_word18 ((cl_number v 0 g).2)) 0 (((cl_word18 ((cl_number v 0 g).2)) 3 1) - 1)).2)) 3 1) - 1)).2)) ((cl_number v 0 g).1) ((cl_number (cl_word18 ((cl_number v 0 g).2)) 0 (((cl_word18 ((cl_number v 0 g).2)) 3 1) - 1)).1) ((cl_number (cl_word19 ((cl_number (cl_word18 ((cl_number v 0 g).2)) 0 (((cl_word18 ((cl_number v 0 g).2)) 3 1) - 1)).2)) ((cl_number (cl_word18 ((cl_number v 0 g).2)) 0 (((cl_word18 ((cl_number v 0 g).2)) 3 1) - 1)).1) (((cl_word19 ((cl_number (cl_word18 ((cl_number v 0 g).2)) 0 (((cl_word18 ((cl_number v 0 g).2)) 3 1) - 1)).2)) 3 1) - 1)).1)) _
    have hX_40 : XI (cl_spAdd28 (cl_stop ((cl_number (cl_word19 ((cl_number (cl_word18 ((cl_number v 0 g).2)) 0 (((cl_word18 ((cl_number v 0 g).2)) 3 1) - 1)).2)) ((cl_number (cl_word18 ((cl_number v 0 g).2)) 0 (((cl_word18 ((cl_number v 0 g).2)) 3 1) - 1)).1) (((cl_word19 ((cl_number (cl_word18 ((cl_number v 0 g).2)) 0 (((cl_word18 ((cl_number v 0 g).2)) 3 1) - 1)).2)) 3 1) - 1)).2)) ((cl_number v 0 g).1) ((cl_number (cl_word18 ((cl_number v 0 g).2)) 0 (((cl_word18 ((cl_number v 0 g).2)) 3 1) - 1)).1) ((cl_number (cl_word19 ((cl_number (cl_word18 ((cl_number v 0 g).2)) 0 (((cl_word18 ((cl_number v 0 g).2)) 3 1) - 1)).2)) ((cl_number (cl_word18 ((cl_number v 0 g).2)) 0 (((cl_word18 ((cl_number v 0 g).2)) 3 1) - 1)).1) (((cl_word19 ((cl_number (cl_word18 ((cl_number v 0 g).2)) 0 (((cl_word18 ((cl_number v 0 g).2)) 3 1) - 1)).2)) 3 1) - 1)).1)) := i_cl_spAdd28 (v := (cl_stop ((cl_number (cl_word19 ((cl_number (cl_word18 ((cl_number v 0 g).2)) 0 (((cl_word18 ((cl_number v 0 g).2)) 3 1) - 1)).2)) ((cl_number (cl_word18 ((cl_number v 0 g).2)) 0 (((cl_word18 ((cl_number v 0 g).2)) 3 1) - 1)).1) (((cl_word19 ((cl_number (cl_word18 ((cl_number v 0 g).2)) 0 (((cl_word18 ((cl_number v 0 g).2)) 3 1) - 1)).2)) 3 1) - 1)).2))) (c := (cl_number v 0 g).1) (s := (cl_number (cl_word18 ((cl_number v 0 g).2)) 0 (((cl_word18 ((cl_number v 0 g).2)) 3 1) - 1)).1) (n := (cl_number (cl_word19 ((cl_number (cl_word18 ((cl_number v 0 g).2)) 0 (((cl_word18 ((cl_number v 0 g).2)) 3 1) - 1)).2)) ((cl_number (cl_word18 ((cl_number v 0 g).2)) 0 (((cl_word18 ((cl_number v 0 g).2)) 3 1) - 1)).1) (((cl_word19 ((cl_number (cl_word18 ((cl_number v 0 g).2)) 0 (((cl_word18 ((cl_number v 0 g).2)) 3 1) - 1)).2)) 3 1) - 1)).1) hX_33 hp_37 hp_38 hp_39
    have hb_41 : (cl_spAdd28 (cl_stop ((cl_number (cl_word19 ((cl_number (cl_word18 ((cl_number v 0 g).2)) 0 (((cl_word18 ((cl_number v 0 g).2)) 3 1) - 1)).2)) ((cl_number (cl_word18 ((cl_number v 0 g).2)) 0 (((cl_word18 ((cl_number v 0 g).2)) 3 1) - 1)).1) (((cl_word19 ((cl_number (cl_word18 ((cl_number v 0 g).2)) 0 (((cl_word18 ((cl_number v 0 g).2)) 3 1) - 1)).2)) 3 1) - 1)).2)) ((cl_number v 0 g).1) ((cl_number (cl_word18 ((cl_number v 0 g).2)) 0 (((cl_word18 ((cl_number v 0 g).2)) 3 1) - 1)).1) ((cl_number (cl_word19 ((cl_number (cl_word18 ((cl_number v 0 g).2)) 0 (((cl_word18 ((cl_number v 0 g).2)) 3 1) - 1)).2)) ((cl_number (cl_word18 ((cl_number v 0 g).2)) 0 (((cl_word18 ((cl_number v 0 g).2)) 3 1) - 1)).1) (((cl_word19 ((cl_number (cl_word18 ((cl_number v 0 g).2)) 0 (((cl_word18 ((cl_number v 0 g).2)) 3 1) - 1)).2)) 3 1) - 1)).1)) 2 7 = ((cl_stop ((cl_number (cl_word19 ((cl_number (cl_word18 ((cl_number v 0 g).2)) 0 (((cl_word18 ((cl_number v 0 g).2)) 3 1) - 1)).2)) ((cl_number (cl_word18 ((cl_number v 0 g).2)) 0 (((cl_word18 ((cl_number v 0 g).2)) 3 1) - 1)).1) (((cl_word19 ((cl_number (cl_word18 ((cl_number v 0 g).2)) 0 (((cl_word18 ((cl_number v 0 g).2)) 3 1) - 1)).2)) 3 1) - 1)).2)) 2 7) := by rw [o_cl_spAdd28 (by omega)] <;> rfl
    have hb_42 : (cl_spAdd28 (cl_stop ((cl_number (cl_word19 ((cl_number (cl_word18 ((cl_number v 0 g).2)) 0 (((cl_word18 ((cl_number v 0 g).2)) 3 1) - 1)).2)) ((cl_number (cl_word18 ((cl_number v 0 g).2)) 0 (((cl_word18 ((cl_number v 0 g).2)) 3 1) - 1)).1) (((cl_word19 ((cl_number (cl_word18 ((cl_number v 0 g).2)) 0 (((cl_word18 ((cl_number v 0 g).2)) 3 1) - 1)).2)) 3 1) - 1)).2)) ((cl_number v 0 g).1) ((cl_number (cl_word18 ((cl_number v 0 g).2)) 0 (((cl_word18 ((cl_number v 0 g).2)) 3 1) - 1)).1) ((cl_number (cl_word19 ((cl_number (cl_word18 ((cl_number v 0 g).2)) 0 (((cl_word18 ((cl_number v 0 g).2)) 3 1) - 1)).2)) ((cl_number (cl_word18 ((cl_number v 0 g).2)) 0 (((cl_word18 ((cl_number v 0 g).2)) 3 1) - 1)).1) (((cl_word19 ((cl_number (cl_word18 ((cl_number v 0 g).2)) 0 (((cl_word18 ((cl_number v 0 g).2)) 3 1) - 1)).2)) 3 1) - 1)).1)) 2 4 = ((cl_stop ((cl_number (cl_word19 ((cl_number (cl_word18 ((cl_number v 0 g).2)) 0 (((cl_word18 ((cl_number v 0 g).2)) 3 1) - 1)).2)) ((cl_number (cl_word18 ((cl_number v 0 g).2)) 0 (((cl_word18 ((cl_number v 0 g).2)) 3 1) - 1)).1) (((cl_word19 ((cl_number (cl_word18 ((cl_number v 0 g).2)) 0 (((cl_word18 ((cl_number v 0 g).2)) 3 1) - 1)).2)) 3 1) - 1)).2)) 2 4) := by rw [o_cl_spAdd28 (by omega)] <;> rfl
    have hb_43 : (cl_spAdd28 (cl_stop ((cl_number (cl_word19 ((cl_number (cl_word18 ((cl_number v 0 g).2)) 0 (((cl_word18 ((cl_number v 0 g).2)) 3 1) - 1)).2)) ((cl_number (cl_word18 ((cl_number v 0 g).2)) 0 (((cl_word18 ((cl_number v 0 g).2)) 3 1) - 1)).1) (((cl_word19 ((cl_number (cl_word18 ((cl_number v 0 g).2)) 0 (((cl_word18 ((cl_number v 0 g).2)) 3 1) - 1)).2)) 3 1) - 1)).2)) ((cl_number v 0 g).1) ((cl_number (cl_word18 ((cl_number v 0 g).2)) 0 (((cl_word18 ((cl_number v 0 g).2)) 3 1) - 1)).1) ((cl_number (cl_word19 ((cl_number (cl_word18 ((cl_number v 0 g).2)) 0 (((cl_word18 ((cl_number v 0 g).2)) 3 1) - 1)).2)) ((cl_number (cl_word18 ((cl_number v 0 g).2)) 0 (((cl_word18 ((cl_number v 0 g).2)) 3 1) - 1)).1) (((cl_word19 ((cl_number (cl_word18 ((cl_number v 0 g).2)) 0 (((cl_word18 ((cl_number v 0 g).2)) 3 1) - 1)).2)) 3 1) - 1)).1)) 3 2 = ((cl_stop ((cl_number (cl_word19 ((cl_number (cl_word18 ((cl_number v 0 g).2)) 0 (((cl_word18 ((cl_number v 0 g).2)) 3 1) - 1)).2)) ((cl_number (cl_word18 ((cl_number v 0 g).2)) 0 (((cl_word18 ((cl_number v 0 g).2)) 3 1) - 1)).1) (((cl_word19 ((cl_number (cl_word18 ((cl_number v 0 g).2)) 0 (((cl_word18 ((cl_number v 0 g).2)) 3 1) - 1)).2)) 3 1) - 1)).2)) 3 2) := by rw [o_cl_spAdd28 (by omega)] <;> rfl
    refine r_ret (rr := none) (I := .return_) (pc0 := 72) (len := 1) rfl rfl ?_
    exact hQ hX_40 (show ((cl_spAdd28 (cl_stop ((cl_number (cl_word19 ((cl_number (cl_word18 ((cl_number v 0 g).2)) 0 (((cl_word18 ((cl_number v 0 g).2)) 3 1) - 1)).2)) ((cl_number (cl_word18 ((cl_number v 0 g).2)) 0 (((cl_word18 ((cl_number v 0 g).2)) 3 1) - 1)).1) (((cl_word19 ((cl_number (cl_word18 ((cl_number v 0 g).2)) 0 (((cl_word18 ((cl_number v 0 g).2)) 3 1) - 1)).2)) 3 1) - 1)).2)) ((cl_number v 0 g).1) ((cl_number (cl_word18 ((cl_number v 0 g).2)) 0 (((cl_word18 ((cl_number v 0 g).2)) 3 1) - 1)).1) ((cl_number (cl_word19 ((cl_number (cl_word18 ((cl_number v 0 g).2)) 0 (((cl_word18 ((cl_number v 0 g).2)) 3 1) - 1)).2)) ((cl_number (cl_word18 ((cl_number v 0 g).2)) 0 (((cl_word18 ((cl_number v 0 g).2)) 3 1) - 1)).1) (((cl_word19 ((cl_number (cl_word18 ((cl_number v 0 g).2)) 0 (((cl_word18 ((cl_number v 0 g).2)) 3 1) - 1)).2)) 3 1) - 1)).1)) 2 7) ≤ ((cl_spAdd28 (cl_stop ((cl_number (cl_word19 ((cl_number (cl_word18 ((cl_number v 0 g).2)) 0 (((cl_word18 ((cl_number v 0 g).2)) 3 1) - 1)).2)) ((cl_number (cl_word18 ((cl_number v 0 g).2)) 0 (((cl_word18 ((cl_number v 0 g).2)) 3 1) - 1)).1) (((cl_word19 ((cl_number (cl_word18 ((cl_number v 0 g).2)) 0 (((cl_word18 ((cl_number v 0 g).2)) 3 1) - 1)).2)) 3 1) - 1)).2)) ((cl_number v 0 g).1) ((cl_number (cl_word18 ((cl_number v 0 g).2)) 0 (((cl_word18 ((cl_number v 0 g).2)) 3 1) - 1)).1) ((cl_number (cl_word19 ((cl_number (cl_word18 ((cl_number v 0 g).2)) 0 (((cl_word18 ((cl_number v 0 g).2)) 3 1) - 1)).2)) ((cl_number (cl_word18 ((cl_number v 0 g).2)) 0 (((cl_word18 ((cl_number v 0 g).2)) 3 1) - 1)).1) (((cl_word19 ((cl_number (cl_word18 ((cl_number v 0 g).2)) 0 (((cl_word18 ((cl_number v 0 g).2)) 3 1) - 1)).2)) 3 1) - 1)).1)) 2 4) from (by first | assumption | omega | (unfold R32 at *; omega) | (unfold R64 at *; omega) | (simp only [R32, R64] at *; omega)))

theorem e_cl_readSpell28 {X : PX} {d : Nat} {v : VS} {g : Int} (hX : XI v) (hp_a : -1 ≤ g ∧ g ≤ 8) (hp_b : (v 2 7) ≤ (v 2 4)) : EvV X (d + 1 + 1 + 1 + 1 + 1 + 1) 50 [.inr (.inr (some 2)), .inr (.inr (some 28)), .inl g] 1 v none 1 (cl_readSpell28 v g) := EvV.of (w_cl_readSpell28 hX hp_a hp_b (fun _ _ => ⟨rfl, rfl, rfl⟩))

theorem i_cl_readSpell28 {v : VS} {g : Int} (hX : XI v) (hp_a : -1 ≤ g ∧ g ≤ 8) (hp_b : (v 2 7) ≤ (v 2 4)) : XI (cl_readSpell28 v g) := by
  have q : WV (0, fun _ => 0, none) (0 + 1 + 1 + 1 + 1 + 1 + 1) 50 0 [some (.inr (.inr (some 2))), some (.inr (.inr (some 28))), some (.inl g), none, none, none] [] 1 v (fun _ _ _ => XI (cl_readSpell28 v g)) := w_cl_readSpell28 (X := (0, fun _ => 0, none)) (d := 0) hX hp_a hp_b (fun q _ => q)
  obtain ⟨_, _, _, _, _, _, _, q⟩ := q
  exact q

theorem n_cl_readSpell28 {v : VS} {g : Int} (hX : XI v) (hp_a : -1 ≤ g ∧ g ≤ 8) (hp_b : (v 2 7) ≤ (v 2 4)) : ((cl_readSpell28 v g) 2 7) ≤ ((cl_readSpell28 v g) 2 4) := by
  have q : WV (0, fun _ => 0, none) (0 + 1 + 1 + 1 + 1 + 1 + 1) 50 0 [some (.inr (.inr (some 2))), some (.inr (.inr (some 28))), some (.inl g), none, none, none] [] 1 v (fun _ _ _ => ((cl_readSpell28 v g) 2 7) ≤ ((cl_readSpell28 v g) 2 4)) := w_cl_readSpell28 (X := (0, fun _ => 0, none)) (d := 0) hX hp_a hp_b (fun _ q => q)
  obtain ⟨_, _, _, _, _, _, _, q⟩ := q
  exact q

theorem o_cl_readSpell28 {rk : Nat} {v : VS} {g : Int} (hk : (rk < 2 ∨ 2 < rk) ∧ (rk < 28 ∨ 31 < rk)) : (cl_readSpell28 v g) rk = v rk := by
  unfold cl_readSpell28
  by_cases hc_ : ((cl_stop ((cl_number (cl_word19 ((cl_number (cl_word18 ((cl_number v 0 g).2)) 0 (((cl_word18 ((cl_number v 0 g).2)) 3 1) - 1)).2)) ((cl_number (cl_word18 ((cl_number v 0 g).2)) 0 (((cl_word18 ((cl_number v 0 g).2)) 3 1) - 1)).1) (((cl_word19 ((cl_number (cl_word18 ((cl_number v 0 g).2)) 0 (((cl_word18 ((cl_number v 0 g).2)) 3 1) - 1)).2)) 3 1) - 1)).2)) 2 1) = 0
  · rw [if_pos hc_]
    all_goals (show (cl_spAdd28 (cl_stop ((cl_number (cl_word19 ((cl_number (cl_word18 ((cl_number v 0 g).2)) 0 (((cl_word18 ((cl_number v 0 g).2)) 3 1) - 1)).2)) ((cl_number (cl_word18 ((cl_number v 0 g).2)) 0 (((cl_word18 ((cl_number v 0 g).2)) 3 1) - 1)).1) (((cl_word19 ((cl_number (cl_word18 ((cl_number v 0 g).2)) 0 (((cl_word18 ((cl_number v 0 g).2)) 3 1) - 1)).2)) 3 1) - 1)).2)) ((cl_number v 0 g).1) ((cl_number (cl_word18 ((cl_number v 0 g).2)) 0 (((cl_word18 ((cl_number v 0 g).2)) 3 1) - 1)).1) ((cl_number (cl_word19 ((cl_number (cl_word18 ((cl_number v 0 g).2)) 0 (((cl_word18 ((cl_number v 0 g).2)) 3 1) - 1)).2)) ((cl_number (cl_word18 ((cl_number v 0 g).2)) 0 (((cl_word18 ((cl_number v 0 g).2)) 3 1) - 1)).1) (((cl_word19 ((cl_number (cl_word18 ((cl_number v 0 g).2)) 0 (((cl_word18 ((cl_number v 0 g).2)) 3 1) - 1)).2)) 3 1) - 1)).1)) rk = _)
    all_goals (rw [o_cl_spAdd28 (by omega), o_cl_stop (by omega), o_cl_number (by omega), o_cl_word19 (by omega), o_cl_number (by omega), o_cl_word18 (by omega), o_cl_number (by omega)])
  · rw [if_neg hc_]
    all_goals (show (cl_stop ((cl_number (cl_word19 ((cl_number (cl_word18 ((cl_number v 0 g).2)) 0 (((cl_word18 ((cl_number v 0 g).2)) 3 1) - 1)).2)) ((cl_number (cl_word18 ((cl_number v 0 g).2)) 0 (((cl_word18 ((cl_number v 0 g).2)) 3 1) - 1)).1) (((cl_word19 ((cl_number (cl_word18 ((cl_number v 0 g).2)) 0 (((cl_word18 ((cl_number v 0 g).2)) 3 1) - 1)).2)) 3 1) - 1)).2)) rk = _)
    all_goals (rw [o_cl_stop (by omega), o_cl_number (by omega), o_cl_word19 (by omega), o_cl_number (by omega), o_cl_word18 (by omega), o_cl_number (by omega)])

theorem fail_id {v : VS} {k : Int} (h : ¬ v 2 1 = 0) : cl_fail v k = v := by
  unfold cl_fail
  rw [if_neg h]
theorem word15_id {v : VS} (h : ¬ v 2 1 = 0) : cl_word15 v = v := by
  unfold cl_word15
  rw [if_neg h, fail_id h]
theorem word23_id {v : VS} (h : ¬ v 2 1 = 0) : cl_word23 v = v := by
  unfold cl_word23
  rw [if_neg h, fail_id h]
theorem number_id {v : VS} {l g : Int} (h : ¬ v 2 1 = 0) : cl_number v l g = (l, v) := by
  unfold cl_number
  rw [if_neg h]
theorem stop_id {v : VS} (h : ¬ v 2 1 = 0) : cl_stop v = v := by
  unfold cl_stop
  rw [if_neg h, fail_id h]
theorem fail_nz {v : VS} {k : Int} (hk : ¬ k = 0) : ¬ (cl_fail v k) 2 1 = 0 := by
  unfold cl_fail
  by_cases h : v 2 1 = 0
  · rw [if_pos h]; exact hk
  · rw [if_neg h]; exact h
theorem rs_lt {v : VS} {x y : Int} (h : (cl_stop ((cl_number (cl_word23 ((cl_number (cl_word15 ((cl_number (cl_beginLine v (v 12 0) 4) 0 x).2)) 0 y).2)) 1 99).2)) 2 1 = 0) : v 12 0 < 4 := by
  apply Int.lt_of_not_ge
  intro hh
  have hb : cl_beginLine v (v 12 0) 4 = cl_fail v 3 := by
    unfold cl_beginLine
    rw [if_neg (by omega)]
  have hf : ¬ (cl_fail v 3) 2 1 = 0 := fail_nz (by omega)
  rw [hb, number_id hf] at h
  simp only at h
  rw [word15_id hf, number_id hf] at h
  simp only at h
  rw [word23_id hf, number_id hf] at h
  simp only at h
  rw [stop_id hf] at h
  exact hf h

def cl_readStart (v : VS)  : VS :=
  (if ((cl_stop ((cl_number (cl_word23 ((cl_number (cl_word15 ((cl_number (cl_beginLine v (v 12 0) 4) 0 (((cl_beginLine v (v 12 0) 4) 3 0) - 1)).2)) 0 (((cl_word15 ((cl_number (cl_beginLine v (v 12 0) 4) 0 (((cl_beginLine v (v 12 0) 4) 3 0) - 1)).2)) 3 1) - 1)).2)) 1 99).2)) 2 1) = 0 then (cl_stAdd12 (cl_stop ((cl_number (cl_word23 ((cl_number (cl_word15 ((cl_number (cl_beginLine v (v 12 0) 4) 0 (((cl_beginLine v (v 12 0) 4) 3 0) - 1)).2)) 0 (((cl_word15 ((cl_number (cl_beginLine v (v 12 0) 4) 0 (((cl_beginLine v (v 12 0) 4) 3 0) - 1)).2)) 3 1) - 1)).2)) 1 99).2)) ((cl_number (cl_beginLine v (v 12 0) 4) 0 (((cl_beginLine v (v 12 0) 4) 3 0) - 1)).1) ((cl_number (cl_word15 ((cl_number (cl_beginLine v (v 12 0) 4) 0 (((cl_beginLine v (v 12 0) 4) 3 0) - 1)).2)) 0 (((cl_word15 ((cl_number (cl_beginLine v (v 12 0) 4) 0 (((cl_beginLine v (v 12 0) 4) 3 0) - 1)).2)) 3 1) - 1)).1) ((cl_number (cl_word23 ((cl_number (cl_word15 ((cl_number (cl_beginLine v (v 12 0) 4) 0 (((cl_beginLine v (v 12 0) 4) 3 0) - 1)).2)) 0 (((cl_word15 ((cl_number (cl_beginLine v (v 12 0) 4) 0 (((cl_beginLine v (v 12 0) 4) 3 0) - 1)).2)) 3 1) - 1)).2)) 1 99).1)) else (cl_stop ((cl_number (cl_word23 ((cl_number (cl_word15 ((cl_number (cl_beginLine v (v 12 0) 4) 0 (((cl_beginLine v (v 12 0) 4) 3 0) - 1)).2)) 0 (((cl_word15 ((cl_number (cl_beginLine v (v 12 0) 4) 0 (((cl_beginLine v (v 12 0) 4) 3 0) - 1)).2)) 3 1) - 1)).2)) 1 99).2)))
theorem w_cl_readStart {X : PX} {d : Nat} {v : VS}  (hX : XI v) (hp_a : (v 2 7) ≤ (v 2 4)) {Q : Option PV → Nat → VS → Prop} (hQ : XI (cl_readStart v) → (((cl_readStart v) 2 7) ≤ ((cl_readStart v) 2 4)) → Q none 1 (cl_readStart v)) : WV X (d + 1 + 1 + 1 + 1 + 1 + 1) 51 0 [some (.inr (.inr (some 2))), none, none, none] [] 1 v Q := by
  rw [cl_readStart] at hQ
  refine r_ex 6 (pc' := 12) (lo' := [some (.inr (.inr (some 2))), none, none, none]) (st' := [.inl 4, .inl (v 12 0), .inr (.inr (some 2))]) rfl ?_
  have hb_1 : 0 ≤ (v 12 0) ∧ (v 12 0) ≤ 4 := hX 12 0
  have hp_2 : R32 (v 12 0) := (by first | assumption | omega | (unfold R32 at *; omega) | (unfold R64 at *; omega) | (simp only [R32, R64] at *; omega))
  have hp_3 : R32 (4 : Int) := (by first | assumption | omega | (unfold R32 at *; omega) | (unfold R64 at *; omega) | (simp only [R32, R64] at *; omega))
  have hp_4 : (v 2 7) ≤ (v 2 4) := (show (v 2 7) ≤ (v 2 4) from (by first | assumption | omega | (unfold R32 at *; omega) | (unfold R64 at *; omega) | (simp only [R32, R64] at *; omega)))
  refine r_call (m := 43) (args := [.inr (.inr (some 2)), .inl (v 12 0), .inl 4]) (n' := 51) (pc' := 15) (lo' := [some (.inr (.inr (some 2))), none, none, none]) (st' := []) (I := .invokevirtual 43) (pc0 := 12) (len := 3) rfl rfl rfl (e_cl_beginLine hX hp_2 hp_3 hp_4) ?_
  show WV _ _ _ 15 _ [] _ (cl_beginLine v (v 12 0) 4) _
  have hX_5 : XI (cl_beginLine v (v 12 0) 4) := i_cl_beginLine (v := v) (n := (v 12 0)) (s := 4) hX hp_2 hp_3 hp_4
  have hb_6 : (cl_beginLine v (v 12 0) 4) 3 2 = (v 3 2) := by rw [o_cl_beginLine (by omega)] <;> rfl
  have hb_7 : (cl_beginLine v (v 12 0) 4) 12 0 = (v 12 0) := by rw [o_cl_beginLine (by omega)] <;> rfl
  have hb_8 : ((cl_beginLine v (v 12 0) 4) 2 7) ≤ ((cl_beginLine v (v 12 0) 4) 2 4) := n_cl_beginLine (v := v) (n := (v 12 0)) (s := 4) hX hp_2 hp_3 hp_4
  refine r_ex 7 (pc' := 26) (lo' := [some (.inr (.inr (some 2))), none, none, none]) (st' := [.inl (((cl_beginLine v (v 12 0) 4) 3 0) - 1), .inl 0, .inr (.inr (some 2))]) rfl ?_
  have hb_9 : 0 ≤ ((cl_beginLine v (v 12 0) 4) 3 0) ∧ ((cl_beginLine v (v 12 0) 4) 3 0) ≤ 9 := hX_5 3 0
  have hp_10 : 0 ≤ (0 : Int) ∧ (0 : Int) ≤ 300 := (by first | assumption | omega | (unfold R32 at *; omega) | (unfold R64 at *; omega) | (simp only [R32, R64] at *; omega))
  have hp_11 : -1 ≤ (((cl_beginLine v (v 12 0) 4) 3 0) - 1) ∧ (((cl_beginLine v (v 12 0) 4) 3 0) - 1) ≤ 300 := (by first | assumption | omega | (unfold R32 at *; omega) | (unfold R64 at *; omega) | (simp only [R32, R64] at *; omega))
  have hp_12 : ((cl_beginLine v (v 12 0) 4) 2 7) ≤ ((cl_beginLine v (v 12 0) 4) 2 4) := (show ((cl_beginLine v (v 12 0) 4) 2 7) ≤ ((cl_beginLine v (v 12 0) 4) 2 4) from (by first | assumption | omega | (unfold R32 at *; omega) | (unfold R64 at *; omega) | (simp only [R32, R64] at *; omega)))
  refine r_call (m := 40) (args := [.inr (.inr (some 2)), .inl 0, .inl (((cl_beginLine v (v 12 0) 4) 3 0) - 1)]) (n' := 51) (pc' := 29) (lo' := [some (.inr (.inr (some 2))), none, none, none]) (st' := []) (I := .invokevirtual 40) (pc0 := 26) (len := 3) rfl rfl rfl (e_cl_number hX_5 hp_10 hp_11 hp_12) ?_
  show WV _ _ _ 29 _ [.inl ((cl_number (cl_beginLine v (v 12 0) 4) 0 (((cl_beginLine v (v 12 0) 4) 3 0) - 1)).1)] _ (cl_number (cl_beginLine v (v 12 0) 4) 0 (((cl_beginLine v (v 12 0) 4) 3 0) - 1)).2 _
  have hX_13 : XI (cl_number (cl_beginLine v (v 12 0) 4) 0 (((cl_beginLine v (v 12 0) 4) 3 0) - 1)).2 := i_cl_number (v := (cl_beginLine v (v 12 0) 4)) (l := 0) (g := (((cl_beginLine v (v 12 0) 4) 3 0) - 1)) hX_5 hp_10 hp_11 hp_12
  have hb_14 : ((cl_number (cl_beginLine v (v 12 0) 4) 0 (((cl_beginLine v (v 12 0) 4) 3 0) - 1)).2) 3 2 = ((cl_beginLine v (v 12 0) 4) 3 2) := by rw [o_cl_number (by omega)] <;> rfl
  have hb_15 : ((cl_number (cl_beginLine v (v 12 0) 4) 0 (((cl_beginLine v (v 12 0) 4) 3 0) - 1)).2) 12 0 = ((cl_beginLine v (v 12 0) 4) 12 0) := by rw [o_cl_number (by omega)] <;> rfl
  have hb_16 := n0_cl_number (v := (cl_beginLine v (v 12 0) 4)) (l := 0) (g := (((cl_beginLine v (v 12 0) 4) 3 0) - 1)) hX_5 hp_10 hp_11 hp_12
  have hb_17 : ((cl_number (cl_beginLine v (v 12 0) 4) 0 (((cl_beginLine v (v 12 0) 4) 3 0) - 1)).2 2 7) ≤ ((cl_number (cl_beginLine v (v 12 0) 4) 0 (((cl_beginLine v (v 12 0) 4) 3 0) - 1)).2 2 4) := n1_cl_number (v := (cl_beginLine v (v 12 0) 4)) (l := 0) (g := (((cl_beginLine v (v 12 0) 4) 3 0) - 1)) hX_5 hp_10 hp_11 hp_12
  refine r_ex 3 (pc' := 33) (lo' := [some (.inr (.inr (some 2))), some (.inl ((cl_number (cl_beginLine v (v 12 0) 4) 0 (((cl_beginLine v (v 12 0) 4) 3 0) - 1)).1)), none, none]) (st' := [.inr (.inr (some 100031)), .inr (.inr (some 2))]) rfl ?_
  have hp_18 : (((cl_number (cl_beginLine v (v 12 0) 4) 0 (((cl_beginLine v (v 12 0) 4) 3 0) - 1)).2) 2 7) ≤ (((cl_number (cl_beginLine v (v 12 0) 4) 0 (((cl_beginLine v (v 12 0) 4) 3 0) - 1)).2) 2 4) := (show ((cl_number (cl_beginLine v (v 12 0) 4) 0 (((cl_beginLine v (v 12 0) 4) 3 0) - 1)).2 2 7) ≤ ((cl_number (cl_beginLine v (v 12 0) 4) 0 (((cl_beginLine v (v 12 0) 4) 3 0) - 1)).2 2 4) from (by first | assumption | omega | (unfold R32 at *; omega) | (unfold R64 at *; omega) | (simp only [R32, R64] at *; omega)))
  refine r_call (m := 26) (args := [.inr (.inr (some 2)), .inr (.inr (some 100031))]) (n' := 51) (pc' := 36) (lo' := [some (.inr (.inr (some 2))), some (.inl ((cl_number (cl_beginLine v (v 12 0) 4) 0 (((cl_beginLine v (v 12 0) 4) 3 0) - 1)).1)), none, none]) (st' := []) (I := .invokevirtual 26) (pc0 := 33) (len := 3) rfl rfl rfl (e_cl_word15 hX_13 hp_18) ?_
  show WV _ _ _ 36 _ [] _ (cl_word15 ((cl_number (cl_beginLine v (v 12 0) 4) 0 (((cl_beginLine v (v 12 0) 4) 3 0) - 1)).2)) _
  have hX_19 : XI (cl_word15 ((cl_number (cl_beginLine v (v 12 0) 4) 0 (((cl_beginLine v (v 12 0) 4) 3 0) - 1)).2)) := i_cl_word15 (v := (cl_number (cl_beginLine v (v 12 0) 4) 0 (((cl_beginLine v (v 12 0) 4) 3 0) - 1)).2) hX_13 hp_18
  have hb_20 : (cl_word15 ((cl_number (cl_beginLine v (v 12 0) 4) 0 (((cl_beginLine v (v 12 0) 4) 3 0) - 1)).2)) 3 2 = ((cl_number (cl_beginLine v (v 12 0) 4) 0 (((cl_beginLine v (v 12 0) 4) 3 0) - 1)).2 3 2) := by rw [o_cl_word15 (by omega)] <;> rfl
  have hb_21 : (cl_word15 ((cl_number (cl_beginLine v (v 12 0) 4) 0 (((cl_beginLine v (v 12 0) 4) 3 0) - 1)).2)) 12 0 = ((cl_number (cl_beginLine v (v 12 0) 4) 0 (((cl_beginLine v (v 12 0) 4) 3 0) - 1)).2 12 0) := by rw [o_cl_word15 (by omega)] <;> rfl
  have hb_22 : ((cl_word15 ((cl_number (cl_beginLine v (v 12 0) 4) 0 (((cl_beginLine v (v 12 0) 4) 3 0) - 1)).2)) 2 7) ≤ ((cl_word15 ((cl_number (cl_beginLine v (v 12 0) 4) 0 (((cl_beginLine v (v 12 0) 4) 3 0) - 1)).2)) 2 4) := n_cl_word15 (v := (cl_number (cl_beginLine v (v 12 0) 4) 0 (((cl_beginLine v (v 12 0) 4) 3 0) - 1)).2) hX_13 hp_18
  refine r_ex 7 (pc' := 47) (lo' := [some (.inr (.inr (some 2))), some (.inl ((cl_number (cl_beginLine v (v 12 0) 4) 0 (((cl_beginLine v (v 12 0) 4) 3 0) - 1)).1)), none, none]) (st' := [.inl (((cl_word15 ((cl_number (cl_beginLine v (v 12 0) 4) 0 (((cl_beginLine v (v 12 0) 4) 3 0) - 1)).2)) 3 1) - 1), .inl 0, .inr (.inr (some 2))]) rfl ?_
  have hb_23 : 0 ≤ ((cl_word15 ((cl_number (cl_beginLine v (v 12 0) 4) 0 (((cl_beginLine v (v 12 0) 4) 3 0) - 1)).2)) 3 1) ∧ ((cl_word15 ((cl_number (cl_beginLine v (v 12 0) 4) 0 (((cl_beginLine v (v 12 0) 4) 3 0) - 1)).2)) 3 1) ≤ 300 := hX_19 3 1
  have hp_24 : 0 ≤ (0 : Int) ∧ (0 : Int) ≤ 300 := (by first | assumption | omega | (unfold R32 at *; omega) | (unfold R64 at *; omega) | (simp only [R32, R64] at *; omega))
  have hp_25 : -1 ≤ (((cl_word15 ((cl_number (cl_beginLine v (v 12 0) 4) 0 (((cl_beginLine v (v 12 0) 4) 3 0) - 1)).2)) 3 1) - 1) ∧ (((cl_word15 ((cl_number (cl_beginLine v (v 12 0) 4) 0 (((cl_beginLine v (v 12 0) 4) 3 0) - 1)).2)) 3 1) - 1) ≤ 300 := (by first | assumption | omega | (unfold R32 at *; omega) | (unfold R64 at *; omega) | (simp only [R32, R64] at *; omega))
  have hp_26 : ((cl_word15 ((cl_number (cl_beginLine v (v 12 0) 4) 0 (((cl_beginLine v (v 12 0) 4) 3 0) - 1)).2)) 2 7) ≤ ((cl_word15 ((cl_number (cl_beginLine v (v 12 0) 4) 0 (((cl_beginLine v (v 12 0) 4) 3 0) - 1)).2)) 2 4) := (show ((cl_word15 ((cl_number (cl_beginLine v (v 12 0) 4) 0 (((cl_beginLine v (v 12 0) 4) 3 0) - 1)).2)) 2 7) ≤ ((cl_word15 ((cl_number (cl_beginLine v (v 12 0) 4) 0 (((cl_beginLine v (v 12 0) 4) 3 0) - 1)).2)) 2 4) from (by first | assumption | omega | (unfold R32 at *; omega) | (unfold R64 at *; omega) | (simp only [R32, R64] at *; omega)))
  refine r_call (m := 40) (args := [.inr (.inr (some 2)), .inl 0, .inl (((cl_word15 ((cl_number (cl_beginLine v (v 12 0) 4) 0 (((cl_beginLine v (v 12 0) 4) 3 0) - 1)).2)) 3 1) - 1)]) (n' := 51) (pc' := 50) (lo' := [some (.inr (.inr (some 2))), some (.inl ((cl_number (cl_beginLine v (v 12 0) 4) 0 (((cl_beginLine v (v 12 0) 4) 3 0) - 1)).1)), none, none]) (st' := []) (I := .invokevirtual 40) (pc0 := 47) (len := 3) rfl rfl rfl (e_cl_number hX_19 hp_24 hp_25 hp_26) ?_
  show WV _ _ _ 50 _ [.inl ((cl_number (cl_word15 ((cl_number (cl_beginLine v (v 12 0) 4) 0 (((cl_beginLine v (v 12 0) 4) 3 0) - 1)).2)) 0 (((cl_word15 ((cl_number (cl_beginLine v (v 12 0) 4) 0 (((cl_beginLine v (v 12 0) 4) 3 0) - 1)).2)) 3 1) - 1)).1)] _ (cl_number (cl_word15 ((cl_number (cl_beginLine v (v 12 0) 4) 0 (((cl_beginLine v (v 12 0) 4) 3 0) - 1)).2)) 0 (((cl_word15 ((cl_number (cl_beginLine v (v 12 0) 4) 0 (((cl_beginLine v (v 12 0) 4) 3 0) - 1)).2)) 3 1) - 1)).2 _
  have hX_27 : XI (cl_number (cl_word15 ((cl_number (cl_beginLine v (v 12 0) 4) 0 (((cl_beginLine v (v 12 0) 4) 3 0) - 1)).2)) 0 (((cl_word15 ((cl_number (cl_beginLine v (v 12 0) 4) 0 (((cl_beginLine v (v 12 0) 4) 3 0) - 1)).2)) 3 1) - 1)).2 := i_cl_number (v := (cl_word15 ((cl_number (cl_beginLine v (v 12 0) 4) 0 (((cl_beginLine v (v 12 0) 4) 3 0) - 1)).2))) (l := 0) (g := (((cl_word15 ((cl_number (cl_beginLine v (v 12 0) 4) 0 (((cl_beginLine v (v 12 0) 4) 3 0) - 1)).2)) 3 1) - 1)) hX_19 hp_24 hp_25 hp_26
  have hb_28 : ((cl_number (cl_word15 ((cl_number (cl_beginLine v (v 12 0) 4) 0 (((cl_beginLine v (v 12 0) 4) 3 0) - 1)).2)) 0 (((cl_word15 ((cl_number (cl_beginLine v (v 12 0) 4) 0 (((cl_beginLine v (v 12 0) 4) 3 0) - 1)).2)) 3 1) - 1)).2) 3 2 = ((cl_word15 ((cl_number (cl_beginLine v (v 12 0) 4) 0 (((cl_beginLine v (v 12 0) 4) 3 0) - 1)).2)) 3 2) := by rw [o_cl_number (by omega)] <;> rfl
  have hb_29 : ((cl_number (cl_word15 ((cl_number (cl_beginLine v (v 12 0) 4) 0 (((cl_beginLine v (v 12 0) 4) 3 0) - 1)).2)) 0 (((cl_word15 ((cl_number (cl_beginLine v (v 12 0) 4) 0 (((cl_beginLine v (v 12 0) 4) 3 0) - 1)).2)) 3 1) - 1)).2) 12 0 = ((cl_word15 ((cl_number (cl_beginLine v (v 12 0) 4) 0 (((cl_beginLine v (v 12 0) 4) 3 0) - 1)).2)) 12 0) := by rw [o_cl_number (by omega)] <;> rfl
  have hb_30 := n0_cl_number (v := (cl_word15 ((cl_number (cl_beginLine v (v 12 0) 4) 0 (((cl_beginLine v (v 12 0) 4) 3 0) - 1)).2))) (l := 0) (g := (((cl_word15 ((cl_number (cl_beginLine v (v 12 0) 4) 0 (((cl_beginLine v (v 12 0) 4) 3 0) - 1)).2)) 3 1) - 1)) hX_19 hp_24 hp_25 hp_26
  have hb_31 : ((cl_number (cl_word15 ((cl_number (cl_beginLine v (v 12 0) 4) 0 (((cl_beginLine v (v 12 0) 4) 3 0) - 1)).2)) 0 (((cl_word15 ((cl_number (cl_beginLine v (v 12 0) 4) 0 (((cl_beginLine v (v 12 0) 4) 3 0) - 1)).2)) 3 1) - 1)).2 2 7) ≤ ((cl_number (cl_word15 ((cl_number (cl_beginLine v (v 12 0) 4) 0 (((cl_beginLine v (v 12 0) 4) 3 0) - 1)).2)) 0 (((cl_word15 ((cl_number (cl_beginLine v (v 12 0) 4) 0 (((cl_beginLine v (v 12 0) 4) 3 0) - 1)).2)) 3 1) - 1)).2 2 4) := n1_cl_number (v := (cl_word15 ((cl_number (cl_beginLine v (v 12 0) 4) 0 (((cl_beginLine v (v 12 0) 4) 3 0) - 1)).2))) (l := 0) (g := (((cl_word15 ((cl_number (cl_beginLine v (v 12 0) 4) 0 (((cl_beginLine v (v 12 0) 4) 3 0) - 1)).2)) 3 1) - 1)) hX_19 hp_24 hp_25 hp_26
  refine r_ex 3 (pc' := 54) (lo' := [some (.inr (.inr (some 2))), some (.inl ((cl_number (cl_beginLine v (v 12 0) 4) 0 (((cl_beginLine v (v 12 0) 4) 3 0) - 1)).1)), some (.inl ((cl_number (cl_word15 ((cl_number (cl_beginLine v (v 12 0) 4) 0 (((cl_beginLine v (v 12 0) 4) 3 0) - 1)).2)) 0 (((cl_word15 ((cl_number (cl_beginLine v (v 12 0) 4) 0 (((cl_beginLine v (v 12 0) 4) 3 0) - 1)).2)) 3 1) - 1)).1)), none]) (st' := [.inr (.inr (some 100047)), .inr (.inr (some 2))]) rfl ?_
  have hp_32 : (((cl_number (cl_word15 ((cl_number (cl_beginLine v (v 12 0) 4) 0 (((cl_beginLine v (v 12 0) 4) 3 0) - 1)).2)) 0 (((cl_word15 ((cl_number (cl_beginLine v (v 12 0) 4) 0 (((cl_beginLine v (v 12 0) 4) 3 0) - 1)).2)) 3 1) - 1)).2) 2 7) ≤ (((cl_number (cl_word15 ((cl_number (cl_beginLine v (v 12 0) 4) 0 (((cl_beginLine v (v 12 0) 4) 3 0) - 1)).2)) 0 (((cl_word15 ((cl_number (cl_beginLine v (v 12 0) 4) 0 (((cl_beginLine v (v 12 0) 4) 3 0) - 1)).2)) 3 1) - 1)).2) 2 4) := (show ((cl_number (cl_word15 ((cl_number (cl_beginLine v (v 12 0) 4) 0 (((cl_beginLine v (v 12 0) 4) 3 0) - 1)).2)) 0 (((cl_word15 ((cl_number (cl_beginLine v (v 12 0) 4) 0 (((cl_beginLine v (v 12 0) 4) 3 0) - 1)).2)) 3 1) - 1)).2 2 7) ≤ ((cl_number (cl_word15 ((cl_number (cl_beginLine v (v 12 0) 4) 0 (((cl_beginLine v (v 12 0) 4) 3 0) - 1)).2)) 0 (((cl_word15 ((cl_number (cl_beginLine v (v 12 0) 4) 0 (((cl_beginLine v (v 12 0) 4) 3 0) - 1)).2)) 3 1) - 1)).2 2 4) from (by first | assumption | omega | (unfold R32 at *; omega) | (unfold R64 at *; omega) | (simp only [R32, R64] at *; omega)))
  refine r_call (m := 26) (args := [.inr (.inr (some 2)), .inr (.inr (some 100047))]) (n' := 51) (pc' := 57) (lo' := [some (.inr (.inr (some 2))), some (.inl ((cl_number (cl_beginLine v (v 12 0) 4) 0 (((cl_beginLine v (v 12 0) 4) 3 0) - 1)).1)), some (.inl ((cl_number (cl_word15 ((cl_number (cl_beginLine v (v 12 0) 4) 0 (((cl_beginLine v (v 12 0) 4) 3 0) - 1)).2)) 0 (((cl_word15 ((cl_number (cl_beginLine v (v 12 0) 4) 0 (((cl_beginLine v (v 12 0) 4) 3 0) - 1)).2)) 3 1) - 1)).1)), none]) (st' := []) (I := .invokevirtual 26) (pc0 := 54) (len := 3) rfl rfl rfl (e_cl_word23 hX_27 hp_32) ?_
  show WV _ _ _ 57 _ [] _ (cl_word23 ((cl_number (cl_word15 ((cl_number (cl_beginLine v (v 12 0) 4) 0 (((cl_beginLine v (v 12 0) 4) 3 0) - 1)).2)) 0 (((cl_word15 ((cl_number (cl_beginLine v (v 12 0) 4) 0 (((cl_beginLine v (v 12 0) 4) 3 0) - 1)).2)) 3 1) - 1)).2)) _
  have hX_33 : XI (cl_word23 ((cl_number (cl_word15 ((cl_number (cl_beginLine v (v 12 0) 4) 0 (((cl_beginLine v (v 12 0) 4) 3 0) - 1)).2)) 0 (((cl_word15 ((cl_number (cl_beginLine v (v 12 0) 4) 0 (((cl_beginLine v (v 12 0) 4) 3 0) - 1)).2)) 3 1) - 1)).2)) := i_cl_word23 (v := (cl_number (cl_word15 ((cl_number (cl_beginLine v (v 12 0) 4) 0 (((cl_beginLine v (v 12 0) 4) 3 0) - 1)).2)) 0 (((cl_word15 ((cl_number (cl_beginLine v (v 12 0) 4) 0 (((cl_beginLine v (v 12 0) 4) 3 0) - 1)).2)) 3 1) - 1)).2) hX_27 hp_32
  have hb_34 : (cl_word23 ((cl_number (cl_word15 ((cl_number (cl_beginLine v (v 12 0) 4) 0 (((cl_beginLine v (v 12 0) 4) 3 0) - 1)).2)) 0 (((cl_word15 ((cl_number (cl_beginLine v (v 12 0) 4) 0 (((cl_beginLine v (v 12 0) 4) 3 0) - 1)).2)) 3 1) - 1)).2)) 3 2 = ((cl_number (cl_word15 ((cl_number (cl_beginLine v (v 12 0) 4) 0 (((cl_beginLine v (v 12 0) 4) 3 0) - 1)).2)) 0 (((cl_word15 ((cl_number (cl_beginLine v (v 12 0) 4) 0 (((cl_beginLine v (v 12 0) 4) 3 0) - 1)).2)) 3 1) - 1)).2 3 2) := by rw [o_cl_word23 (by omega)] <;> rfl
  have hb_35 : (cl_word23 ((cl_number (cl_word15 ((cl_number (cl_beginLine v (v 12 0) 4) 0 (((cl_beginLine v (v 12 0) 4) 3 0) - 1)).2)) 0 (((cl_word15 ((cl_number (cl_beginLine v (v 12 0) 4) 0 (((cl_beginLine v (v 12 0) 4) 3 0) - 1)).2)) 3 1) - 1)).2)) 12 0 = ((cl_number (cl_word15 ((cl_number (cl_beginLine v (v 12 0) 4) 0 (((cl_beginLine v (v 12 0) 4) 3 0) - 1)).2)) 0 (((cl_word15 ((cl_number (cl_beginLine v (v 12 0) 4) 0 (((cl_beginLine v (v 12 0) 4) 3 0) - 1)).2)) 3 1) - 1)).2 12 0) := by rw [o_cl_word23 (by omega)] <;> rfl
  have hb_36 : ((cl_word23 ((cl_number (cl_word15 ((cl_number (cl_beginLine v (v 12 0) 4) 0 (((cl_beginLine v (v 12 0) 4) 3 0) - 1)).2)) 0 (((cl_word15 ((cl_number (cl_beginLine v (v 12 0) 4) 0 (((cl_beginLine v (v 12 0) 4) 3 0) - 1)).2)) 3 1) - 1)).2)) 2 7) ≤ ((cl_word23 ((cl_number (cl_word15 ((cl_number (cl_beginLine v (v 12 0) 4) 0 (((cl_beginLine v (v 12 0) 4) 3 0) - 1)).2)) 0 (((cl_word15 ((cl_number (cl_beginLine v (v 12 0) 4) 0 (((cl_beginLine v (v 12 0) 4) 3 0) - 1)).2)) 3 1) - 1)).2)) 2 4) := n_cl_word23 (v := (cl_number (cl_word15 ((cl_number (cl_beginLine v (v 12 0) 4) 0 (((cl_beginLine v (v 12 0) 4) 3 0) - 1)).2)) 0 (((cl_word15 ((cl_number (cl_beginLine v (v 12 0) 4) 0 (((cl_beginLine v (v 12 0) 4) 3 0) - 1)).2)) 3 1) - 1)).2) hX_27 hp_32
  refine r_ex 3 (pc' := 61) (lo' := [some (.inr (.inr (some 2))), some (.inl ((cl_number (cl_beginLine v (v 12 0) 4) 0 (((cl_beginLine v (v 12 0) 4) 3 0) - 1)).1)), some (.inl ((cl_number (cl_word15 ((cl_number (cl_beginLine v (v 12 0) 4) 0 (((cl_beginLine v (v 12 0) 4) 3 0) - 1)).2)) 0 (((cl_word15 ((cl_number (cl_beginLine v (v 12 0) 4) 0 (((cl_beginLine v (v 12 0) 4) 3 0) - 1)).2)) 3 1) - 1)).1)), none]) (st' := [.inl 99, .inl 1, .inr (.inr (some 2))]) rfl ?_
  have hp_37 : 0 ≤ (1 : Int) ∧ (1 : Int) ≤ 300 := (by first | assumption | omega | (unfold R32 at *; omega) | (unfold R64 at *; omega) | (simp only [R32, R64] at *; omega))
  have hp_38 : -1 ≤ (99 : Int) ∧ (99 : Int) ≤ 300 := (by first | assumption | omega | (unfold R32 at *; omega) | (unfold R64 at *; omega) | (simp only [R32, R64] at *; omega))
  have hp_39 : ((cl_word23 ((cl_number (cl_word15 ((cl_number (cl_beginLine v (v 12 0) 4) 0 (((cl_beginLine v (v 12 0) 4) 3 0) - 1)).2)) 0 (((cl_word15 ((cl_number (cl_beginLine v (v 12 0) 4) 0 (((cl_beginLine v (v 12 0) 4) 3 0) - 1)).2)) 3 1) - 1)).2)) 2 7) ≤ ((cl_word23 ((cl_number (cl_word15 ((cl_number (cl_beginLine v (v 12 0) 4) 0 (((cl_beginLine v (v 12 0) 4) 3 0) - 1)).2)) 0 (((cl_word15 ((cl_number (cl_beginLine v (v 12 0) 4) 0 (((cl_beginLine v (v 12 0) 4) 3 0) - 1)).2)) 3 1) - 1)).2)) 2 4) := (show ((cl_word23 ((cl_number (cl_word15 ((cl_number (cl_beginLine v (v 12 0) 4) 0 (((cl_beginLine v (v 12 0) 4) 3 0) - 1)).2)) 0 (((cl_word15 ((cl_number (cl_beginLine v (v 12 0) 4) 0 (((cl_beginLine v (v 12 0) 4) 3 0) - 1)).2)) 3 1) - 1)).2)) 2 7) ≤ ((cl_word23 ((cl_number (cl_word15 ((cl_number (cl_beginLine v (v 12 0) 4) 0 (((cl_beginLine v (v 12 0) 4) 3 0) - 1)).2)) 0 (((cl_word15 ((cl_number (cl_beginLine v (v 12 0) 4) 0 (((cl_beginLine v (v 12 0) 4) 3 0) - 1)).2)) 3 1) - 1)).2)) 2 4) from (by first | assumption | omega | (unfold R32 at *; omega) | (unfold R64 at *; omega) | (simp only [R32, R64] at *; omega)))
  refine r_call (m := 40) (args := [.inr (.inr (some 2)), .inl 1, .inl 99]) (n' := 51) (pc' := 64) (lo' := [some (.inr (.inr (some 2))), some (.inl ((cl_number (cl_beginLine v (v 12 0) 4) 0 (((cl_beginLine v (v 12 0) 4) 3 0) - 1)).1)), some (.inl ((cl_number (cl_word15 ((cl_number (cl_beginLine v (v 12 0) 4) 0 (((cl_beginLine v (v 12 0) 4) 3 0) - 1)).2)) 0 (((cl_word15 ((cl_number (cl_beginLine v (v 12 0) 4) 0 (((cl_beginLine v (v 12 0) 4) 3 0) - 1)).2)) 3 1) - 1)).1)), none]) (st' := []) (I := .invokevirtual 40) (pc0 := 61) (len := 3) rfl rfl rfl (e_cl_number hX_33 hp_37 hp_38 hp_39) ?_
  show WV _ _ _ 64 _ [.inl ((cl_number (cl_word23 ((cl_number (cl_word15 ((cl_number (cl_beginLine v (v 12 0) 4) 0 (((cl_beginLine v (v 12 0) 4) 3 0) - 1)).2)) 0 (((cl_word15 ((cl_number (cl_beginLine v (v 12 0) 4) 0 (((cl_beginLine v (v 12 0) 4) 3 0) - 1)).2)) 3 1) - 1)).2)) 1 99).1)] _ (cl_number (cl_word23 ((cl_number (cl_word15 ((cl_number (cl_beginLine v (v 12 0) 4) 0 (((cl_beginLine v (v 12 0) 4) 3 0) - 1)).2)) 0 (((cl_word15 ((cl_number (cl_beginLine v (v 12 0) 4) 0 (((cl_beginLine v (v 12 0) 4) 3 0) - 1)).2)) 3 1) - 1)).2)) 1 99).2 _
  have hX_40 : XI (cl_number (cl_word23 ((cl_number (cl_word15 ((cl_number (cl_beginLine v (v 12 0) 4) 0 (((cl_beginLine v (v 12 0) 4) 3 0) - 1)).2)) 0 (((cl_word15 ((cl_number (cl_beginLine v (v 12 0) 4) 0 (((cl_beginLine v (v 12 0) 4) 3 0) - 1)).2)) 3 1) - 1)).2)) 1 99).2 := i_cl_number (v := (cl_word23 ((cl_number (cl_word15 ((cl_number (cl_beginLine v (v 12 0) 4) 0 (((cl_beginLine v (v 12 0) 4) 3 0) - 1)).2)) 0 (((cl_word15 ((cl_number (cl_beginLine v (v 12 0) 4) 0 (((cl_beginLine v (v 12 0) 4) 3 0) - 1)).2)) 3 1) - 1)).2))) (l := 1) (g := 99) hX_33 hp_37 hp_38 hp_39
  have hb_41 : ((cl_number (cl_word23 ((cl_number (cl_word15 ((cl_number (cl_beginLine v (v 12 0) 4) 0 (((cl_beginLine v (v 12 0) 4) 3 0) - 1)).2)) 0 (((cl_word15 ((cl_number (cl_beginLine v (v 12 0) 4) 0 (((cl_beginLine v (v 12 0) 4) 3 0) - 1)).2)) 3 1) - 1)).2)) 1 99).2) 3 2 = ((cl_word23 ((cl_number (cl_word15 ((cl_number (cl_beginLine v (v 12 0) 4) 0 (((cl_beginLine v (v 12 0) 4) 3 0) - 1)).2)) 0 (((cl_word15 ((cl_number (cl_beginLine v (v 12 0) 4) 0 (((cl_beginLine v (v 12 0) 4) 3 0) - 1)).2)) 3 1) - 1)).2)) 3 2) := by rw [o_cl_number (by omega)] <;> rfl
  have hb_42 : ((cl_number (cl_word23 ((cl_number (cl_word15 ((cl_number (cl_beginLine v (v 12 0) 4) 0 (((cl_beginLine v (v 12 0) 4) 3 0) - 1)).2)) 0 (((cl_word15 ((cl_number (cl_beginLine v (v 12 0) 4) 0 (((cl_beginLine v (v 12 0) 4) 3 0) - 1)).2)) 3 1) - 1)).2)) 1 99).2) 12 0 = ((cl_word23 ((cl_number (cl_word15 ((cl_number (cl_beginLine v (v 12 0) 4) 0 (((cl_beginLine v (v 12 0) 4) 3 0) - 1)).2)) 0 (((cl_word15 ((cl_number (cl_beginLine v (v 12 0) 4) 0 (((cl_beginLine v (v 12 0) 4) 3 0) - 1)).2)) 3 1) - 1)).2)) 12 0) := by rw [o_cl_number (by omega)] <;> rfl
  have hb_43 := n0_cl_number (v := (cl_word23 ((cl_number (cl_word15 ((cl_number (cl_beginLine v (v 12 0) 4) 0 (((cl_beginLine v (v 12 0) 4) 3 0) - 1)).2)) 0 (((cl_word15 ((cl_number (cl_beginLine v (v 12 0) 4) 0 (((cl_beginLine v (v 12 0) 4) 3 0) - 1)).2)) 3 1) - 1)).2))) (l := 1) (g := 99) hX_33 hp_37 hp_38 hp_39
  have hb_44 : ((cl_number (cl_word23 ((cl_number (cl_word15 ((cl_number (cl_beginLine v (v 12 0) 4) 0 (((cl_beginLine v (v 12 0) 4) 3 0) - 1)).2)) 0 (((cl_word15 ((cl_number (cl_beginLine v (v 12 0) 4) 0 (((cl_beginLine v (v 12 0) 4) 3 0) - 1)).2)) 3 1) - 1)).2)) 1 99).2 2 7) ≤ ((cl_number (cl_word23 ((cl_number (cl_word15 ((cl_number (cl_beginLine v (v 12 0) 4) 0 (((cl_beginLine v (v 12 0) 4) 3 0) - 1)).2)) 0 (((cl_word15 ((cl_number (cl_beginLine v (v 12 0) 4) 0 (((cl_beginLine v (v 12 0) 4) 3 0) - 1)).2)) 3 1) - 1)).2)) 1 99).2 2 4) := n1_cl_number (v := (cl_word23 ((cl_number (cl_word15 ((cl_number (cl_beginLine v (v 12 0) 4) 0 (((cl_beginLine v (v 12 0) 4) 3 0) - 1)).2)) 0 (((cl_word15 ((cl_number (cl_beginLine v (v 12 0) 4) 0 (((cl_beginLine v (v 12 0) 4) 3 0) - 1)).2)) 3 1) - 1)).2))) (l := 1) (g := 99) hX_33 hp_37 hp_38 hp_39
  refine r_ex 2 (pc' := 66) (lo' := [some (.inr (.inr (some 2))), some (.inl ((cl_number (cl_beginLine v (v 12 0) 4) 0 (((cl_beginLine v (v 12 0) 4) 3 0) - 1)).1)), some (.inl ((cl_number (cl_word15 ((cl_number (cl_beginLine v (v 12 0) 4) 0 (((cl_beginLine v (v 12 0) 4) 3 0) - 1)).2)) 0 (((cl_word15 ((cl_number (cl_beginLine v (v 12 0) 4) 0 (((cl_beginLine v (v 12 0) 4) 3 0) - 1)).2)) 3 1) - 1)).1)), some (.inl ((cl_number (cl_word23 ((cl_number (cl_word15 ((cl_number (cl_beginLine v (v 12 0) 4) 0 (((cl_beginLine v (v 12 0) 4) 3 0) - 1)).2)) 0 (((cl_word15 ((cl_number (cl_beginLine v (v 12 0) 4) 0 (((cl_beginLine v (v 12 0) 4) 3 0) - 1)).2)) 3 1) - 1)).2)) 1 99).1))]) (st' := [.inr (.inr (some 2))]) rfl ?_
  have hp_45 : (((cl_number (cl_word23 ((cl_number (cl_word15 ((cl_number (cl_beginLine v (v 12 0) 4) 0 (((cl_beginLine v (v 12 0) 4) 3 0) - 1)).2)) 0 (((cl_word15 ((cl_number (cl_beginLine v (v 12 0) 4) 0 (((cl_beginLine v (v 12 0) 4) 3 0) - 1)).2)) 3 1) - 1)).2)) 1 99).2) 2 7) ≤ (((cl_number (cl_word23 ((cl_number (cl_word15 ((cl_number (cl_beginLine v (v 12 0) 4) 0 (((cl_beginLine v (v 12 0) 4) 3 0) - 1)).2)) 0 (((cl_word15 ((cl_number (cl_beginLine v (v 12 0) 4) 0 (((cl_beginLine v (v 12 0) 4) 3 0) - 1)).2)) 3 1) - 1)).2)) 1 99).2) 2 4) := (show ((cl_number (cl_word23 ((cl_number (cl_word15 ((cl_number (cl_beginLine v (v 12 0) 4) 0 (((cl_beginLine v (v 12 0) 4) 3 0) - 1)).2)) 0 (((cl_word15 ((cl_number (cl_beginLine v (v 12 0) 4) 0 (((cl_beginLine v (v 12 0) 4) 3 0) - 1)).2)) 3 1) - 1)).2)) 1 99).2 2 7) ≤ ((cl_number (cl_word23 ((cl_number (cl_word15 ((cl_number (cl_beginLine v (v 12 0) 4) 0 (((cl_beginLine v (v 12 0) 4) 3 0) - 1)).2)) 0 (((cl_word15 ((cl_number (cl_beginLine v (v 12 0) 4) 0 (((cl_beginLine v (v 12 0) 4) 3 0) - 1)).2)) 3 1) - 1)).2)) 1 99).2 2 4) from (by first | assumption | omega | (unfold R32 at *; omega) | (unfold R64 at *; omega) | (simp only [R32, R64] at *; omega)))
  refine r_call (m := 41) (args := [.inr (.inr (some 2))]) (n' := 51) (pc' := 69) (lo' := [some (.inr (.inr (some 2))), some (.inl ((cl_number (cl_beginLine v (v 12 0) 4) 0 (((cl_beginLine v (v 12 0) 4) 3 0) - 1)).1)), some (.inl ((cl_number (cl_word15 ((cl_number (cl_beginLine v (v 12 0) 4) 0 (((cl_beginLine v (v 12 0) 4) 3 0) - 1)).2)) 0 (((cl_word15 ((cl_number (cl_beginLine v (v 12 0) 4) 0 (((cl_beginLine v (v 12 0) 4) 3 0) - 1)).2)) 3 1) - 1)).1)), some (.inl ((cl_number (cl_word23 ((cl_number (cl_word15 ((cl_number (cl_beginLine v (v 12 0) 4) 0 (((cl_beginLine v (v 12 0) 4) 3 0) - 1)).2)) 0 (((cl_word15 ((cl_number (cl_beginLine v (v 12 0) 4) 0 (((cl_beginLine v (v 12 0) 4) 3 0) - 1)).2)) 3 1) - 1)).2)) 1 99).1))]) (st' := []) (I := .invokevirtual 41) (pc0 := 66) (len := 3) rfl rfl rfl (e_cl_stop hX_40 hp_45) ?_
  show WV _ _ _ 69 _ [] _ (cl_stop ((cl_number (cl_word23 ((cl_number (cl_word15 ((cl_number (cl_beginLine v (v 12 0) 4) 0 (((cl_beginLine v (v 12 0) 4) 3 0) - 1)).2)) 0 (((cl_word15 ((cl_number (cl_beginLine v (v 12 0) 4) 0 (((cl_beginLine v (v 12 0) 4) 3 0) - 1)).2)) 3 1) - 1)).2)) 1 99).2)) _
  have hX_46 : XI (cl_stop ((cl_number (cl_word23 ((cl_number (cl_word15 ((cl_number (cl_beginLine v (v 12 0) 4) 0 (((cl_beginLine v (v 12 0) 4) 3 0) - 1)).2)) 0 (((cl_word15 ((cl_number (cl_beginLine v (v 12 0) 4) 0 (((cl_beginLine v (v 12 0) 4) 3 0) - 1)).2)) 3 1) - 1)).2)) 1 99).2)) := i_cl_stop (v := (cl_number (cl_word23 ((cl_number (cl_word15 ((cl_number (cl_beginLine v (v 12 0) 4) 0 (((cl_beginLine v (v 12 0) 4) 3 0) - 1)).2)) 0 (((cl_word15 ((cl_number (cl_beginLine v (v 12 0) 4) 0 (((cl_beginLine v (v 12 0) 4) 3 0) - 1)).2)) 3 1) - 1)).2)) 1 99).2) hX_40 hp_45
  have hb_47 : (cl_stop ((cl_number (cl_word23 ((cl_number (cl_word15 ((cl_number (cl_beginLine v (v 12 0) 4) 0 (((cl_beginLine v (v 12 0) 4) 3 0) - 1)).2)) 0 (((cl_word15 ((cl_number (cl_beginLine v (v 12 0) 4) 0 (((cl_beginLine v (v 12 0) 4) 3 0) - 1)).2)) 3 1) - 1)).2)) 1 99).2)) 3 2 = ((cl_number (cl_word23 ((cl_number (cl_word15 ((cl_number (cl_beginLine v (v 12 0) 4) 0 (((cl_beginLine v (v 12 0) 4) 3 0) - 1)).2)) 0 (((cl_word15 ((cl_number (cl_beginLine v (v 12 0) 4) 0 (((cl_beginLine v (v 12 0) 4) 3 0) - 1)).2)) 3 1) - 1)).2)) 1 99).2 3 2) := by rw [o_cl_stop (by omega)] <;> rfl
  have hb_48 : (cl_stop ((cl_number (cl_word23 ((cl_number (cl_word15 ((cl_number (cl_beginLine v (v 12 0) 4) 0 (((cl_beginLine v (v 12 0) 4) 3 0) - 1)).2)) 0 (((cl_word15 ((cl_number (cl_beginLine v (v 12 0) 4) 0 (((cl_beginLine v (v 12 0) 4) 3 0) - 1)).2)) 3 1) - 1)).2)) 1 99).2)) 12 0 = ((cl_number (cl_word23 ((cl_number (cl_word15 ((cl_number (cl_beginLine v (v 12 0) 4) 0 (((cl_beginLine v (v 12 0) 4) 3 0) - 1)).2)) 0 (((cl_word15 ((cl_number (cl_beginLine v (v 12 0) 4) 0 (((cl_beginLine v (v 12 0) 4) 3 0) - 1)).2)) 3 1) - 1)).2)) 1 99).2 12 0) := by rw [o_cl_stop (by omega)] <;> rfl
  have hb_49 : ((cl_stop ((cl_number (cl_word23 ((cl_number (cl_word15 ((cl_number (cl_beginLine v (v 12 0) 4) 0 (((cl_beginLine v (v 12 0) 4) 3 0) - 1)).2)) 0 (((cl_word15 ((cl_number (cl_beginLine v (v 12 0) 4) 0 (((cl_beginLine v (v 12 0) 4) 3 0) - 1)).2)) 3 1) - 1)).2)) 1 99).2)) 2 7) ≤ ((cl_stop ((cl_number (cl_word23 ((cl_number (cl_word15 ((cl_number (cl_beginLine v (v 12 0) 4) 0 (((cl_beginLine v (v 12 0) 4) 3 0) - 1)).2)) 0 (((cl_word15 ((cl_number (cl_beginLine v (v 12 0) 4) 0 (((cl_beginLine v (v 12 0) 4) 3 0) - 1)).2)) 3 1) - 1)).2)) 1 99).2)) 2 4) := n_cl_stop (v := (cl_number (cl_word23 ((cl_number (cl_word15 ((cl_number (cl_beginLine v (v 12 0) 4) 0 (((cl_beginLine v (v 12 0) 4) 3 0) - 1)).2)) 0 (((cl_word15 ((cl_number (cl_beginLine v (v 12 0) 4) 0 (((cl_beginLine v (v 12 0) 4) 3 0) - 1)).2)) 3 1) - 1)).2)) 1 99).2) hX_40 hp_45
  refine r_ex 2 (pc' := 73) (lo' := [some (.inr (.inr (some 2))), some (.inl ((cl_number (cl_beginLine v (v 12 0) 4) 0 (((cl_beginLine v (v 12 0) 4) 3 0) - 1)).1)), some (.inl ((cl_number (cl_word15 ((cl_number (cl_beginLine v (v 12 0) 4) 0 (((cl_beginLine v (v 12 0) 4) 3 0) - 1)).2)) 0 (((cl_word15 ((cl_number (cl_beginLine v (v 12 0) 4) 0 (((cl_beginLine v (v 12 0) 4) 3 0) - 1)).2)) 3 1) - 1)).1)), some (.inl ((cl_number (cl_word23 ((cl_number (cl_word15 ((cl_number (cl_beginLine v (v 12 0) 4) 0 (((cl_beginLine v (v 12 0) 4) 3 0) - 1)).2)) 0 (((cl_word15 ((cl_number (cl_beginLine v (v 12 0) 4) 0 (((cl_beginLine v (v 12 0) 4) 3 0) - 1)).2)) 3 1) - 1)).2)) 1 99).1))]) (st' := [.inl ((cl_stop ((cl_number (cl_word23 ((cl_number (cl_word15 ((cl_number (cl_beginLine v (v 12 0) 4) 0 (((cl_beginLine v (v 12 0) 4) 3 0) - 1)).2)) 0 (((cl_word15 ((cl_number (cl_beginLine v (v 12 0) 4) 0 (((cl_beginLine v (v 12 0) 4) 3 0) - 1)).2)) 3 1) - 1)).2)) 1 99).2)) 2 1)]) rfl ?_
  have hb_50 : 0 ≤ ((cl_stop ((cl_number (cl_word23 ((cl_number (cl_word15 ((cl_number (cl_beginLine v (v 12 0) 4) 0 (((cl_beginLine v (v 12 0) 4) 3 0) - 1)).2)) 0 (((cl_word15 ((cl_number (cl_beginLine v (v 12 0) 4) 0 (((cl_beginLine v (v 12 0) 4) 3 0) - 1)).2)) 3 1) - 1)).2)) 1 99).2)) 2 1) ∧ ((cl_stop ((cl_number (cl_word23 ((cl_number (cl_word15 ((cl_number (cl_beginLine v (v 12 0) 4) 0 (((cl_beginLine v (v 12 0) 4) 3 0) - 1)).2)) 0 (((cl_word15 ((cl_number (cl_beginLine v (v 12 0) 4) 0 (((cl_beginLine v (v 12 0) 4) 3 0) - 1)).2)) 3 1) - 1)).2)) 1 99).2)) 2 1) ≤ 3 := hX_46 2 1
  refine n_if_ne (pc0 := 73) (len := 3) (t := 89) rfl (by first | assumption | omega | (unfold R32 at *; omega) | (unfold R64 at *; omega) | (simp only [R32, R64] at *; omega)) (fun h_73 => ?_) (fun h_73 => ?_)
  · show WV _ _ _ 89 _ _ _ _ _
    rw [if_neg h_73] at hQ
    refine r_ret (rr := none) (I := .return_) (pc0 := 89) (len := 1) rfl rfl ?_
    exact hQ hX_46 (show ((cl_stop ((cl_number (cl_word23 ((cl_number (cl_word15 ((cl_number (cl_beginLine v (v 12 0) 4) 0 (((cl_beginLine v (v 12 0) 4) 3 0) - 1)).2)) 0 (((cl_word15 ((cl_number (cl_beginLine v (v 12 0) 4) 0 (((cl_beginLine v (v 12 0) 4) 3 0) - 1)).2)) 3 1) - 1)).2)) 1 99).2)) 2 7) ≤ ((cl_stop ((cl_number (cl_word23 ((cl_number (cl_word15 ((cl_number (cl_beginLine v (v 12 0) 4) 0 (((cl_beginLine v (v 12 0) 4) 3 0) - 1)).2)) 0 (((cl_word15 ((cl_number (cl_beginLine v (v 12 0) 4) 0 (((cl_beginLine v (v 12 0) 4) 3 0) - 1)).2)) 3 1) - 1)).2)) 1 99).2)) 2 4) from (by first | assumption | omega | (unfold R32 at *; omega) | (unfold R64 at *; omega) | (simp only [R32, R64] at *; omega)))
  · show WV _ _ _ 76 _ _ _ _ _
    rw [if_pos h_73] at hQ
    refine r_ex 6 (pc' := 86) (lo' := [some (.inr (.inr (some 2))), some (.inl ((cl_number (cl_beginLine v (v 12 0) 4) 0 (((cl_beginLine v (v 12 0) 4) 3 0) - 1)).1)), some (.inl ((cl_number (cl_word15 ((cl_number (cl_beginLine v (v 12 0) 4) 0 (((cl_beginLine v (v 12 0) 4) 3 0) - 1)).2)) 0 (((cl_word15 ((cl_number (cl_beginLine v (v 12 0) 4) 0 (((cl_beginLine v (v 12 0) 4) 3 0) - 1)).2)) 3 1) - 1)).1)), some (.inl ((cl_number (cl_word23 ((cl_number (cl_word15 ((cl_number (cl_beginLine v (v 12 0) 4) 0 (((cl_beginLine v (v 12 0) 4) 3 0) - 1)).2)) 0 (((cl_word15 ((cl_number (cl_beginLine v (v 12 0) 4) 0 (((cl_beginLine v (v 12 0) 4) 3 0) - 1)).2)) 3 1) - 1)).2)) 1 99).1))]) (st' := [.inl ((cl_number (cl_word23 ((cl_number (cl_word15 ((cl_number (cl_beginLine v (v 12 0) 4) 0 (((cl_beginLine v (v 12 0) 4) 3 0) - 1)).2)) 0 (((cl_word15 ((cl_number (cl_beginLine v (v 12 0) 4) 0 (((cl_beginLine v (v 12 0) 4) 3 0) - 1)).2)) 3 1) - 1)).2)) 1 99).1), .inl ((cl_number (cl_word15 ((cl_number (cl_beginLine v (v 12 0) 4) 0 (((cl_beginLine v (v 12 0) 4) 3 0) - 1)).2)) 0 (((cl_word15 ((cl_number (cl_beginLine v (v 12 0) 4) 0 (((cl_beginLine v (v 12 0) 4) 3 0) - 1)).2)) 3 1) - 1)).1), .inl ((cl_number (cl_beginLine v (v 12 0) 4) 0 (((cl_beginLine v (v 12 0) 4) 3 0) - 1)).1), .inr (.inr (some 12))]) rfl ?_
    have hp_51 : 0 ≤ ((cl_number (cl_beginLine v (v 12 0) 4) 0 (((cl_beginLine v (v 12 0) 4) 3 0) - 1)).1) ∧ ((cl_number (cl_beginLine v (v 12 0) 4) 0 (((cl_beginLine v (v 12 0) 4) 3 0) - 1)).1) ≤ 8 := (by first | assumption | omega | (unfold R32 at *; omega) | (unfold R64 at *; omega) | (simp only [R32, R64] at *; omega))
    have hp_52 : 0 ≤ ((cl_number (cl_word15 ((cl_number (cl_beginLine v (v 12 0) 4) 0 (((cl_beginLine v (v 12 0) 4) 3 0) - 1)).2)) 0 (((cl_word15 ((cl_number (cl_beginLine v (v 12 0) 4) 0 (((cl_beginLine v (v 12 0) 4) 3 0) - 1)).2)) 3 1) - 1)).1) ∧ ((cl_number (cl_word15 ((cl_number (cl_beginLine v (v 12 0) 4) 0 (((cl_beginLine v (v 12 0) 4) 3 0) - 1)).2)) 0 (((cl_word15 ((cl_number (cl_beginLine v (v 12 0) 4) 0 (((cl_beginLine v (v 12 0) 4) 3 0) - 1)).2)) 3 1) - 1)).1) ≤ 299 := (by first | assumption | omega | (unfold R32 at *; omega) | (unfold R64 at *; omega) | (simp only [R32, R64] at *; omega))
    have hp_53 : 0 ≤ ((cl_number (cl_word23 ((cl_number (cl_word15 ((cl_number (cl_beginLine v (v 12 0) 4) 0 (((cl_beginLine v (v 12 0) 4) 3 0) - 1)).2)) 0 (((cl_word15 ((cl_number (cl_beginLine v (v 12 0) 4) 0 (((cl_beginLine v (v 12 0) 4) 3 0) - 1)).2)) 3 1) - 1)).2)) 1 99).1) ∧ ((cl_number (cl_word23 ((cl_number (cl_word15 ((cl_number (cl_beginLine v (v 12 0) 4) 0 (((cl_beginLine v (v 12 0) 4) 3 0) - 1)).2)) 0 (((cl_word15 ((cl_number (cl_beginLine v (v 12 0) 4) 0 (((cl_beginLine v (v 12 0) 4) 3 0) - 1)).2)) 3 1) - 1)).2)) 1 99).1) ≤ 99 := (by first | assumption | omega | (unfold R32 at *; omega) | (unfold R64 at *; omega) | (simp only [R32, R64] at *; omega))
    have hp_54 : ((cl_stop ((cl_number (cl_word23 ((cl_number (cl_word15 ((cl_number (cl_beginLine v (v 12 0) 4) 0 (((cl_beginLine v (v 12 0) 4) 3 0) - 1)).2)) 0 (((cl_word15 ((cl_number (cl_beginLine v (v 12 0) 4) 0 (((cl_beginLine v (v 12 0) 4) 3 0) - 1)).2)) 3 1) - 1)).2)) 1 99).2)) 12 0) < 4 := (show ((cl_stop ((cl_number (cl_word23 ((cl_number (cl_word15 ((cl_number (cl_beginLine v (v 12 0) 4) 0 (((cl_beginLine v (v 12 0) 4) 3 0) - 1)).2)) 0 (((cl_word15 ((cl_number (cl_beginLine v (v 12 0) 4) 0 (((cl_beginLine v (v 12 0) 4) 3 0) - 1)).2)) 3 1) - 1)).2)) 1 99).2)) 12 0) < 4 from (by have q := rs_lt h_73; omega))
    refine r_call (m := 52) (args := [.inr (.inr (some 12)), .inl ((cl_number (cl_beginLine v (v 12 0) 4) 0 (((cl_beginLine v (v 12 0) 4) 3 0) - 1)).1), .inl ((cl_number (cl_word15 ((cl_number (cl_beginLine v (v 12 0) 4) 0 (((cl_beginLine v (v 12 0) 4) 3 0) - 1)).2)) 0 (((cl_word15 ((cl_number (cl_beginLine v (v 12 0) 4) 0 (((cl_beginLine v (v 12 0) 4) 3 0) - 1)).2)) 3 1) - 1)).1), .inl ((cl_number (cl_word23 ((cl_number (cl_word15 ((cl_number (cl_beginLine v (v 12 0) 4) 0 (((cl_beginLine v (v 12 0) 4) 3 0) - 1)).2)) 0 (((cl_word15 ((cl_number (cl_beginLine v (v 12 0) 4) 0 (((cl_beginLine v (v 12 0) 4) 3 0) - 1)).2)) 3 1) - 1)).2)) 1 99).1)]) (n' := 51) (pc' := 89) (lo' := [some (.inr (.inr (some 2))), some (.inl ((cl_number (cl_beginLine v (v 12 0) 4) 0 (((cl_beginLine v (v 12 0) 4) 3 0) - 1)).1)), some (.inl ((cl_number (cl_word15 ((cl_number (cl_beginLine v (v 12 0) 4) 0 (((cl_beginLine v (v 12 0) 4) 3 0) - 1)).2)) 0 (((cl_word15 ((cl_number (cl_beginLine v (v 12 0) 4) 0 (((cl_beginLine v (v 12 0) 4) 3 0) - 1)).2)) 3 1) - 1)).1)), some (.inl ((cl_number (cl_word23 ((cl_number (cl_word15 ((cl_number (cl_beginLine v (v 12 0) 4) 0 (((cl_beginLine v (v 12 0) 4) 3 0) - 1)).2)) 0 (((cl_word15 ((cl_number (cl_beginLine v (v 12 0) 4) 0 (((cl_beginLine v (v 12 0) 4) 3 0) - 1)).2)) 3 1) - 1)).2)) 1 99).1))]) (st' := []) (I := .invokevirtual 52) (pc0 := 86) (len := 3) rfl rfl rfl (e_cl_stAdd12 hX_46 hp_51 hp_52 hp_53 hp_54) ?_
    show WV _ _ _ 89 _ [] _ (cl_stAdd12 (cl_stop ((cl_number (cl_word23 ((cl_number (cl_word15 ((cl_number (cl_beginLine v (v 12 0) 4) 0 (((cl_beginLine v (v 12 0) 4) 3 0) - 1)).2)) 0 (((cl_word15 ((cl_number (cl_beginLine v (v 12 0) 4) 0 (((cl_beginLine v (v 12 0) 4) 3 0) - 1)).2)) 3 1) - 1)).2)) 1 99).2)) ((cl_number (cl_beginLine v (v 12 0) 4) 0 (((cl_beginLine v (v 12 0) 4) 3 0) - 1)).1) ((cl_number (cl_word15 ((cl_number (cl_beginLine v (v 12 0) 4) 0 (((cl_beginLine v (v 12 0) 4) 3 0) - 1)).2)) 0 (((cl_word15 ((cl_number (cl_beginLine v (v 12 0) 4) 0 (((cl_beginLine v (v 12 0) 4) 3 0) - 1)).2)) 3 1) - 1)).1) ((cl_number (cl_word23 ((cl_number (cl_word15 ((cl_number (cl_beginLine v (v 12 0) 4) 0 (((cl_beginLine v (v 12 0) 4) 3 0) - 1)).2)) 0 (((cl_word15 ((cl_number (cl_beginLine v (v 12 0) 4) 0 (((cl_beginLine v (v 12 0) 4) 3 0) - 1)).2)) 3 1) - 1)).2)) 1 99).1)) _
    have hX_55 : XI (cl_stAdd12 (cl_stop ((cl_number (cl_word23 ((cl_number (cl_word15 ((cl_number (cl_beginLine v (v 12 0) 4) 0 (((cl_beginLine v (v 12 0) 4) 3 0) - 1)).2)) 0 (((cl_word15 ((cl_number (cl_beginLine v (v 12 0) 4) 0 (((cl_beginLine v (v 12 0) 4) 3 0) - 1)).2)) 3 1) - 1)).2)) 1 99).2)) ((cl_number (cl_beginLine v (v 12 0) 4) 0 (((cl_beginLine v (v 12 0) 4) 3 0) - 1)).1) ((cl_number (cl_word15 ((cl_number (cl_beginLine v (v 12 0) 4) 0 (((cl_beginLine v (v 12 0) 4) 3 0) - 1)).2)) 0 (((cl_word15 ((cl_number (cl_beginLine v (v 12 0) 4) 0 (((cl_beginLine v (v 12 0) 4) 3 0) - 1)).2)) 3 1) - 1)).1) ((cl_number (cl_word23 ((cl_number (cl_word15 ((cl_number (cl_beginLine v (v 12 0) 4) 0 (((cl_beginLine v (v 12 0) 4) 3 0) - 1)).2)) 0 (((cl_word15 ((cl_number (cl_beginLine v (v 12 0) 4) 0 (((cl_beginLine v (v 12 0) 4) 3 0) - 1)).2)) 3 1) - 1)).2)) 1 99).1)) := i_cl_stAdd12 (v := (cl_stop ((cl_number (cl_word23 ((cl_number (cl_word15 ((cl_number (cl_beginLine v (v 12 0) 4) 0 (((cl_beginLine v (v 12 0) 4) 3 0) - 1)).2)) 0 (((cl_word15 ((cl_number (cl_beginLine v (v 12 0) 4) 0 (((cl_beginLine v (v 12 0) 4) 3 0) - 1)).2)) 3 1) - 1)).2)) 1 99).2))) (c := (cl_number (cl_beginLine v (v 12 0) 4) 0 (((cl_beginLine v (v 12 0) 4) 3 0) - 1)).1) (s := (cl_number (cl_word15 ((cl_number (cl_beginLine v (v 12 0) 4) 0 (((cl_beginLine v (v 12 0) 4) 3 0) - 1)).2)) 0 (((cl_word15 ((cl_number (cl_beginLine v (v 12 0) 4) 0 (((cl_beginLine v (v 12 0) 4) 3 0) - 1)).2)) 3 1) - 1)).1) (h := (cl_number (cl_word23 ((cl_number (cl_word15 ((cl_number (cl_beginLine v (v 12 0) 4) 0 (((cl_beginLine v (v 12 0) 4) 3 0) - 1)).2)) 0 (((cl_word15 ((cl_number (cl_beginLine v (v 12 0) 4) 0 (((cl_beginLine v (v 12 0) 4) 3 0) - 1)).2)) 3 1) - 1)).2)) 1 99).1) hX_46 hp_51 hp_52 hp_53 hp_54
    have hb_56 : (cl_stAdd12 (cl_stop ((cl_number (cl_word23 ((cl_number (cl_word15 ((cl_number (cl_beginLine v (v 12 0) 4) 0 (((cl_beginLine v (v 12 0) 4) 3 0) - 1)).2)) 0 (((cl_word15 ((cl_number (cl_beginLine v (v 12 0) 4) 0 (((cl_beginLine v (v 12 0) 4) 3 0) - 1)).2)) 3 1) - 1)).2)) 1 99).2)) ((cl_number (cl_beginLine v (v 12 0) 4) 0 (((cl_beginLine v (v 12 0) 4) 3 0) - 1)).1) ((cl_number (cl_word15 ((cl_number (cl_beginLine v (v 12 0) 4) 0 (((cl_beginLine v (v 12 0) 4) 3 0) - 1)).2)) 0 (((cl_word15 ((cl_number (cl_beginLine v (v 12 0) 4) 0 (((cl_beginLine v (v 12 0) 4) 3 0) - 1)).2)) 3 1) - 1)).1) ((cl_number (cl_word23 ((cl_number (cl_word15 ((cl_number (cl_beginLine v (v 12 0) 4) 0 (((cl_beginLine v (v 12 0) 4) 3 0) - 1)).2)) 0 (((cl_word15 ((cl_number (cl_beginLine v (v 12 0) 4) 0 (((cl_beginLine v (v 12 0) 4) 3 0) - 1)).2)) 3 1) - 1)).2)) 1 99).1)) 2 7 = ((cl_stop ((cl_number (cl_word23 ((cl_number (cl_word15 ((cl_number (cl_beginLine v (v 12 0) 4) 0 (((cl_beginLine v (v 12 0) 4) 3 0) - 1)).2)) 0 (((cl_word15 ((cl_number (cl_beginLine v (v 12 0) 4) 0 (((cl_beginLine v (v 12 0) 4) 3 0) - 1)).2)) 3 1) - 1)).2)) 1 99).2)) 2 7) := by rw [o_cl_stAdd12 (by omega)] <;> rfl
    have hb_57 : (cl_stAdd12 (cl_stop ((cl_number (cl_word23 ((cl_number (cl_word15 ((cl_number (cl_beginLine v (v 12 0) 4) 0 (((cl_beginLine v (v 12 0) 4) 3 0) - 1)).2)) 0 (((cl_word15 ((cl_number (cl_beginLine v (v 12 0) 4) 0 (((cl_beginLine v (v 12 0) 4) 3 0) - 1)).2)) 3 1) - 1)).2)) 1 99).2)) ((cl_number (cl_beginLine v (v 12 0) 4) 0 (((cl_beginLine v (v 12 0) 4) 3 0) - 1)).1) ((cl_number (cl_word15 ((cl_number (cl_beginLine v (v 12 0) 4) 0 (((cl_beginLine v (v 12 0) 4) 3 0) - 1)).2)) 0 (((cl_word15 ((cl_number (cl_beginLine v (v 12 0) 4) 0 (((cl_beginLine v (v 12 0) 4) 3 0) - 1)).2)) 3 1) - 1)).1) ((cl_number (cl_word23 ((cl_number (cl_word15 ((cl_number (cl_beginLine v (v 12 0) 4) 0 (((cl_beginLine v (v 12 0) 4) 3 0) - 1)).2)) 0 (((cl_word15 ((cl_number (cl_beginLine v (v 12 0) 4) 0 (((cl_beginLine v (v 12 0) 4) 3 0) - 1)).2)) 3 1) - 1)).2)) 1 99).1)) 2 4 = ((cl_stop ((cl_number (cl_word23 ((cl_number (cl_word15 ((cl_number (cl_beginLine v (v 12 0) 4) 0 (((cl_beginLine v (v 12 0) 4) 3 0) - 1)).2)) 0 (((cl_word15 ((cl_number (cl_beginLine v (v 12 0) 4) 0 (((cl_beginLine v (v 12 0) 4) 3 0) - 1)).2)) 3 1) - 1)).2)) 1 99).2)) 2 4) := by rw [o_cl_stAdd12 (by omega)] <;> rfl
    have hb_58 : (cl_stAdd12 (cl_stop ((cl_number (cl_word23 ((cl_number (cl_word15 ((cl_number (cl_beginLine v (v 12 0) 4) 0 (((cl_beginLine v (v 12 0) 4) 3 0) - 1)).2)) 0 (((cl_word15 ((cl_number (cl_beginLine v (v 12 0) 4) 0 (((cl_beginLine v (v 12 0) 4) 3 0) - 1)).2)) 3 1) - 1)).2)) 1 99).2)) ((cl_number (cl_beginLine v (v 12 0) 4) 0 (((cl_beginLine v (v 12 0) 4) 3 0) - 1)).1) ((cl_number (cl_word15 ((cl_number (cl_beginLine v (v 12 0) 4) 0 (((cl_beginLine v (v 12 0) 4) 3 0) - 1)).2)) 0 (((cl_word15 ((cl_number (cl_beginLine v (v 12 0) 4) 0 (((cl_beginLine v (v 12 0) 4) 3 0) - 1)).2)) 3 1) - 1)).1) ((cl_number (cl_word23 ((cl_number (cl_word15 ((cl_number (cl_beginLine v (v 12 0) 4) 0 (((cl_beginLine v (v 12 0) 4) 3 0) - 1)).2)) 0 (((cl_word15 ((cl_number (cl_beginLine v (v 12 0) 4) 0 (((cl_beginLine v (v 12 0) 4) 3 0) - 1)).2)) 3 1) - 1)).2)) 1 99).1)) 3 2 = ((cl_stop ((cl_number (cl_word23 ((cl_number (cl_word15 ((cl_number (cl_beginLine v (v 12 0) 4) 0 (((cl_beginLine v (v 12 0) 4) 3 0) - 1)).2)) 0 (((cl_word15 ((cl_number (cl_beginLine v (v 12 0) 4) 0 (((cl_beginLine v (v 12 0) 4) 3 0) - 1)).2)) 3 1) - 1)).2)) 1 99).2)) 3 2) := by rw [o_cl_stAdd12 (by omega)] <;> rfl
    refine r_ret (rr := none) (I := .return_) (pc0 := 89) (len := 1) rfl rfl ?_
    exact hQ hX_55 (show ((cl_stAdd12 (cl_stop ((cl_number (cl_word23 ((cl_number (cl_word15 ((cl_number (cl_beginLine v (v 12 0) 4) 0 (((cl_beginLine v (v 12 0) 4) 3 0) - 1)).2)) 0 (((cl_word15 ((cl_number (cl_beginLine v (v 12 0) 4) 0 (((cl_beginLine v (v 12 0) 4) 3 0) - 1)).2)) 3 1) - 1)).2)) 1 99).2)) ((cl_number (cl_beginLine v (v 12 0) 4) 0 (((cl_beginLine v (v 12 0) 4) 3 0) - 1)).1) ((cl_number (cl_word15 ((cl_number (cl_beginLine v (v 12 0) 4) 0 (((cl_beginLine v (v 12 0) 4) 3 0) - 1)).2)) 0 (((cl_word15 ((cl_number (cl_beginLine v (v 12 0) 4) 0 (((cl_beginLine v (v 12 0) 4) 3 0) - 1)).2)) 3 1) - 1)).1) ((cl_number (cl_word23 ((cl_number (cl_word15 ((cl_number (cl_beginLine v (v 12 0) 4) 0 (((cl_beginLine v (v 12 0) 4) 3 0) - 1)).2)) 0 (((cl_word15 ((cl_number (cl_beginLine v (v 12 0) 4) 0 (((cl_beginLine v (v 12 0) 4) 3 0) - 1)).2)) 3 1) - 1)).2)) 1 99).1)) 2 7) ≤ ((cl_stAdd12 (cl_stop ((cl_number (cl_word23 ((cl_number (cl_word15 ((cl_number (cl_beginLine v (v 12 0) 4) 0 (((cl_beginLine v (v 12 0) 4) 3 0) - 1)).2)) 0 (((cl_word15 ((cl_number (cl_beginLine v (v 12 0) 4) 0 (((cl_beginLine v (v 12 0) 4) 3 0) - 1)).2)) 3 1) - 1)).2)) 1 99).2)) ((cl_number (cl_beginLine v (v 12 0) 4) 0 (((cl_beginLine v (v 12 0) 4) 3 0) - 1)).1) ((cl_number (cl_word15 ((cl_number (cl_beginLine v (v 12 0) 4) 0 (((cl_beginLine v (v 12 0) 4) 3 0) - 1)).2)) 0 (((cl_word15 ((cl_number (cl_beginLine v (v 12 0) 4) 0 (((cl_beginLine v (v 12 0) 4) 3 0) - 1)).2)) 3 1) - 1)).1) ((cl_number (cl_word23 ((cl_number (cl_word15 ((cl_number (cl_beginLine v (v 12 0) 4) 0 (((cl_beginLine v (v 12 0) 4) 3 0) - 1)).2)) 0 (((cl_word15 ((cl_number (cl_beginLine v (v 12 0) 4) 0 (((cl_beginLine v (v 12 0) 4) 3 0) - 1)).2)) 3 1) - 1)).2)) 1 99).1)) 2 4) from (by first | assumption | omega | (unfold R32 at *; omega) | (unfold R64 at *; omega) | (simp only [R32, R64] at *; omega)))

theorem e_cl_readStart {X : PX} {d : Nat} {v : VS}  (hX : XI v) (hp_a : (v 2 7) ≤ (v 2 4)) : EvV X (d + 1 + 1 + 1 + 1 + 1 + 1) 51 [.inr (.inr (some 2))] 1 v none 1 (cl_readStart v) := EvV.of (w_cl_readStart hX hp_a (fun _ _ => ⟨rfl, rfl, rfl⟩))

theorem i_cl_readStart {v : VS}  (hX : XI v) (hp_a : (v 2 7) ≤ (v 2 4)) : XI (cl_readStart v) := by
  have q : WV (0, fun _ => 0, none) (0 + 1 + 1 + 1 + 1 + 1 + 1) 51 0 [some (.inr (.inr (some 2))), none, none, none] [] 1 v (fun _ _ _ => XI (cl_readStart v)) := w_cl_readStart (X := (0, fun _ => 0, none)) (d := 0) hX hp_a (fun q _ => q)
  obtain ⟨_, _, _, _, _, _, _, q⟩ := q
  exact q

theorem n_cl_readStart {v : VS}  (hX : XI v) (hp_a : (v 2 7) ≤ (v 2 4)) : ((cl_readStart v) 2 7) ≤ ((cl_readStart v) 2 4) := by
  have q : WV (0, fun _ => 0, none) (0 + 1 + 1 + 1 + 1 + 1 + 1) 51 0 [some (.inr (.inr (some 2))), none, none, none] [] 1 v (fun _ _ _ => ((cl_readStart v) 2 7) ≤ ((cl_readStart v) 2 4)) := w_cl_readStart (X := (0, fun _ => 0, none)) (d := 0) hX hp_a (fun _ q => q)
  obtain ⟨_, _, _, _, _, _, _, q⟩ := q
  exact q

theorem o_cl_readStart {rk : Nat} {v : VS}  (hk : (rk < 2 ∨ 2 < rk) ∧ (rk < 12 ∨ 15 < rk)) : (cl_readStart v ) rk = v rk := by
  unfold cl_readStart
  by_cases hc_ : ((cl_stop ((cl_number (cl_word23 ((cl_number (cl_word15 ((cl_number (cl_beginLine v (v 12 0) 4) 0 (((cl_beginLine v (v 12 0) 4) 3 0) - 1)).2)) 0 (((cl_word15 ((cl_number (cl_beginLine v (v 12 0) 4) 0 (((cl_beginLine v (v 12 0) 4) 3 0) - 1)).2)) 3 1) - 1)).2)) 1 99).2)) 2 1) = 0
  · rw [if_pos hc_]
    all_goals (show (cl_stAdd12 (cl_stop ((cl_number (cl_word23 ((cl_number (cl_word15 ((cl_number (cl_beginLine v (v 12 0) 4) 0 (((cl_beginLine v (v 12 0) 4) 3 0) - 1)).2)) 0 (((cl_word15 ((cl_number (cl_beginLine v (v 12 0) 4) 0 (((cl_beginLine v (v 12 0) 4) 3 0) - 1)).2)) 3 1) - 1)).2)) 1 99).2)) ((cl_number (cl_beginLine v (v 12 0) 4) 0 (((cl_beginLine v (v 12 0) 4) 3 0) - 1)).1) ((cl_number (cl_word15 ((cl_number (cl_beginLine v (v 12 0) 4) 0 (((cl_beginLine v (v 12 0) 4) 3 0) - 1)).2)) 0 (((cl_word15 ((cl_number (cl_beginLine v (v 12 0) 4) 0 (((cl_beginLine v (v 12 0) 4) 3 0) - 1)).2)) 3 1) - 1)).1) ((cl_number (cl_word23 ((cl_number (cl_word15 ((cl_number (cl_beginLine v (v 12 0) 4) 0 (((cl_beginLine v (v 12 0) 4) 3 0) - 1)).2)) 0 (((cl_word15 ((cl_number (cl_beginLine v (v 12 0) 4) 0 (((cl_beginLine v (v 12 0) 4) 3 0) - 1)).2)) 3 1) - 1)).2)) 1 99).1)) rk = _)
    all_goals (rw [o_cl_stAdd12 (by omega), o_cl_stop (by omega), o_cl_number (by omega), o_cl_word23 (by omega), o_cl_number (by omega), o_cl_word15 (by omega), o_cl_number (by omega), o_cl_beginLine (by omega)])
  · rw [if_neg hc_]
    all_goals (show (cl_stop ((cl_number (cl_word23 ((cl_number (cl_word15 ((cl_number (cl_beginLine v (v 12 0) 4) 0 (((cl_beginLine v (v 12 0) 4) 3 0) - 1)).2)) 0 (((cl_word15 ((cl_number (cl_beginLine v (v 12 0) 4) 0 (((cl_beginLine v (v 12 0) 4) 3 0) - 1)).2)) 3 1) - 1)).2)) 1 99).2)) rk = _)
    all_goals (rw [o_cl_stop (by omega), o_cl_number (by omega), o_cl_word23 (by omega), o_cl_number (by omega), o_cl_word15 (by omega), o_cl_number (by omega), o_cl_beginLine (by omega)])

def cl_readLine (v : VS)  : VS :=
  (if (v 3 2) = 0 then (cl_readBay v) else (if (cl_isAt3 v) = 0 then (if (cl_isAt8 v) = 0 then (if (cl_isAt14 v) = 0 then (if (cl_isAt16 v) = 0 then (if (cl_isAt20 v) = 0 then (if (cl_isAt21 v) = 0 then (if (cl_isAt22 v) = 0 then (cl_fail v 1) else (cl_readStart v)) else (cl_readSpell28 (cl_word15 (cl_beginLine v (v 28 0) 6)) (((cl_word15 (cl_beginLine v (v 28 0) 6)) 3 0) - 1))) else (cl_readSpell24 (cl_beginLine v (v 24 0) 6) (((cl_beginLine v (v 24 0) 6) 3 0) - 1))) else (cl_readSpell20 (cl_word17 (cl_beginLine v (v 20 0) 6)) (((cl_word17 (cl_beginLine v (v 20 0) 6)) 7 0) - 1))) else (cl_readWind v)) else (cl_readEar v)) else (cl_readChurch v)))
theorem w_cl_readLine {X : PX} {d : Nat} {v : VS}  (hX : XI v) (hp_a : (v 2 7) ≤ (v 2 4)) {Q : Option PV → Nat → VS → Prop} (hQ : XI (cl_readLine v) → (((cl_readLine v) 2 7) ≤ ((cl_readLine v) 2 4)) → (((cl_readLine v) 3 2) = (v 3 2)) → Q none 1 (cl_readLine v)) : WV X (d + 1 + 1 + 1 + 1 + 1 + 1 + 1 + 1) 24 0 [some (.inr (.inr (some 2)))] [] 1 v Q := by
  rw [cl_readLine] at hQ
  refine r_ex 3 (pc' := 7) (lo' := [some (.inr (.inr (some 2)))]) (st' := [.inl (v 3 2)]) rfl ?_
  have hb_1 : 0 ≤ (v 3 2) ∧ (v 3 2) ≤ 2001 := hX 3 2
  refine n_if_ne (pc0 := 7) (len := 3) (t := 17) rfl (by first | assumption | omega | (unfold R32 at *; omega) | (unfold R64 at *; omega) | (simp only [R32, R64] at *; omega)) (fun h_7 => ?_) (fun h_7 => ?_)
  · show WV _ _ _ 17 _ _ _ _ _
    rw [if_neg h_7] at hQ
    refine r_ex 2 (pc' := 20) (lo' := [some (.inr (.inr (some 2)))]) (st' := [.inr (.inr (some 100007)), .inr (.inr (some 2))]) rfl ?_
    have hp_2 : (v 2 7) ≤ (v 2 4) := (show (v 2 7) ≤ (v 2 4) from (by first | assumption | omega | (unfold R32 at *; omega) | (unfold R64 at *; omega) | (simp only [R32, R64] at *; omega)))
    refine r_call (m := 27) (args := [.inr (.inr (some 2)), .inr (.inr (some 100007))]) (n' := 24) (pc' := 23) (lo' := [some (.inr (.inr (some 2)))]) (st' := []) (I := .invokevirtual 27) (pc0 := 20) (len := 3) rfl rfl rfl (e_cl_isAt3 hX hp_2) ?_
    show WV _ _ _ 23 _ [.inl (cl_isAt3 v)] _ _ _
    have hb_3 := n_cl_isAt3 (v := v) hX hp_2
    refine n_if_eq (pc0 := 23) (len := 3) (t := 33) rfl (by first | assumption | omega | (unfold R32 at *; omega) | (unfold R64 at *; omega) | (simp only [R32, R64] at *; omega)) (fun h_23 => ?_) (fun h_23 => ?_)
    · show WV _ _ _ 33 _ _ _ _ _
      rw [if_pos h_23] at hQ
      refine r_ex 2 (pc' := 36) (lo' := [some (.inr (.inr (some 2)))]) (st' := [.inr (.inr (some 100017)), .inr (.inr (some 2))]) rfl ?_
      have hp_4 : (v 2 7) ≤ (v 2 4) := (show (v 2 7) ≤ (v 2 4) from (by first | assumption | omega | (unfold R32 at *; omega) | (unfold R64 at *; omega) | (simp only [R32, R64] at *; omega)))
      refine r_call (m := 27) (args := [.inr (.inr (some 2)), .inr (.inr (some 100017))]) (n' := 24) (pc' := 39) (lo' := [some (.inr (.inr (some 2)))]) (st' := []) (I := .invokevirtual 27) (pc0 := 36) (len := 3) rfl rfl rfl (e_cl_isAt8 hX hp_4) ?_
      show WV _ _ _ 39 _ [.inl (cl_isAt8 v)] _ _ _
      have hb_5 := n_cl_isAt8 (v := v) hX hp_4
      refine n_if_eq (pc0 := 39) (len := 3) (t := 49) rfl (by first | assumption | omega | (unfold R32 at *; omega) | (unfold R64 at *; omega) | (simp only [R32, R64] at *; omega)) (fun h_39 => ?_) (fun h_39 => ?_)
      · show WV _ _ _ 49 _ _ _ _ _
        rw [if_pos h_39] at hQ
        refine r_ex 2 (pc' := 52) (lo' := [some (.inr (.inr (some 2)))]) (st' := [.inr (.inr (some 100029)), .inr (.inr (some 2))]) rfl ?_
        have hp_6 : (v 2 7) ≤ (v 2 4) := (show (v 2 7) ≤ (v 2 4) from (by first | assumption | omega | (unfold R32 at *; omega) | (unfold R64 at *; omega) | (simp only [R32, R64] at *; omega)))
        refine r_call (m := 27) (args := [.inr (.inr (some 2)), .inr (.inr (some 100029))]) (n' := 24) (pc' := 55) (lo' := [some (.inr (.inr (some 2)))]) (st' := []) (I := .invokevirtual 27) (pc0 := 52) (len := 3) rfl rfl rfl (e_cl_isAt14 hX hp_6) ?_
        show WV _ _ _ 55 _ [.inl (cl_isAt14 v)] _ _ _
        have hb_7 := n_cl_isAt14 (v := v) hX hp_6
        refine n_if_eq (pc0 := 55) (len := 3) (t := 65) rfl (by first | assumption | omega | (unfold R32 at *; omega) | (unfold R64 at *; omega) | (simp only [R32, R64] at *; omega)) (fun h_55 => ?_) (fun h_55 => ?_)
        · show WV _ _ _ 65 _ _ _ _ _
          rw [if_pos h_55] at hQ
          refine r_ex 2 (pc' := 68) (lo' := [some (.inr (.inr (some 2)))]) (st' := [.inr (.inr (some 100033)), .inr (.inr (some 2))]) rfl ?_
          have hp_8 : (v 2 7) ≤ (v 2 4) := (show (v 2 7) ≤ (v 2 4) from (by first | assumption | omega | (unfold R32 at *; omega) | (unfold R64 at *; omega) | (simp only [R32, R64] at *; omega)))
          refine r_call (m := 27) (args := [.inr (.inr (some 2)), .inr (.inr (some 100033))]) (n' := 24) (pc' := 71) (lo' := [some (.inr (.inr (some 2)))]) (st' := []) (I := .invokevirtual 27) (pc0 := 68) (len := 3) rfl rfl rfl (e_cl_isAt16 hX hp_8) ?_
          show WV _ _ _ 71 _ [.inl (cl_isAt16 v)] _ _ _
          have hb_9 := n_cl_isAt16 (v := v) hX hp_8
          refine n_if_eq (pc0 := 71) (len := 3) (t := 122) rfl (by first | assumption | omega | (unfold R32 at *; omega) | (unfold R64 at *; omega) | (simp only [R32, R64] at *; omega)) (fun h_71 => ?_) (fun h_71 => ?_)
          · show WV _ _ _ 122 _ _ _ _ _
            rw [if_pos h_71] at hQ
            refine r_ex 2 (pc' := 125) (lo' := [some (.inr (.inr (some 2)))]) (st' := [.inr (.inr (some 100041)), .inr (.inr (some 2))]) rfl ?_
            have hp_10 : (v 2 7) ≤ (v 2 4) := (show (v 2 7) ≤ (v 2 4) from (by first | assumption | omega | (unfold R32 at *; omega) | (unfold R64 at *; omega) | (simp only [R32, R64] at *; omega)))
            refine r_call (m := 27) (args := [.inr (.inr (some 2)), .inr (.inr (some 100041))]) (n' := 24) (pc' := 128) (lo' := [some (.inr (.inr (some 2)))]) (st' := []) (I := .invokevirtual 27) (pc0 := 125) (len := 3) rfl rfl rfl (e_cl_isAt20 hX hp_10) ?_
            show WV _ _ _ 128 _ [.inl (cl_isAt20 v)] _ _ _
            have hb_11 := n_cl_isAt20 (v := v) hX hp_10
            refine n_if_eq (pc0 := 128) (len := 3) (t := 170) rfl (by first | assumption | omega | (unfold R32 at *; omega) | (unfold R64 at *; omega) | (simp only [R32, R64] at *; omega)) (fun h_128 => ?_) (fun h_128 => ?_)
            · show WV _ _ _ 170 _ _ _ _ _
              rw [if_pos h_128] at hQ
              refine r_ex 2 (pc' := 173) (lo' := [some (.inr (.inr (some 2)))]) (st' := [.inr (.inr (some 100043)), .inr (.inr (some 2))]) rfl ?_
              have hp_12 : (v 2 7) ≤ (v 2 4) := (show (v 2 7) ≤ (v 2 4) from (by first | assumption | omega | (unfold R32 at *; omega) | (unfold R64 at *; omega) | (simp only [R32, R64] at *; omega)))
              refine r_call (m := 27) (args := [.inr (.inr (some 2)), .inr (.inr (some 100043))]) (n' := 24) (pc' := 176) (lo' := [some (.inr (.inr (some 2)))]) (st' := []) (I := .invokevirtual 27) (pc0 := 173) (len := 3) rfl rfl rfl (e_cl_isAt21 hX hp_12) ?_
              show WV _ _ _ 176 _ [.inl (cl_isAt21 v)] _ _ _
              have hb_13 := n_cl_isAt21 (v := v) hX hp_12
              refine n_if_eq (pc0 := 176) (len := 3) (t := 224) rfl (by first | assumption | omega | (unfold R32 at *; omega) | (unfold R64 at *; omega) | (simp only [R32, R64] at *; omega)) (fun h_176 => ?_) (fun h_176 => ?_)
              · show WV _ _ _ 224 _ _ _ _ _
                rw [if_pos h_176] at hQ
                refine r_ex 2 (pc' := 227) (lo' := [some (.inr (.inr (some 2)))]) (st' := [.inr (.inr (some 100045)), .inr (.inr (some 2))]) rfl ?_
                have hp_14 : (v 2 7) ≤ (v 2 4) := (show (v 2 7) ≤ (v 2 4) from (by first | assumption | omega | (unfold R32 at *; omega) | (unfold R64 at *; omega) | (simp only [R32, R64] at *; omega)))
                refine r_call (m := 27) (args := [.inr (.inr (some 2)), .inr (.inr (some 100045))]) (n' := 24) (pc' := 230) (lo' := [some (.inr (.inr (some 2)))]) (st' := []) (I := .invokevirtual 27) (pc0 := 227) (len := 3) rfl rfl rfl (e_cl_isAt22 hX hp_14) ?_
                show WV _ _ _ 230 _ [.inl (cl_isAt22 v)] _ _ _
                have hb_15 := n_cl_isAt22 (v := v) hX hp_14
                refine n_if_eq (pc0 := 230) (len := 3) (t := 240) rfl (by first | assumption | omega | (unfold R32 at *; omega) | (unfold R64 at *; omega) | (simp only [R32, R64] at *; omega)) (fun h_230 => ?_) (fun h_230 => ?_)
                · show WV _ _ _ 240 _ _ _ _ _
                  rw [if_pos h_230] at hQ
                  refine r_ex 2 (pc' := 242) (lo' := [some (.inr (.inr (some 2)))]) (st' := [.inl 1, .inr (.inr (some 2))]) rfl ?_
                  have hp_16 : 1 ≤ (1 : Int) ∧ (1 : Int) ≤ 3 := (by first | assumption | omega | (unfold R32 at *; omega) | (unfold R64 at *; omega) | (simp only [R32, R64] at *; omega))
                  have hp_17 : (v 2 7) ≤ (v 2 4) := (show (v 2 7) ≤ (v 2 4) from (by first | assumption | omega | (unfold R32 at *; omega) | (unfold R64 at *; omega) | (simp only [R32, R64] at *; omega)))
                  refine r_call (m := 39) (args := [.inr (.inr (some 2)), .inl 1]) (n' := 24) (pc' := 245) (lo' := [some (.inr (.inr (some 2)))]) (st' := []) (I := .invokevirtual 39) (pc0 := 242) (len := 3) rfl rfl rfl (e_cl_fail hX hp_16 hp_17) ?_
                  show WV _ _ _ 245 _ [] _ (cl_fail v 1) _
                  have hX_18 : XI (cl_fail v 1) := i_cl_fail (v := v) (k := 1) hX hp_16 hp_17
                  have hb_19 : (cl_fail v 1) 3 2 = (v 3 2) := by rw [o_cl_fail (by omega)] <;> rfl
                  have hb_20 : ((cl_fail v 1) 2 7) ≤ ((cl_fail v 1) 2 4) := n_cl_fail (v := v) (k := 1) hX hp_16 hp_17
                  refine r_ret (rr := none) (I := .return_) (pc0 := 245) (len := 1) rfl rfl ?_
                  exact hQ hX_18 (show ((cl_fail v 1) 2 7) ≤ ((cl_fail v 1) 2 4) from (by first | assumption | omega | (unfold R32 at *; omega) | (unfold R64 at *; omega) | (simp only [R32, R64] at *; omega))) (show ((cl_fail v 1) 3 2) = (v 3 2) from (by first | assumption | omega | (unfold R32 at *; omega) | (unfold R64 at *; omega) | (simp only [R32, R64] at *; omega)))
                · show WV _ _ _ 233 _ _ _ _ _
                  rw [if_neg h_230] at hQ
                  refine r_ex 1 (pc' := 234) (lo' := [some (.inr (.inr (some 2)))]) (st' := [.inr (.inr (some 2))]) rfl ?_
                  have hp_21 : (v 2 7) ≤ (v 2 4) := (show (v 2 7) ≤ (v 2 4) from (by first | assumption | omega | (unfold R32 at *; omega) | (unfold R64 at *; omega) | (simp only [R32, R64] at *; omega)))
                  refine r_call (m := 51) (args := [.inr (.inr (some 2))]) (n' := 24) (pc' := 237) (lo' := [some (.inr (.inr (some 2)))]) (st' := []) (I := .invokevirtual 51) (pc0 := 234) (len := 3) rfl rfl rfl (e_cl_readStart hX hp_21) ?_
                  show WV _ _ _ 237 _ [] _ (cl_readStart v) _
                  have hX_22 : XI (cl_readStart v) := i_cl_readStart (v := v) hX hp_21
                  have hb_23 : (cl_readStart v) 3 2 = (v 3 2) := by rw [o_cl_readStart (by omega)] <;> rfl
                  have hb_24 : ((cl_readStart v) 2 7) ≤ ((cl_readStart v) 2 4) := n_cl_readStart (v := v) hX hp_21
                  refine r_ex 1 (pc' := 245) (lo' := [some (.inr (.inr (some 2)))]) (st' := []) rfl ?_
                  refine r_ret (rr := none) (I := .return_) (pc0 := 245) (len := 1) rfl rfl ?_
                  exact hQ hX_22 (show ((cl_readStart v) 2 7) ≤ ((cl_readStart v) 2 4) from (by first | assumption | omega | (unfold R32 at *; omega) | (unfold R64 at *; omega) | (simp only [R32, R64] at *; omega))) (show ((cl_readStart v) 3 2) = (v 3 2) from (by first | assumption | omega | (unfold R32 at *; omega) | (unfold R64 at *; omega) | (simp only [R32, R64] at *; omega)))
              · show WV _ _ _ 179 _ _ _ _ _
                rw [if_neg h_176] at hQ
                refine r_ex 6 (pc' := 192) (lo' := [some (.inr (.inr (some 2)))]) (st' := [.inl 6, .inl (v 28 0), .inr (.inr (some 2))]) rfl ?_
                have hb_25 : 0 ≤ (v 28 0) ∧ (v 28 0) ≤ 6 := hX 28 0
                have hp_26 : R32 (v 28 0) := (by first | assumption | omega | (unfold R32 at *; omega) | (unfold R64 at *; omega) | (simp only [R32, R64] at *; omega))
                have hp_27 : R32 (6 : Int) := (by first | assumption | omega | (unfold R32 at *; omega) | (unfold R64 at *; omega) | (simp only [R32, R64] at *; omega))
                have hp_28 : (v 2 7) ≤ (v 2 4) := (show (v 2 7) ≤ (v 2 4) from (by first | assumption | omega | (unfold R32 at *; omega) | (unfold R64 at *; omega) | (simp only [R32, R64] at *; omega)))
                refine r_call (m := 43) (args := [.inr (.inr (some 2)), .inl (v 28 0), .inl 6]) (n' := 24) (pc' := 195) (lo' := [some (.inr (.inr (some 2)))]) (st' := []) (I := .invokevirtual 43) (pc0 := 192) (len := 3) rfl rfl rfl (e_cl_beginLine hX hp_26 hp_27 hp_28) ?_
                show WV _ _ _ 195 _ [] _ (cl_beginLine v (v 28 0) 6) _
                have hX_29 : XI (cl_beginLine v (v 28 0) 6) := i_cl_beginLine (v := v) (n := (v 28 0)) (s := 6) hX hp_26 hp_27 hp_28
                have hb_30 : (cl_beginLine v (v 28 0) 6) 3 2 = (v 3 2) := by rw [o_cl_beginLine (by omega)] <;> rfl
                have hb_31 : ((cl_beginLine v (v 28 0) 6) 2 7) ≤ ((cl_beginLine v (v 28 0) 6) 2 4) := n_cl_beginLine (v := v) (n := (v 28 0)) (s := 6) hX hp_26 hp_27 hp_28
                refine r_ex 2 (pc' := 198) (lo' := [some (.inr (.inr (some 2)))]) (st' := [.inr (.inr (some 100031)), .inr (.inr (some 2))]) rfl ?_
                have hp_32 : ((cl_beginLine v (v 28 0) 6) 2 7) ≤ ((cl_beginLine v (v 28 0) 6) 2 4) := (show ((cl_beginLine v (v 28 0) 6) 2 7) ≤ ((cl_beginLine v (v 28 0) 6) 2 4) from (by first | assumption | omega | (unfold R32 at *; omega) | (unfold R64 at *; omega) | (simp only [R32, R64] at *; omega)))
                refine r_call (m := 26) (args := [.inr (.inr (some 2)), .inr (.inr (some 100031))]) (n' := 24) (pc' := 201) (lo' := [some (.inr (.inr (some 2)))]) (st' := []) (I := .invokevirtual 26) (pc0 := 198) (len := 3) rfl rfl rfl (e_cl_word15 hX_29 hp_32) ?_
                show WV _ _ _ 201 _ [] _ (cl_word15 (cl_beginLine v (v 28 0) 6)) _
                have hX_33 : XI (cl_word15 (cl_beginLine v (v 28 0) 6)) := i_cl_word15 (v := (cl_beginLine v (v 28 0) 6)) hX_29 hp_32
                have hb_34 : (cl_word15 (cl_beginLine v (v 28 0) 6)) 3 2 = ((cl_beginLine v (v 28 0) 6) 3 2) := by rw [o_cl_word15 (by omega)] <;> rfl
                have hb_35 : ((cl_word15 (cl_beginLine v (v 28 0) 6)) 2 7) ≤ ((cl_word15 (cl_beginLine v (v 28 0) 6)) 2 4) := n_cl_word15 (v := (cl_beginLine v (v 28 0) 6)) hX_29 hp_32
                refine r_ex 9 (pc' := 218) (lo' := [some (.inr (.inr (some 2)))]) (st' := [.inl (((cl_word15 (cl_beginLine v (v 28 0) 6)) 3 0) - 1), .inr (.inr (some 28)), .inr (.inr (some 2))]) rfl ?_
                have hb_36 : 0 ≤ ((cl_word15 (cl_beginLine v (v 28 0) 6)) 3 0) ∧ ((cl_word15 (cl_beginLine v (v 28 0) 6)) 3 0) ≤ 9 := hX_33 3 0
                have hp_37 : -1 ≤ (((cl_word15 (cl_beginLine v (v 28 0) 6)) 3 0) - 1) ∧ (((cl_word15 (cl_beginLine v (v 28 0) 6)) 3 0) - 1) ≤ 8 := (by first | assumption | omega | (unfold R32 at *; omega) | (unfold R64 at *; omega) | (simp only [R32, R64] at *; omega))
                have hp_38 : ((cl_word15 (cl_beginLine v (v 28 0) 6)) 2 7) ≤ ((cl_word15 (cl_beginLine v (v 28 0) 6)) 2 4) := (show ((cl_word15 (cl_beginLine v (v 28 0) 6)) 2 7) ≤ ((cl_word15 (cl_beginLine v (v 28 0) 6)) 2 4) from (by first | assumption | omega | (unfold R32 at *; omega) | (unfold R64 at *; omega) | (simp only [R32, R64] at *; omega)))
                refine r_call (m := 50) (args := [.inr (.inr (some 2)), .inr (.inr (some 28)), .inl (((cl_word15 (cl_beginLine v (v 28 0) 6)) 3 0) - 1)]) (n' := 24) (pc' := 221) (lo' := [some (.inr (.inr (some 2)))]) (st' := []) (I := .invokevirtual 50) (pc0 := 218) (len := 3) rfl rfl rfl (e_cl_readSpell28 hX_33 hp_37 hp_38) ?_
                show WV _ _ _ 221 _ [] _ (cl_readSpell28 (cl_word15 (cl_beginLine v (v 28 0) 6)) (((cl_word15 (cl_beginLine v (v 28 0) 6)) 3 0) - 1)) _
                have hX_39 : XI (cl_readSpell28 (cl_word15 (cl_beginLine v (v 28 0) 6)) (((cl_word15 (cl_beginLine v (v 28 0) 6)) 3 0) - 1)) := i_cl_readSpell28 (v := (cl_word15 (cl_beginLine v (v 28 0) 6))) (g := (((cl_word15 (cl_beginLine v (v 28 0) 6)) 3 0) - 1)) hX_33 hp_37 hp_38
                have hb_40 : (cl_readSpell28 (cl_word15 (cl_beginLine v (v 28 0) 6)) (((cl_word15 (cl_beginLine v (v 28 0) 6)) 3 0) - 1)) 3 2 = ((cl_word15 (cl_beginLine v (v 28 0) 6)) 3 2) := by rw [o_cl_readSpell28 (by omega)] <;> rfl
                have hb_41 : ((cl_readSpell28 (cl_word15 (cl_beginLine v (v 28 0) 6)) (((cl_word15 (cl_beginLine v (v 28 0) 6)) 3 0) - 1)) 2 7) ≤ ((cl_readSpell28 (cl_word15 (cl_beginLine v (v 28 0) 6)) (((cl_word15 (cl_beginLine v (v 28 0) 6)) 3 0) - 1)) 2 4) := n_cl_readSpell28 (v := (cl_word15 (cl_beginLine v (v 28 0) 6))) (g := (((cl_word15 (cl_beginLine v (v 28 0) 6)) 3 0) - 1)) hX_33 hp_37 hp_38
                refine r_ex 1 (pc' := 245) (lo' := [some (.inr (.inr (some 2)))]) (st' := []) rfl ?_
                refine r_ret (rr := none) (I := .return_) (pc0 := 245) (len := 1) rfl rfl ?_
                exact hQ hX_39 (show ((cl_readSpell28 (cl_word15 (cl_beginLine v (v 28 0) 6)) (((cl_word15 (cl_beginLine v (v 28 0) 6)) 3 0) - 1)) 2 7) ≤ ((cl_readSpell28 (cl_word15 (cl_beginLine v (v 28 0) 6)) (((cl_word15 (cl_beginLine v (v 28 0) 6)) 3 0) - 1)) 2 4) from (by first | assumption | omega | (unfold R32 at *; omega) | (unfold R64 at *; omega) | (simp only [R32, R64] at *; omega))) (show ((cl_readSpell28 (cl_word15 (cl_beginLine v (v 28 0) 6)) (((cl_word15 (cl_beginLine v (v 28 0) 6)) 3 0) - 1)) 3 2) = (v 3 2) from (by first | assumption | omega | (unfold R32 at *; omega) | (unfold R64 at *; omega) | (simp only [R32, R64] at *; omega)))
            · show WV _ _ _ 131 _ _ _ _ _
              rw [if_neg h_128] at hQ
              refine r_ex 6 (pc' := 144) (lo' := [some (.inr (.inr (some 2)))]) (st' := [.inl 6, .inl (v 24 0), .inr (.inr (some 2))]) rfl ?_
              have hb_42 : 0 ≤ (v 24 0) ∧ (v 24 0) ≤ 6 := hX 24 0
              have hp_43 : R32 (v 24 0) := (by first | assumption | omega | (unfold R32 at *; omega) | (unfold R64 at *; omega) | (simp only [R32, R64] at *; omega))
              have hp_44 : R32 (6 : Int) := (by first | assumption | omega | (unfold R32 at *; omega) | (unfold R64 at *; omega) | (simp only [R32, R64] at *; omega))
              have hp_45 : (v 2 7) ≤ (v 2 4) := (show (v 2 7) ≤ (v 2 4) from (by first | assumption | omega | (unfold R32 at *; omega) | (unfold R64 at *; omega) | (simp only [R32, R64] at *; omega)))
              refine r_call (m := 43) (args := [.inr (.inr (some 2)), .inl (v 24 0), .inl 6]) (n' := 24) (pc' := 147) (lo' := [some (.inr (.inr (some 2)))]) (st' := []) (I := .invokevirtual 43) (pc0 := 144) (len := 3) rfl rfl rfl (e_cl_beginLine hX hp_43 hp_44 hp_45) ?_
              show WV _ _ _ 147 _ [] _ (cl_beginLine v (v 24 0) 6) _
              have hX_46 : XI (cl_beginLine v (v 24 0) 6) := i_cl_beginLine (v := v) (n := (v 24 0)) (s := 6) hX hp_43 hp_44 hp_45
              have hb_47 : (cl_beginLine v (v 24 0) 6) 3 2 = (v 3 2) := by rw [o_cl_beginLine (by omega)] <;> rfl
              have hb_48 : ((cl_beginLine v (v 24 0) 6) 2 7) ≤ ((cl_beginLine v (v 24 0) 6) 2 4) := n_cl_beginLine (v := v) (n := (v 24 0)) (s := 6) hX hp_43 hp_44 hp_45
              refine r_ex 9 (pc' := 164) (lo' := [some (.inr (.inr (some 2)))]) (st' := [.inl (((cl_beginLine v (v 24 0) 6) 3 0) - 1), .inr (.inr (some 24)), .inr (.inr (some 2))]) rfl ?_
              have hb_49 : 0 ≤ ((cl_beginLine v (v 24 0) 6) 3 0) ∧ ((cl_beginLine v (v 24 0) 6) 3 0) ≤ 9 := hX_46 3 0
              have hp_50 : -1 ≤ (((cl_beginLine v (v 24 0) 6) 3 0) - 1) ∧ (((cl_beginLine v (v 24 0) 6) 3 0) - 1) ≤ 8 := (by first | assumption | omega | (unfold R32 at *; omega) | (unfold R64 at *; omega) | (simp only [R32, R64] at *; omega))
              have hp_51 : ((cl_beginLine v (v 24 0) 6) 2 7) ≤ ((cl_beginLine v (v 24 0) 6) 2 4) := (show ((cl_beginLine v (v 24 0) 6) 2 7) ≤ ((cl_beginLine v (v 24 0) 6) 2 4) from (by first | assumption | omega | (unfold R32 at *; omega) | (unfold R64 at *; omega) | (simp only [R32, R64] at *; omega)))
              refine r_call (m := 50) (args := [.inr (.inr (some 2)), .inr (.inr (some 24)), .inl (((cl_beginLine v (v 24 0) 6) 3 0) - 1)]) (n' := 24) (pc' := 167) (lo' := [some (.inr (.inr (some 2)))]) (st' := []) (I := .invokevirtual 50) (pc0 := 164) (len := 3) rfl rfl rfl (e_cl_readSpell24 hX_46 hp_50 hp_51) ?_
              show WV _ _ _ 167 _ [] _ (cl_readSpell24 (cl_beginLine v (v 24 0) 6) (((cl_beginLine v (v 24 0) 6) 3 0) - 1)) _
              have hX_52 : XI (cl_readSpell24 (cl_beginLine v (v 24 0) 6) (((cl_beginLine v (v 24 0) 6) 3 0) - 1)) := i_cl_readSpell24 (v := (cl_beginLine v (v 24 0) 6)) (g := (((cl_beginLine v (v 24 0) 6) 3 0) - 1)) hX_46 hp_50 hp_51
              have hb_53 : (cl_readSpell24 (cl_beginLine v (v 24 0) 6) (((cl_beginLine v (v 24 0) 6) 3 0) - 1)) 3 2 = ((cl_beginLine v (v 24 0) 6) 3 2) := by rw [o_cl_readSpell24 (by omega)] <;> rfl
              have hb_54 : ((cl_readSpell24 (cl_beginLine v (v 24 0) 6) (((cl_beginLine v (v 24 0) 6) 3 0) - 1)) 2 7) ≤ ((cl_readSpell24 (cl_beginLine v (v 24 0) 6) (((cl_beginLine v (v 24 0) 6) 3 0) - 1)) 2 4) := n_cl_readSpell24 (v := (cl_beginLine v (v 24 0) 6)) (g := (((cl_beginLine v (v 24 0) 6) 3 0) - 1)) hX_46 hp_50 hp_51
              refine r_ex 1 (pc' := 245) (lo' := [some (.inr (.inr (some 2)))]) (st' := []) rfl ?_
              refine r_ret (rr := none) (I := .return_) (pc0 := 245) (len := 1) rfl rfl ?_
              exact hQ hX_52 (show ((cl_readSpell24 (cl_beginLine v (v 24 0) 6) (((cl_beginLine v (v 24 0) 6) 3 0) - 1)) 2 7) ≤ ((cl_readSpell24 (cl_beginLine v (v 24 0) 6) (((cl_beginLine v (v 24 0) 6) 3 0) - 1)) 2 4) from (by first | assumption | omega | (unfold R32 at *; omega) | (unfold R64 at *; omega) | (simp only [R32, R64] at *; omega))) (show ((cl_readSpell24 (cl_beginLine v (v 24 0) 6) (((cl_beginLine v (v 24 0) 6) 3 0) - 1)) 3 2) = (v 3 2) from (by first | assumption | omega | (unfold R32 at *; omega) | (unfold R64 at *; omega) | (simp only [R32, R64] at *; omega)))
          · show WV _ _ _ 74 _ _ _ _ _
            rw [if_neg h_71] at hQ
            refine r_ex 6 (pc' := 87) (lo' := [some (.inr (.inr (some 2)))]) (st' := [.inl 6, .inl (v 20 0), .inr (.inr (some 2))]) rfl ?_
            have hb_55 : 0 ≤ (v 20 0) ∧ (v 20 0) ≤ 6 := hX 20 0
            have hp_56 : R32 (v 20 0) := (by first | assumption | omega | (unfold R32 at *; omega) | (unfold R64 at *; omega) | (simp only [R32, R64] at *; omega))
            have hp_57 : R32 (6 : Int) := (by first | assumption | omega | (unfold R32 at *; omega) | (unfold R64 at *; omega) | (simp only [R32, R64] at *; omega))
            have hp_58 : (v 2 7) ≤ (v 2 4) := (show (v 2 7) ≤ (v 2 4) from (by first | assumption | omega | (unfold R32 at *; omega) | (unfold R64 at *; omega) | (simp only [R32, R64] at *; omega)))
            refine r_call (m := 43) (args := [.inr (.inr (some 2)), .inl (v 20 0), .inl 6]) (n' := 24) (pc' := 90) (lo' := [some (.inr (.inr (some 2)))]) (st' := []) (I := .invokevirtual 43) (pc0 := 87) (len := 3) rfl rfl rfl (e_cl_beginLine hX hp_56 hp_57 hp_58) ?_
            show WV _ _ _ 90 _ [] _ (cl_beginLine v (v 20 0) 6) _
            have hX_59 : XI (cl_beginLine v (v 20 0) 6) := i_cl_beginLine (v := v) (n := (v 20 0)) (s := 6) hX hp_56 hp_57 hp_58
            have hb_60 : (cl_beginLine v (v 20 0) 6) 3 2 = (v 3 2) := by rw [o_cl_beginLine (by omega)] <;> rfl
            have hb_61 : ((cl_beginLine v (v 20 0) 6) 2 7) ≤ ((cl_beginLine v (v 20 0) 6) 2 4) := n_cl_beginLine (v := v) (n := (v 20 0)) (s := 6) hX hp_56 hp_57 hp_58
            refine r_ex 2 (pc' := 93) (lo' := [some (.inr (.inr (some 2)))]) (st' := [.inr (.inr (some 100035)), .inr (.inr (some 2))]) rfl ?_
            have hp_62 : ((cl_beginLine v (v 20 0) 6) 2 7) ≤ ((cl_beginLine v (v 20 0) 6) 2 4) := (show ((cl_beginLine v (v 20 0) 6) 2 7) ≤ ((cl_beginLine v (v 20 0) 6) 2 4) from (by first | assumption | omega | (unfold R32 at *; omega) | (unfold R64 at *; omega) | (simp only [R32, R64] at *; omega)))
            refine r_call (m := 26) (args := [.inr (.inr (some 2)), .inr (.inr (some 100035))]) (n' := 24) (pc' := 96) (lo' := [some (.inr (.inr (some 2)))]) (st' := []) (I := .invokevirtual 26) (pc0 := 93) (len := 3) rfl rfl rfl (e_cl_word17 hX_59 hp_62) ?_
            show WV _ _ _ 96 _ [] _ (cl_word17 (cl_beginLine v (v 20 0) 6)) _
            have hX_63 : XI (cl_word17 (cl_beginLine v (v 20 0) 6)) := i_cl_word17 (v := (cl_beginLine v (v 20 0) 6)) hX_59 hp_62
            have hb_64 : (cl_word17 (cl_beginLine v (v 20 0) 6)) 3 2 = ((cl_beginLine v (v 20 0) 6) 3 2) := by rw [o_cl_word17 (by omega)] <;> rfl
            have hb_65 : ((cl_word17 (cl_beginLine v (v 20 0) 6)) 2 7) ≤ ((cl_word17 (cl_beginLine v (v 20 0) 6)) 2 4) := n_cl_word17 (v := (cl_beginLine v (v 20 0) 6)) hX_59 hp_62
            refine r_ex 10 (pc' := 116) (lo' := [some (.inr (.inr (some 2)))]) (st' := [.inl (((cl_word17 (cl_beginLine v (v 20 0) 6)) 7 0) - 1), .inr (.inr (some 20)), .inr (.inr (some 2))]) rfl ?_
            have hb_66 : 0 ≤ ((cl_word17 (cl_beginLine v (v 20 0) 6)) 7 0) ∧ ((cl_word17 (cl_beginLine v (v 20 0) 6)) 7 0) ≤ 12 := hX_63 7 0
            have hp_67 : -1 ≤ (((cl_word17 (cl_beginLine v (v 20 0) 6)) 7 0) - 1) ∧ (((cl_word17 (cl_beginLine v (v 20 0) 6)) 7 0) - 1) ≤ 11 := (by first | assumption | omega | (unfold R32 at *; omega) | (unfold R64 at *; omega) | (simp only [R32, R64] at *; omega))
            have hp_68 : ((cl_word17 (cl_beginLine v (v 20 0) 6)) 2 7) ≤ ((cl_word17 (cl_beginLine v (v 20 0) 6)) 2 4) := (show ((cl_word17 (cl_beginLine v (v 20 0) 6)) 2 7) ≤ ((cl_word17 (cl_beginLine v (v 20 0) 6)) 2 4) from (by first | assumption | omega | (unfold R32 at *; omega) | (unfold R64 at *; omega) | (simp only [R32, R64] at *; omega)))
            refine r_call (m := 50) (args := [.inr (.inr (some 2)), .inr (.inr (some 20)), .inl (((cl_word17 (cl_beginLine v (v 20 0) 6)) 7 0) - 1)]) (n' := 24) (pc' := 119) (lo' := [some (.inr (.inr (some 2)))]) (st' := []) (I := .invokevirtual 50) (pc0 := 116) (len := 3) rfl rfl rfl (e_cl_readSpell20 hX_63 hp_67 hp_68) ?_
            show WV _ _ _ 119 _ [] _ (cl_readSpell20 (cl_word17 (cl_beginLine v (v 20 0) 6)) (((cl_word17 (cl_beginLine v (v 20 0) 6)) 7 0) - 1)) _
            have hX_69 : XI (cl_readSpell20 (cl_word17 (cl_beginLine v (v 20 0) 6)) (((cl_word17 (cl_beginLine v (v 20 0) 6)) 7 0) - 1)) := i_cl_readSpell20 (v := (cl_word17 (cl_beginLine v (v 20 0) 6))) (g := (((cl_word17 (cl_beginLine v (v 20 0) 6)) 7 0) - 1)) hX_63 hp_67 hp_68
            have hb_70 : (cl_readSpell20 (cl_word17 (cl_beginLine v (v 20 0) 6)) (((cl_word17 (cl_beginLine v (v 20 0) 6)) 7 0) - 1)) 3 2 = ((cl_word17 (cl_beginLine v (v 20 0) 6)) 3 2) := by rw [o_cl_readSpell20 (by omega)] <;> rfl
            have hb_71 : ((cl_readSpell20 (cl_word17 (cl_beginLine v (v 20 0) 6)) (((cl_word17 (cl_beginLine v (v 20 0) 6)) 7 0) - 1)) 2 7) ≤ ((cl_readSpell20 (cl_word17 (cl_beginLine v (v 20 0) 6)) (((cl_word17 (cl_beginLine v (v 20 0) 6)) 7 0) - 1)) 2 4) := n_cl_readSpell20 (v := (cl_word17 (cl_beginLine v (v 20 0) 6))) (g := (((cl_word17 (cl_beginLine v (v 20 0) 6)) 7 0) - 1)) hX_63 hp_67 hp_68
            refine r_ex 1 (pc' := 245) (lo' := [some (.inr (.inr (some 2)))]) (st' := []) rfl ?_
            refine r_ret (rr := none) (I := .return_) (pc0 := 245) (len := 1) rfl rfl ?_
            exact hQ hX_69 (show ((cl_readSpell20 (cl_word17 (cl_beginLine v (v 20 0) 6)) (((cl_word17 (cl_beginLine v (v 20 0) 6)) 7 0) - 1)) 2 7) ≤ ((cl_readSpell20 (cl_word17 (cl_beginLine v (v 20 0) 6)) (((cl_word17 (cl_beginLine v (v 20 0) 6)) 7 0) - 1)) 2 4) from (by first | assumption | omega | (unfold R32 at *; omega) | (unfold R64 at *; omega) | (simp only [R32, R64] at *; omega))) (show ((cl_readSpell20 (cl_word17 (cl_beginLine v (v 20 0) 6)) (((cl_word17 (cl_beginLine v (v 20 0) 6)) 7 0) - 1)) 3 2) = (v 3 2) from (by first | assumption | omega | (unfold R32 at *; omega) | (unfold R64 at *; omega) | (simp only [R32, R64] at *; omega)))
        · show WV _ _ _ 58 _ _ _ _ _
          rw [if_neg h_55] at hQ
          refine r_ex 1 (pc' := 59) (lo' := [some (.inr (.inr (some 2)))]) (st' := [.inr (.inr (some 2))]) rfl ?_
          have hp_72 : (v 2 7) ≤ (v 2 4) := (show (v 2 7) ≤ (v 2 4) from (by first | assumption | omega | (unfold R32 at *; omega) | (unfold R64 at *; omega) | (simp only [R32, R64] at *; omega)))
          refine r_call (m := 48) (args := [.inr (.inr (some 2))]) (n' := 24) (pc' := 62) (lo' := [some (.inr (.inr (some 2)))]) (st' := []) (I := .invokevirtual 48) (pc0 := 59) (len := 3) rfl rfl rfl (e_cl_readWind hX hp_72) ?_
          show WV _ _ _ 62 _ [] _ (cl_readWind v) _
          have hX_73 : XI (cl_readWind v) := i_cl_readWind (v := v) hX hp_72
          have hb_74 : (cl_readWind v) 3 2 = (v 3 2) := by rw [o_cl_readWind (by omega)] <;> rfl
          have hb_75 : ((cl_readWind v) 2 7) ≤ ((cl_readWind v) 2 4) := n_cl_readWind (v := v) hX hp_72
          refine r_ex 1 (pc' := 245) (lo' := [some (.inr (.inr (some 2)))]) (st' := []) rfl ?_
          refine r_ret (rr := none) (I := .return_) (pc0 := 245) (len := 1) rfl rfl ?_
          exact hQ hX_73 (show ((cl_readWind v) 2 7) ≤ ((cl_readWind v) 2 4) from (by first | assumption | omega | (unfold R32 at *; omega) | (unfold R64 at *; omega) | (simp only [R32, R64] at *; omega))) (show ((cl_readWind v) 3 2) = (v 3 2) from (by first | assumption | omega | (unfold R32 at *; omega) | (unfold R64 at *; omega) | (simp only [R32, R64] at *; omega)))
      · show WV _ _ _ 42 _ _ _ _ _
        rw [if_neg h_39] at hQ
        refine r_ex 1 (pc' := 43) (lo' := [some (.inr (.inr (some 2)))]) (st' := [.inr (.inr (some 2))]) rfl ?_
        have hp_76 : (v 2 7) ≤ (v 2 4) := (show (v 2 7) ≤ (v 2 4) from (by first | assumption | omega | (unfold R32 at *; omega) | (unfold R64 at *; omega) | (simp only [R32, R64] at *; omega)))
        refine r_call (m := 45) (args := [.inr (.inr (some 2))]) (n' := 24) (pc' := 46) (lo' := [some (.inr (.inr (some 2)))]) (st' := []) (I := .invokevirtual 45) (pc0 := 43) (len := 3) rfl rfl rfl (e_cl_readEar hX hp_76) ?_
        show WV _ _ _ 46 _ [] _ (cl_readEar v) _
        have hX_77 : XI (cl_readEar v) := i_cl_readEar (v := v) hX hp_76
        have hb_78 : (cl_readEar v) 3 2 = (v 3 2) := by rw [o_cl_readEar (by omega)] <;> rfl
        have hb_79 : ((cl_readEar v) 2 7) ≤ ((cl_readEar v) 2 4) := n_cl_readEar (v := v) hX hp_76
        refine r_ex 1 (pc' := 245) (lo' := [some (.inr (.inr (some 2)))]) (st' := []) rfl ?_
        refine r_ret (rr := none) (I := .return_) (pc0 := 245) (len := 1) rfl rfl ?_
        exact hQ hX_77 (show ((cl_readEar v) 2 7) ≤ ((cl_readEar v) 2 4) from (by first | assumption | omega | (unfold R32 at *; omega) | (unfold R64 at *; omega) | (simp only [R32, R64] at *; omega))) (show ((cl_readEar v) 3 2) = (v 3 2) from (by first | assumption | omega | (unfold R32 at *; omega) | (unfold R64 at *; omega) | (simp only [R32, R64] at *; omega)))
    · show WV _ _ _ 26 _ _ _ _ _
      rw [if_neg h_23] at hQ
      refine r_ex 1 (pc' := 27) (lo' := [some (.inr (.inr (some 2)))]) (st' := [.inr (.inr (some 2))]) rfl ?_
      have hp_80 : (v 2 7) ≤ (v 2 4) := (show (v 2 7) ≤ (v 2 4) from (by first | assumption | omega | (unfold R32 at *; omega) | (unfold R64 at *; omega) | (simp only [R32, R64] at *; omega)))
      refine r_call (m := 42) (args := [.inr (.inr (some 2))]) (n' := 24) (pc' := 30) (lo' := [some (.inr (.inr (some 2)))]) (st' := []) (I := .invokevirtual 42) (pc0 := 27) (len := 3) rfl rfl rfl (e_cl_readChurch hX hp_80) ?_
      show WV _ _ _ 30 _ [] _ (cl_readChurch v) _
      have hX_81 : XI (cl_readChurch v) := i_cl_readChurch (v := v) hX hp_80
      have hb_82 : ((cl_readChurch v) 2 7) ≤ ((cl_readChurch v) 2 4) := n0_cl_readChurch (v := v) hX hp_80
      have hb_83 : ((cl_readChurch v) 3 2) = (v 3 2) := n1_cl_readChurch (v := v) hX hp_80
      refine r_ex 1 (pc' := 245) (lo' := [some (.inr (.inr (some 2)))]) (st' := []) rfl ?_
      refine r_ret (rr := none) (I := .return_) (pc0 := 245) (len := 1) rfl rfl ?_
      exact hQ hX_81 (show ((cl_readChurch v) 2 7) ≤ ((cl_readChurch v) 2 4) from (by first | assumption | omega | (unfold R32 at *; omega) | (unfold R64 at *; omega) | (simp only [R32, R64] at *; omega))) (show ((cl_readChurch v) 3 2) = (v 3 2) from (by first | assumption | omega | (unfold R32 at *; omega) | (unfold R64 at *; omega) | (simp only [R32, R64] at *; omega)))
  · show WV _ _ _ 10 _ _ _ _ _
    rw [if_pos h_7] at hQ
    refine r_ex 1 (pc' := 11) (lo' := [some (.inr (.inr (some 2)))]) (st' := [.inr (.inr (some 2))]) rfl ?_
    have hp_84 : (v 2 7) ≤ (v 2 4) := (show (v 2 7) ≤ (v 2 4) from (by first | assumption | omega | (unfold R32 at *; omega) | (unfold R64 at *; omega) | (simp only [R32, R64] at *; omega)))
    refine r_call (m := 25) (args := [.inr (.inr (some 2))]) (n' := 24) (pc' := 14) (lo' := [some (.inr (.inr (some 2)))]) (st' := []) (I := .invokevirtual 25) (pc0 := 11) (len := 3) rfl rfl rfl (e_cl_readBay hX hp_84) ?_
    show WV _ _ _ 14 _ [] _ (cl_readBay v) _
    have hX_85 : XI (cl_readBay v) := i_cl_readBay (v := v) hX hp_84
    have hb_86 : ((cl_readBay v) 2 7) ≤ ((cl_readBay v) 2 4) := n0_cl_readBay (v := v) hX hp_84
    have hb_87 : ((cl_readBay v) 3 2) = (v 3 2) := n1_cl_readBay (v := v) hX hp_84
    refine r_ex 1 (pc' := 245) (lo' := [some (.inr (.inr (some 2)))]) (st' := []) rfl ?_
    refine r_ret (rr := none) (I := .return_) (pc0 := 245) (len := 1) rfl rfl ?_
    exact hQ hX_85 (show ((cl_readBay v) 2 7) ≤ ((cl_readBay v) 2 4) from (by first | assumption | omega | (unfold R32 at *; omega) | (unfold R64 at *; omega) | (simp only [R32, R64] at *; omega))) (show ((cl_readBay v) 3 2) = (v 3 2) from (by first | assumption | omega | (unfold R32 at *; omega) | (unfold R64 at *; omega) | (simp only [R32, R64] at *; omega)))

theorem e_cl_readLine {X : PX} {d : Nat} {v : VS}  (hX : XI v) (hp_a : (v 2 7) ≤ (v 2 4)) : EvV X (d + 1 + 1 + 1 + 1 + 1 + 1 + 1 + 1) 24 [.inr (.inr (some 2))] 1 v none 1 (cl_readLine v) := EvV.of (w_cl_readLine hX hp_a (fun _ _ _ => ⟨rfl, rfl, rfl⟩))

theorem i_cl_readLine {v : VS}  (hX : XI v) (hp_a : (v 2 7) ≤ (v 2 4)) : XI (cl_readLine v) := by
  have q : WV (0, fun _ => 0, none) (0 + 1 + 1 + 1 + 1 + 1 + 1 + 1 + 1) 24 0 [some (.inr (.inr (some 2)))] [] 1 v (fun _ _ _ => XI (cl_readLine v)) := w_cl_readLine (X := (0, fun _ => 0, none)) (d := 0) hX hp_a (fun q _ _ => q)
  obtain ⟨_, _, _, _, _, _, _, q⟩ := q
  exact q

theorem n0_cl_readLine {v : VS}  (hX : XI v) (hp_a : (v 2 7) ≤ (v 2 4)) : ((cl_readLine v) 2 7) ≤ ((cl_readLine v) 2 4) := by
  have q : WV (0, fun _ => 0, none) (0 + 1 + 1 + 1 + 1 + 1 + 1 + 1 + 1) 24 0 [some (.inr (.inr (some 2)))] [] 1 v (fun _ _ _ => ((cl_readLine v) 2 7) ≤ ((cl_readLine v) 2 4)) := w_cl_readLine (X := (0, fun _ => 0, none)) (d := 0) hX hp_a (fun _ q _ => q)
  obtain ⟨_, _, _, _, _, _, _, q⟩ := q
  exact q

theorem n1_cl_readLine {v : VS}  (hX : XI v) (hp_a : (v 2 7) ≤ (v 2 4)) : ((cl_readLine v) 3 2) = (v 3 2) := by
  have q : WV (0, fun _ => 0, none) (0 + 1 + 1 + 1 + 1 + 1 + 1 + 1 + 1) 24 0 [some (.inr (.inr (some 2)))] [] 1 v (fun _ _ _ => ((cl_readLine v) 3 2) = (v 3 2)) := w_cl_readLine (X := (0, fun _ => 0, none)) (d := 0) hX hp_a (fun _ _ q => q)
  obtain ⟨_, _, _, _, _, _, _, q⟩ := q
  exact q

theorem o_cl_readLine {rk : Nat} {v : VS}  (hk : (rk < 2 ∨ 31 < rk)) : (cl_readLine v ) rk = v rk := by
  unfold cl_readLine
  by_cases hc_ : (v 3 2) = 0
  · rw [if_pos hc_]
    all_goals (show (cl_readBay v) rk = _)
    all_goals (rw [o_cl_readBay (by omega)])
  · rw [if_neg hc_]
    by_cases hc_ : (cl_isAt3 v) = 0
    · rw [if_pos hc_]
      by_cases hc_ : (cl_isAt8 v) = 0
      · rw [if_pos hc_]
        by_cases hc_ : (cl_isAt14 v) = 0
        · rw [if_pos hc_]
          by_cases hc_ : (cl_isAt16 v) = 0
          · rw [if_pos hc_]
            by_cases hc_ : (cl_isAt20 v) = 0
            · rw [if_pos hc_]
              by_cases hc_ : (cl_isAt21 v) = 0
              · rw [if_pos hc_]
                by_cases hc_ : (cl_isAt22 v) = 0
                · rw [if_pos hc_]
                  all_goals (show (cl_fail v 1) rk = _)
                  all_goals (rw [o_cl_fail (by omega)])
                · rw [if_neg hc_]
                  all_goals (show (cl_readStart v) rk = _)
                  all_goals (rw [o_cl_readStart (by omega)])
              · rw [if_neg hc_]
                all_goals (show (cl_readSpell28 (cl_word15 (cl_beginLine v (v 28 0) 6)) (((cl_word15 (cl_beginLine v (v 28 0) 6)) 3 0) - 1)) rk = _)
                all_goals (rw [o_cl_readSpell28 (by omega), o_cl_word15 (by omega), o_cl_beginLine (by omega)])
            · rw [if_neg hc_]
              all_goals (show (cl_readSpell24 (cl_beginLine v (v 24 0) 6) (((cl_beginLine v (v 24 0) 6) 3 0) - 1)) rk = _)
              all_goals (rw [o_cl_readSpell24 (by omega), o_cl_beginLine (by omega)])
          · rw [if_neg hc_]
            all_goals (show (cl_readSpell20 (cl_word17 (cl_beginLine v (v 20 0) 6)) (((cl_word17 (cl_beginLine v (v 20 0) 6)) 7 0) - 1)) rk = _)
            all_goals (rw [o_cl_readSpell20 (by omega), o_cl_word17 (by omega), o_cl_beginLine (by omega)])
        · rw [if_neg hc_]
          all_goals (show (cl_readWind v) rk = _)
          all_goals (rw [o_cl_readWind (by omega)])
      · rw [if_neg hc_]
        all_goals (show (cl_readEar v) rk = _)
        all_goals (rw [o_cl_readEar (by omega)])
    · rw [if_neg hc_]
      all_goals (show (cl_readChurch v) rk = _)
      all_goals (rw [o_cl_readChurch (by omega)])

def cl_read_43 : Nat → VS → Int → Int × VS
  | 0, v, i => (0, v)
  | f + 1, v, i => (if (v 2 4) < i then (if (v 2 1) = 0 then (1, v) else (0, v)) else (if (v 2 5) = 0 then (if (v 2 1) = 0 then (1, v) else (0, v)) else (if (v 2 1) = 0 then (cl_read_43 f (v2 (cl_readLine v) 3 2 (((cl_readLine v) 3 2) + 1)) (i + 1)) else (if (v 2 1) = 0 then (1, v) else (0, v)))))
def cl_read (v : VS) (n : Int) : Int × VS :=
  (cl_read_43 2002 (cl_advance (v2 (v2 (v2 (cl_empty (v2 v 2 4 (min n 2000))) 2 1 0) 2 2 (-1)) 2 7 0)) 0)
theorem l_cl_read_43 {X : PX} {d : Nat} {Q : Option PV → Nat → VS → Prop}  : ∀ (f : Nat) (v : VS) (i : Int) (o1 : Option PV) (z2 : Int), XI v → (0 ≤ i ∧ i ≤ 2001) → ((v 2 7) ≤ (v 2 4)) → ((v 3 2) = i) → (2001 < i + f) → (XI (cl_read_43 f v i).2 → (0 ≤ (cl_read_43 f v i).1 ∧ (cl_read_43 f v i).1 ≤ 1) → Q (some (.inl (cl_read_43 f v i).1)) 1 (cl_read_43 f v i).2) → WV X (d + 1 + 1 + 1 + 1 + 1 + 1 + 1 + 1 + 1) 17 43 [some (.inr (.inr (some 2))), o1, some (.inl z2), some (.inl i)] [] 1 v Q := by
  intro f
  induction f with
  | zero =>
    intro v i o1 z2 hX hi_0 hi_1 hi_2 hf hQ
    exfalso
    omega
  | succ f ih =>
    intro v i o1 z2 hX hi_0 hi_1 hi_2 hf hQ
    rw [cl_read_43] at hQ
    refine r_ex 3 (pc' := 48) (lo' := [some (.inr (.inr (some 2))), o1, some (.inl z2), some (.inl i)]) (st' := [.inl (v 2 4), .inl i]) rfl ?_
    have hb_13 : 0 ≤ (v 2 4) ∧ (v 2 4) ≤ 2000 := hX 2 4
    refine n_ic_gt (pc0 := 48) (len := 3) (t := 88) rfl (by first | assumption | omega | (unfold R32 at *; omega) | (unfold R64 at *; omega) | (simp only [R32, R64] at *; omega)) (by first | assumption | omega | (unfold R32 at *; omega) | (unfold R64 at *; omega) | (simp only [R32, R64] at *; omega)) (fun h_48 => ?_) (fun h_48 => ?_)
    · show WV _ _ _ 88 _ _ _ _ _
      rw [if_pos h_48] at hQ
      refine r_ex 2 (pc' := 92) (lo' := [some (.inr (.inr (some 2))), o1, some (.inl z2), some (.inl i)]) (st' := [.inl (v 2 1)]) rfl ?_
      have hb_14 : 0 ≤ (v 2 1) ∧ (v 2 1) ≤ 3 := hX 2 1
      refine n_if_ne (pc0 := 92) (len := 3) (t := 99) rfl (by first | assumption | omega | (unfold R32 at *; omega) | (unfold R64 at *; omega) | (simp only [R32, R64] at *; omega)) (fun h_92 => ?_) (fun h_92 => ?_)
      · show WV _ _ _ 99 _ _ _ _ _
        rw [if_neg h_92] at hQ
        refine r_ex 1 (pc' := 100) (lo' := [some (.inr (.inr (some 2))), o1, some (.inl z2), some (.inl i)]) (st' := [.inl 0]) rfl ?_
        refine r_ret (rr := some (.inl 0)) (I := .ireturn) (pc0 := 100) (len := 1) rfl rfl ?_
        exact hQ hX (by first | assumption | omega | (unfold R32 at *; omega) | (unfold R64 at *; omega) | (simp only [R32, R64] at *; omega))
      · show WV _ _ _ 95 _ _ _ _ _
        rw [if_pos h_92] at hQ
        refine r_ex 2 (pc' := 100) (lo' := [some (.inr (.inr (some 2))), o1, some (.inl z2), some (.inl i)]) (st' := [.inl 1]) rfl ?_
        refine r_ret (rr := some (.inl 1)) (I := .ireturn) (pc0 := 100) (len := 1) rfl rfl ?_
        exact hQ hX (by first | assumption | omega | (unfold R32 at *; omega) | (unfold R64 at *; omega) | (simp only [R32, R64] at *; omega))
    · show WV _ _ _ 51 _ _ _ _ _
      rw [if_neg h_48] at hQ
      refine r_ex 2 (pc' := 55) (lo' := [some (.inr (.inr (some 2))), o1, some (.inl z2), some (.inl i)]) (st' := [.inl (v 2 5)]) rfl ?_
      have hb_15 : 0 ≤ (v 2 5) ∧ (v 2 5) ≤ 4 := hX 2 5
      refine n_if_eq (pc0 := 55) (len := 3) (t := 88) rfl (by first | assumption | omega | (unfold R32 at *; omega) | (unfold R64 at *; omega) | (simp only [R32, R64] at *; omega)) (fun h_55 => ?_) (fun h_55 => ?_)
      · show WV _ _ _ 88 _ _ _ _ _
        rw [if_pos h_55] at hQ
        refine r_ex 2 (pc' := 92) (lo' := [some (.inr (.inr (some 2))), o1, some (.inl z2), some (.inl i)]) (st' := [.inl (v 2 1)]) rfl ?_
        have hb_16 : 0 ≤ (v 2 1) ∧ (v 2 1) ≤ 3 := hX 2 1
        refine n_if_ne (pc0 := 92) (len := 3) (t := 99) rfl (by first | assumption | omega | (unfold R32 at *; omega) | (unfold R64 at *; omega) | (simp only [R32, R64] at *; omega)) (fun h_92 => ?_) (fun h_92 => ?_)
        · show WV _ _ _ 99 _ _ _ _ _
          rw [if_neg h_92] at hQ
          refine r_ex 1 (pc' := 100) (lo' := [some (.inr (.inr (some 2))), o1, some (.inl z2), some (.inl i)]) (st' := [.inl 0]) rfl ?_
          refine r_ret (rr := some (.inl 0)) (I := .ireturn) (pc0 := 100) (len := 1) rfl rfl ?_
          exact hQ hX (by first | assumption | omega | (unfold R32 at *; omega) | (unfold R64 at *; omega) | (simp only [R32, R64] at *; omega))
        · show WV _ _ _ 95 _ _ _ _ _
          rw [if_pos h_92] at hQ
          refine r_ex 2 (pc' := 100) (lo' := [some (.inr (.inr (some 2))), o1, some (.inl z2), some (.inl i)]) (st' := [.inl 1]) rfl ?_
          refine r_ret (rr := some (.inl 1)) (I := .ireturn) (pc0 := 100) (len := 1) rfl rfl ?_
          exact hQ hX (by first | assumption | omega | (unfold R32 at *; omega) | (unfold R64 at *; omega) | (simp only [R32, R64] at *; omega))
      · show WV _ _ _ 58 _ _ _ _ _
        rw [if_neg h_55] at hQ
        refine r_ex 2 (pc' := 62) (lo' := [some (.inr (.inr (some 2))), o1, some (.inl z2), some (.inl i)]) (st' := [.inl (v 2 1)]) rfl ?_
        have hb_17 : 0 ≤ (v 2 1) ∧ (v 2 1) ≤ 3 := hX 2 1
        refine n_if_ne (pc0 := 62) (len := 3) (t := 88) rfl (by first | assumption | omega | (unfold R32 at *; omega) | (unfold R64 at *; omega) | (simp only [R32, R64] at *; omega)) (fun h_62 => ?_) (fun h_62 => ?_)
        · show WV _ _ _ 88 _ _ _ _ _
          rw [if_neg h_62] at hQ
          refine r_ex 2 (pc' := 92) (lo' := [some (.inr (.inr (some 2))), o1, some (.inl z2), some (.inl i)]) (st' := [.inl (v 2 1)]) rfl ?_
          refine n_if_ne (pc0 := 92) (len := 3) (t := 99) rfl (by first | assumption | omega | (unfold R32 at *; omega) | (unfold R64 at *; omega) | (simp only [R32, R64] at *; omega)) (fun h_92 => ?_) (fun h_92 => ?_)
          · show WV _ _ _ 99 _ _ _ _ _
            rw [if_neg h_92] at hQ
            refine r_ex 1 (pc' := 100) (lo' := [some (.inr (.inr (some 2))), o1, some (.inl z2), some (.inl i)]) (st' := [.inl 0]) rfl ?_
            refine r_ret (rr := some (.inl 0)) (I := .ireturn) (pc0 := 100) (len := 1) rfl rfl ?_
            exact hQ hX (by first | assumption | omega | (unfold R32 at *; omega) | (unfold R64 at *; omega) | (simp only [R32, R64] at *; omega))
          · show WV _ _ _ 95 _ _ _ _ _
            rw [if_pos h_92] at hQ
            refine r_ex 2 (pc' := 100) (lo' := [some (.inr (.inr (some 2))), o1, some (.inl z2), some (.inl i)]) (st' := [.inl 1]) rfl ?_
            refine r_ret (rr := some (.inl 1)) (I := .ireturn) (pc0 := 100) (len := 1) rfl rfl ?_
            exact hQ hX (by first | assumption | omega | (unfold R32 at *; omega) | (unfold R64 at *; omega) | (simp only [R32, R64] at *; omega))
        · show WV _ _ _ 65 _ _ _ _ _
          rw [if_pos h_62] at hQ
          refine r_ex 1 (pc' := 66) (lo' := [some (.inr (.inr (some 2))), o1, some (.inl z2), some (.inl i)]) (st' := [.inr (.inr (some 2))]) rfl ?_
          have hp_18 : (v 2 7) ≤ (v 2 4) := (show (v 2 7) ≤ (v 2 4) from (by first | assumption | omega | (unfold R32 at *; omega) | (unfold R64 at *; omega) | (simp only [R32, R64] at *; omega)))
          refine r_call (m := 24) (args := [.inr (.inr (some 2))]) (n' := 17) (pc' := 69) (lo' := [some (.inr (.inr (some 2))), o1, some (.inl z2), some (.inl i)]) (st' := []) (I := .invokevirtual 24) (pc0 := 66) (len := 3) rfl rfl rfl (e_cl_readLine hX hp_18) ?_
          show WV _ _ _ 69 _ [] _ (cl_readLine v) _
          have hX_19 : XI (cl_readLine v) := i_cl_readLine (v := v) hX hp_18
          have hb_20 : ((cl_readLine v) 2 7) ≤ ((cl_readLine v) 2 4) := n0_cl_readLine (v := v) hX hp_18
          have hb_21 : ((cl_readLine v) 3 2) = (v 3 2) := n1_cl_readLine (v := v) hX hp_18
          refine r_ex 6 (pc' := 79) (lo' := [some (.inr (.inr (some 2))), o1, some (.inl z2), some (.inl i)]) (st' := [.inl (((cl_readLine v) 3 2) + 1), .inr (.inr (some 3))]) rfl ?_
          have hb_22 : 0 ≤ ((cl_readLine v) 3 2) ∧ ((cl_readLine v) 3 2) ≤ 2001 := hX_19 3 2
          refine r_puti2 (j := 2) (pc' := 82) (pc0 := 79) (len := 3) rfl (s_3 _) rfl rfl rfl (Or.inl rfl) rfl rfl ?_
          have hX_23 : XI (v2 (cl_readLine v) 3 2 (((cl_readLine v) 3 2) + 1)) := XI.put hX_19 (show 0 ≤ (((cl_readLine v) 3 2) + 1) ∧ (((cl_readLine v) 3 2) + 1) ≤ 2001 from (by first | assumption | omega | (unfold R32 at *; omega) | (unfold R64 at *; omega) | (simp only [R32, R64] at *; omega)))
          refine r_ex 2 (pc' := 43) (lo' := [some (.inr (.inr (some 2))), o1, some (.inl z2), some (.inl (i + 1))]) (st' := []) rfl ?_
          refine ih (v2 (cl_readLine v) 3 2 (((cl_readLine v) 3 2) + 1)) (i + 1) _ _ hX_23 (by first | assumption | omega | (unfold R32 at *; omega) | (unfold R64 at *; omega) | (simp only [R32, R64] at *; omega)) (show ((cl_readLine v) 2 7) ≤ ((cl_readLine v) 2 4) from (by first | assumption | omega | (unfold R32 at *; omega) | (unfold R64 at *; omega) | (simp only [R32, R64] at *; omega))) (show (((cl_readLine v) 3 2) + 1) = (i + 1) from (by first | assumption | omega | (unfold R32 at *; omega) | (unfold R64 at *; omega) | (simp only [R32, R64] at *; omega))) (by first | assumption | omega | (unfold R32 at *; omega) | (unfold R64 at *; omega) | (simp only [R32, R64] at *; omega)) hQ

theorem of_cl_read_43 {rk : Nat} (hk : (rk < 2 ∨ 31 < rk)) : ∀ (f : Nat) {v : VS} {i : Int}, (cl_read_43 f v i).2 rk = v rk := by
  intro f
  induction f with
  | zero => intro v i; rfl
  | succ f ih =>
    intro v i
    rw [cl_read_43]
    by_cases hc_ : (v 2 4) < i
    · rw [if_pos hc_]
      by_cases hc_ : (v 2 1) = 0
      · rw [if_pos hc_]
        all_goals (show v rk = _)
        all_goals rfl
      · rw [if_neg hc_]
        all_goals (show v rk = _)
        all_goals rfl
    · rw [if_neg hc_]
      by_cases hc_ : (v 2 5) = 0
      · rw [if_pos hc_]
        by_cases hc_ : (v 2 1) = 0
        · rw [if_pos hc_]
          all_goals (show v rk = _)
          all_goals rfl
        · rw [if_neg hc_]
          all_goals (show v rk = _)
          all_goals rfl
      · rw [if_neg hc_]
        by_cases hc_ : (v 2 1) = 0
        · rw [if_pos hc_]
          all_goals (rw [ih, v2_row (by omega), o_cl_readLine (by omega)])
        · rw [if_neg hc_]
          by_cases hc_ : (v 2 1) = 0
          · rw [if_pos hc_]
            all_goals (show v rk = _)
            all_goals rfl
          · rw [if_neg hc_]
            all_goals (show v rk = _)
            all_goals rfl
theorem o_cl_read_43 {rk : Nat} {f : Nat} {v : VS} {i : Int} (hk : (rk < 2 ∨ 31 < rk)) : (cl_read_43 f v i).2 rk = v rk := of_cl_read_43 hk f

theorem w_cl_read {X : PX} {d b : Nat} {v : VS} {n : Int} (hX : XI v) (hp_a : 0 ≤ n ∧ n ≤ 2000) {Q : Option PV → Nat → VS → Prop} (hQ : XI (cl_read v n).2 → (0 ≤ (cl_read v n).1 ∧ (cl_read v n).1 ≤ 1) → Q (some (.inl (cl_read v n).1)) 1 (cl_read v n).2) : WV X (d + 1 + 1 + 1 + 1 + 1 + 1 + 1 + 1 + 1) 17 0 [some (.inr (.inr (some 2))), some (.inr (.inr (some 1))), some (.inl n), none] [] b v Q := by
  rw [cl_read] at hQ
  refine r_ex 2 (pc' := 2) (lo' := [some (.inr (.inr (some 2))), some (.inr (.inr (some 1))), some (.inl n), none]) (st' := [.inr (.inr (some 1)), .inr (.inr (some 2))]) rfl ?_
  refine n_putb (pc' := 5) (pc0 := 2) (len := 3) rfl rfl ?_
  refine r_ex 4 (pc' := 9) (lo' := [some (.inr (.inr (some 2))), some (.inr (.inr (some 1))), some (.inl n), none]) (st' := [.inl 2000, .inl n, .inr (.inr (some 2))]) rfl ?_
  refine r_prim (x := .inl (if w32 2000 < w32 n then 2000 else n)) (m := 18) (args := [.inl n, .inl 2000]) (n' := 17) (pc' := 12) (lo' := [some (.inr (.inr (some 2))), some (.inr (.inr (some 1))), some (.inl n), none]) (st' := [.inr (.inr (some 2))]) (I := .invokestatic 18) (pc0 := 9) (len := 3) rfl rfl rfl ?_
  rw [mn32 (by first | assumption | omega | (unfold R32 at *; omega) | (unfold R64 at *; omega) | (simp only [R32, R64] at *; omega)) (by first | assumption | omega | (unfold R32 at *; omega) | (unfold R64 at *; omega) | (simp only [R32, R64] at *; omega))]
  refine r_puti2 (j := 4) (pc' := 15) (pc0 := 12) (len := 3) rfl (s_2 _) rfl rfl rfl (Or.inl rfl) rfl rfl ?_
  have hX_1 : XI (v2 v 2 4 (min n 2000)) := XI.put hX (show 0 ≤ (min n 2000) ∧ (min n 2000) ≤ 2000 from (by first | assumption | omega | (unfold R32 at *; omega) | (unfold R64 at *; omega) | (simp only [R32, R64] at *; omega)))
  refine r_ex 2 (pc' := 19) (lo' := [some (.inr (.inr (some 2))), some (.inr (.inr (some 1))), some (.inl n), none]) (st' := [.inr (.inr (some 3))]) rfl ?_
  refine r_call (m := 19) (args := [.inr (.inr (some 3))]) (n' := 17) (pc' := 22) (lo' := [some (.inr (.inr (some 2))), some (.inr (.inr (some 1))), some (.inl n), none]) (st' := []) (I := .invokevirtual 19) (pc0 := 19) (len := 3) rfl rfl rfl (e_cl_empty hX_1) ?_
  show WV _ _ _ 22 _ [] _ (cl_empty (v2 v 2 4 (min n 2000))) _
  have hX_2 : XI (cl_empty (v2 v 2 4 (min n 2000))) := i_cl_empty (v := (v2 v 2 4 (min n 2000))) hX_1
  have hb_3 : (cl_empty (v2 v 2 4 (min n 2000))) 2 7 = (v 2 7) := by rw [o_cl_empty (by omega)] <;> rfl
  have hb_4 : (cl_empty (v2 v 2 4 (min n 2000))) 2 4 = (min n 2000) := by rw [o_cl_empty (by omega)] <;> rfl
  have hb_5 : ((cl_empty (v2 v 2 4 (min n 2000))) 3 2) = 0 := n_cl_empty (v := (v2 v 2 4 (min n 2000))) hX_1
  refine r_ex 2 (pc' := 24) (lo' := [some (.inr (.inr (some 2))), some (.inr (.inr (some 1))), some (.inl n), none]) (st' := [.inl 0, .inr (.inr (some 2))]) rfl ?_
  refine r_puti2 (j := 1) (pc' := 27) (pc0 := 24) (len := 3) rfl (s_2 _) rfl rfl rfl (Or.inl rfl) rfl rfl ?_
  have hX_6 : XI (v2 (cl_empty (v2 v 2 4 (min n 2000))) 2 1 0) := XI.put hX_2 (show 0 ≤ 0 ∧ 0 ≤ 3 from (by first | assumption | omega | (unfold R32 at *; omega) | (unfold R64 at *; omega) | (simp only [R32, R64] at *; omega)))
  refine r_ex 2 (pc' := 29) (lo' := [some (.inr (.inr (some 2))), some (.inr (.inr (some 1))), some (.inl n), none]) (st' := [.inl (-1), .inr (.inr (some 2))]) rfl ?_
  refine r_puti2 (j := 2) (pc' := 32) (pc0 := 29) (len := 3) rfl (s_2 _) rfl rfl rfl (Or.inl rfl) rfl rfl ?_
  have hX_7 : XI (v2 (v2 (cl_empty (v2 v 2 4 (min n 2000))) 2 1 0) 2 2 (-1)) := XI.put hX_6 (show -1 ≤ (-1) ∧ (-1) ≤ 2000 from (by first | assumption | omega | (unfold R32 at *; omega) | (unfold R64 at *; omega) | (simp only [R32, R64] at *; omega)))
  refine r_ex 2 (pc' := 34) (lo' := [some (.inr (.inr (some 2))), some (.inr (.inr (some 1))), some (.inl n), none]) (st' := [.inl 0, .inr (.inr (some 2))]) rfl ?_
  refine r_puti2 (j := 7) (pc' := 37) (pc0 := 34) (len := 3) rfl (s_2 _) rfl rfl rfl (Or.inl rfl) rfl rfl ?_
  have hX_8 : XI (v2 (v2 (v2 (cl_empty (v2 v 2 4 (min n 2000))) 2 1 0) 2 2 (-1)) 2 7 0) := XI.put hX_7 (show 0 ≤ 0 ∧ 0 ≤ 2001 from (by first | assumption | omega | (unfold R32 at *; omega) | (unfold R64 at *; omega) | (simp only [R32, R64] at *; omega)))
  refine r_ex 1 (pc' := 38) (lo' := [some (.inr (.inr (some 2))), some (.inr (.inr (some 1))), some (.inl n), none]) (st' := [.inr (.inr (some 2))]) rfl ?_
  have hp_9 : ((v2 (v2 (v2 (cl_empty (v2 v 2 4 (min n 2000))) 2 1 0) 2 2 (-1)) 2 7 0) 2 7) ≤ ((v2 (v2 (v2 (cl_empty (v2 v 2 4 (min n 2000))) 2 1 0) 2 2 (-1)) 2 7 0) 2 4) := (show 0 ≤ ((cl_empty (v2 v 2 4 (min n 2000))) 2 4) from (by first | assumption | omega | (unfold R32 at *; omega) | (unfold R64 at *; omega) | (simp only [R32, R64] at *; omega)))
  refine r_call (m := 21) (args := [.inr (.inr (some 2))]) (n' := 17) (pc' := 41) (lo' := [some (.inr (.inr (some 2))), some (.inr (.inr (some 1))), some (.inl n), none]) (st' := []) (I := .invokevirtual 21) (pc0 := 38) (len := 3) rfl rfl rfl (e_cl_advance hX_8 hp_9) ?_
  show WV _ _ _ 41 _ [] _ (cl_advance (v2 (v2 (v2 (cl_empty (v2 v 2 4 (min n 2000))) 2 1 0) 2 2 (-1)) 2 7 0)) _
  have hX_10 : XI (cl_advance (v2 (v2 (v2 (cl_empty (v2 v 2 4 (min n 2000))) 2 1 0) 2 2 (-1)) 2 7 0)) := i_cl_advance (v := (v2 (v2 (v2 (cl_empty (v2 v 2 4 (min n 2000))) 2 1 0) 2 2 (-1)) 2 7 0)) hX_8 hp_9
  have hb_11 : (cl_advance (v2 (v2 (v2 (cl_empty (v2 v 2 4 (min n 2000))) 2 1 0) 2 2 (-1)) 2 7 0)) 3 2 = ((cl_empty (v2 v 2 4 (min n 2000))) 3 2) := by rw [o_cl_advance (by omega)] <;> rfl
  have hb_12 : ((cl_advance (v2 (v2 (v2 (cl_empty (v2 v 2 4 (min n 2000))) 2 1 0) 2 2 (-1)) 2 7 0)) 2 7) ≤ ((cl_advance (v2 (v2 (v2 (cl_empty (v2 v 2 4 (min n 2000))) 2 1 0) 2 2 (-1)) 2 7 0)) 2 4) := n_cl_advance (v := (v2 (v2 (v2 (cl_empty (v2 v 2 4 (min n 2000))) 2 1 0) 2 2 (-1)) 2 7 0)) hX_8 hp_9
  refine r_ex 2 (pc' := 43) (lo' := [some (.inr (.inr (some 2))), some (.inr (.inr (some 1))), some (.inl n), some (.inl 0)]) (st' := []) rfl ?_
  exact l_cl_read_43 2002 (cl_advance (v2 (v2 (v2 (cl_empty (v2 v 2 4 (min n 2000))) 2 1 0) 2 2 (-1)) 2 7 0)) 0 _ _ hX_10 (by first | assumption | omega | (unfold R32 at *; omega) | (unfold R64 at *; omega) | (simp only [R32, R64] at *; omega)) (show ((cl_advance (v2 (v2 (v2 (cl_empty (v2 v 2 4 (min n 2000))) 2 1 0) 2 2 (-1)) 2 7 0)) 2 7) ≤ ((cl_advance (v2 (v2 (v2 (cl_empty (v2 v 2 4 (min n 2000))) 2 1 0) 2 2 (-1)) 2 7 0)) 2 4) from (by first | assumption | omega | (unfold R32 at *; omega) | (unfold R64 at *; omega) | (simp only [R32, R64] at *; omega))) (show ((cl_advance (v2 (v2 (v2 (cl_empty (v2 v 2 4 (min n 2000))) 2 1 0) 2 2 (-1)) 2 7 0)) 3 2) = 0 from (by first | assumption | omega | (unfold R32 at *; omega) | (unfold R64 at *; omega) | (simp only [R32, R64] at *; omega))) (by first | assumption | omega | (unfold R32 at *; omega) | (unfold R64 at *; omega) | (simp only [R32, R64] at *; omega)) hQ

theorem e_cl_read {X : PX} {d b : Nat} {v : VS} {n : Int} (hX : XI v) (hp_a : 0 ≤ n ∧ n ≤ 2000) : EvV X (d + 1 + 1 + 1 + 1 + 1 + 1 + 1 + 1 + 1) 17 [.inr (.inr (some 2)), .inr (.inr (some 1)), .inl n] b v (some (.inl (cl_read v n).1)) 1 ((cl_read v n).2) := EvV.of (w_cl_read hX hp_a (fun _ _ => ⟨rfl, rfl, rfl⟩))

theorem i_cl_read {v : VS} {n : Int} (hX : XI v) (hp_a : 0 ≤ n ∧ n ≤ 2000) : XI ((cl_read v n).2) := by
  have q : WV (0, fun _ => 0, none) (0 + 1 + 1 + 1 + 1 + 1 + 1 + 1 + 1 + 1) 17 0 [some (.inr (.inr (some 2))), some (.inr (.inr (some 1))), some (.inl n), none] [] 1 v (fun _ _ _ => XI ((cl_read v n).2)) := w_cl_read (X := (0, fun _ => 0, none)) (d := 0) (b := 1) hX hp_a (fun q _ => q)
  obtain ⟨_, _, _, _, _, _, _, q⟩ := q
  exact q

theorem n_cl_read {v : VS} {n : Int} (hX : XI v) (hp_a : 0 ≤ n ∧ n ≤ 2000) : 0 ≤ (cl_read v n).1 ∧ (cl_read v n).1 ≤ 1 := by
  have q : WV (0, fun _ => 0, none) (0 + 1 + 1 + 1 + 1 + 1 + 1 + 1 + 1 + 1) 17 0 [some (.inr (.inr (some 2))), some (.inr (.inr (some 1))), some (.inl n), none] [] 1 v (fun _ _ _ => 0 ≤ (cl_read v n).1 ∧ (cl_read v n).1 ≤ 1) := w_cl_read (X := (0, fun _ => 0, none)) (d := 0) (b := 1) hX hp_a (fun _ q => q)
  obtain ⟨_, _, _, _, _, _, _, q⟩ := q
  exact q

theorem o_cl_read {rk : Nat} {v : VS} {n : Int} (hk : (rk < 2 ∨ 31 < rk)) : (cl_read v n).2 rk = v rk := by
  unfold cl_read
  all_goals (rw [o_cl_read_43 (by omega), o_cl_advance (by omega), v2_row (by omega), v2_row (by omega), v2_row (by omega), o_cl_empty (by omega), v2_row (by omega)])

def cl_bay (v : VS)  : Int × VS :=
  (if (cl_read v (v 0 1)).1 = 0 then ((-4), (v2 ((cl_read v (v 0 1)).2) 0 1 0)) else (((cl_renew (cl_copy33_3 (v2 ((cl_read v (v 0 1)).2) 0 1 0))) 33 2), (cl_renew (cl_copy33_3 (v2 ((cl_read v (v 0 1)).2) 0 1 0)))))
theorem w_cl_bay {X : PX} {d b : Nat} {v : VS}  (hX : XI v)  {Q : Option PV → Nat → VS → Prop} (hQ : XI (cl_bay v).2 → Q (some (.inl (cl_bay v).1)) 1 (cl_bay v).2) : WV X (d + 1 + 1 + 1 + 1 + 1 + 1 + 1 + 1 + 1 + 1) 16 0 [some (.inr (.inr (some 0))), none] [] b v Q := by
  rw [cl_bay] at hQ
  refine r_ex 6 (pc' := 12) (lo' := [some (.inr (.inr (some 0))), none]) (st' := [.inl (v 0 1), .inr (.inr (some 1)), .inr (.inr (some 2))]) rfl ?_
  have hb_1 : 0 ≤ (v 0 1) ∧ (v 0 1) ≤ 2000 := hX 0 1
  have hp_2 : 0 ≤ (v 0 1) ∧ (v 0 1) ≤ 2000 := (by first | assumption | omega | (unfold R32 at *; omega) | (unfold R64 at *; omega) | (simp only [R32, R64] at *; omega))
  refine r_call (m := 17) (args := [.inr (.inr (some 2)), .inr (.inr (some 1)), .inl (v 0 1)]) (n' := 16) (pc' := 15) (lo' := [some (.inr (.inr (some 0))), none]) (st' := []) (I := .invokevirtual 17) (pc0 := 12) (len := 3) rfl rfl rfl (e_cl_read hX hp_2) ?_
  show WV _ _ _ 15 _ [.inl ((cl_read v (v 0 1)).1)] _ (cl_read v (v 0 1)).2 _
  have hX_3 : XI (cl_read v (v 0 1)).2 := i_cl_read (v := v) (n := (v 0 1)) hX hp_2
  have hb_4 := n_cl_read (v := v) (n := (v 0 1)) hX hp_2
  refine r_ex 3 (pc' := 18) (lo' := [some (.inr (.inr (some 0))), some (.inl ((cl_read v (v 0 1)).1))]) (st' := [.inl 0, .inr (.inr (some 0))]) rfl ?_
  refine r_puti2 (j := 1) (pc' := 21) (pc0 := 18) (len := 3) rfl (s_0 _) rfl rfl rfl (Or.inl rfl) rfl rfl ?_
  have hX_5 : XI (v2 ((cl_read v (v 0 1)).2) 0 1 0) := XI.put hX_3 (show 0 ≤ 0 ∧ 0 ≤ 2000 from (by first | assumption | omega | (unfold R32 at *; omega) | (unfold R64 at *; omega) | (simp only [R32, R64] at *; omega)))
  refine r_ex 1 (pc' := 22) (lo' := [some (.inr (.inr (some 0))), some (.inl ((cl_read v (v 0 1)).1))]) (st' := [.inl ((cl_read v (v 0 1)).1)]) rfl ?_
  refine n_if_ne (pc0 := 22) (len := 3) (t := 28) rfl (by first | assumption | omega | (unfold R32 at *; omega) | (unfold R64 at *; omega) | (simp only [R32, R64] at *; omega)) (fun h_22 => ?_) (fun h_22 => ?_)
  · show WV _ _ _ 28 _ _ _ _ _
    rw [if_neg h_22] at hQ
    refine r_ex 5 (pc' := 39) (lo' := [some (.inr (.inr (some 0))), some (.inl ((cl_read v (v 0 1)).1))]) (st' := [.inr (.inr (some 3)), .inr (.inr (some 33))]) rfl ?_
    refine r_call (m := 53) (args := [.inr (.inr (some 33)), .inr (.inr (some 3))]) (n' := 16) (pc' := 42) (lo' := [some (.inr (.inr (some 0))), some (.inl ((cl_read v (v 0 1)).1))]) (st' := []) (I := .invokevirtual 53) (pc0 := 39) (len := 3) rfl rfl rfl (e_cl_copy33_3 hX_5) ?_
    show WV _ _ _ 42 _ [] _ (cl_copy33_3 (v2 ((cl_read v (v 0 1)).2) 0 1 0)) _
    have hX_6 : XI (cl_copy33_3 (v2 ((cl_read v (v 0 1)).2) 0 1 0)) := i_cl_copy33_3 (v := (v2 ((cl_read v (v 0 1)).2) 0 1 0)) hX_5
    refine r_ex 1 (pc' := 43) (lo' := [some (.inr (.inr (some 0))), some (.inl ((cl_read v (v 0 1)).1))]) (st' := [.inr (.inr (some 0))]) rfl ?_
    refine r_call (m := 57) (args := [.inr (.inr (some 0))]) (n' := 16) (pc' := 46) (lo' := [some (.inr (.inr (some 0))), some (.inl ((cl_read v (v 0 1)).1))]) (st' := []) (I := .invokevirtual 57) (pc0 := 43) (len := 3) rfl rfl rfl (e_cl_renew hX_6) ?_
    show WV _ _ _ 46 _ [] _ (cl_renew (cl_copy33_3 (v2 ((cl_read v (v 0 1)).2) 0 1 0))) _
    have hX_7 : XI (cl_renew (cl_copy33_3 (v2 ((cl_read v (v 0 1)).2) 0 1 0))) := i_cl_renew (v := (cl_copy33_3 (v2 ((cl_read v (v 0 1)).2) 0 1 0))) hX_6
    refine r_ex 3 (pc' := 53) (lo' := [some (.inr (.inr (some 0))), some (.inl ((cl_read v (v 0 1)).1))]) (st' := [.inl ((cl_renew (cl_copy33_3 (v2 ((cl_read v (v 0 1)).2) 0 1 0))) 33 2)]) rfl ?_
    have hb_8 : 0 ≤ ((cl_renew (cl_copy33_3 (v2 ((cl_read v (v 0 1)).2) 0 1 0))) 33 2) ∧ ((cl_renew (cl_copy33_3 (v2 ((cl_read v (v 0 1)).2) 0 1 0))) 33 2) ≤ 2001 := hX_7 33 2
    refine r_ret (rr := some (.inl ((cl_renew (cl_copy33_3 (v2 ((cl_read v (v 0 1)).2) 0 1 0))) 33 2))) (I := .ireturn) (pc0 := 53) (len := 1) rfl rfl ?_
    exact hQ hX_7 
  · show WV _ _ _ 25 _ _ _ _ _
    rw [if_pos h_22] at hQ
    refine r_ex 1 (pc' := 27) (lo' := [some (.inr (.inr (some 0))), some (.inl ((cl_read v (v 0 1)).1))]) (st' := [.inl (-4)]) rfl ?_
    refine r_ret (rr := some (.inl (-4))) (I := .ireturn) (pc0 := 27) (len := 1) rfl rfl ?_
    exact hQ hX_5 

theorem e_cl_bay {X : PX} {d b : Nat} {v : VS}  (hX : XI v)  : EvV X (d + 1 + 1 + 1 + 1 + 1 + 1 + 1 + 1 + 1 + 1) 16 [.inr (.inr (some 0))] b v (some (.inl (cl_bay v).1)) 1 ((cl_bay v).2) := EvV.of (w_cl_bay hX  (fun _ => ⟨rfl, rfl, rfl⟩))

theorem i_cl_bay {v : VS}  (hX : XI v)  : XI ((cl_bay v).2) := by
  have q : WV (0, fun _ => 0, none) (0 + 1 + 1 + 1 + 1 + 1 + 1 + 1 + 1 + 1 + 1) 16 0 [some (.inr (.inr (some 0))), none] [] 1 v (fun _ _ _ => XI ((cl_bay v).2)) := w_cl_bay (X := (0, fun _ => 0, none)) (d := 0) (b := 1) hX  (fun q => q)
  obtain ⟨_, _, _, _, _, _, _, q⟩ := q
  exact q

theorem o_cl_bay {rk : Nat} {v : VS}  (hk : (rk < 0 ∨ 0 < rk) ∧ (rk < 2 ∨ 31 < rk) ∧ (rk < 33 ∨ 61 < rk) ∧ (rk < 63 ∨ 66 < rk)) : (cl_bay v ).2 rk = v rk := by
  unfold cl_bay
  by_cases hc_ : (cl_read v (v 0 1)).1 = 0
  · rw [if_pos hc_]
    all_goals (show (v2 ((cl_read v (v 0 1)).2) 0 1 0) rk = _)
    all_goals (rw [v2_row (by omega), o_cl_read (by omega)])
  · rw [if_neg hc_]
    all_goals (show (cl_renew (cl_copy33_3 (v2 ((cl_read v (v 0 1)).2) 0 1 0))) rk = _)
    all_goals (rw [o_cl_renew (by omega), o_cl_copy33_3 (by omega), v2_row (by omega), o_cl_read (by omega)])
