/-! the reference: draws, bets, images, slots -/
theorem whyb_0 {v : VS} {s m h : Int} (hh : mo_whyNotBegan v s m h = 0) : (0 ≤ m ∧ m < v 210 1) ∧ (1 ≤ h ∧ h ≤ 99) ∧ mo_whyNot v s = 0 := by
  unfold mo_whyNotBegan at hh
  split at hh
  · rename_i h1
    split at hh
    · rename_i h2
      exact ⟨h1, h2, hh⟩
    · exact absurd hh (by omega)
  · exact absurd hh (by omega)

noncomputable def mo_began (v : VS) (s : Int) (m : Int) (h : Int) : Int × VS :=
  (if (mo_whyNotBegan (v2 v 203 0 0) s m h) = 0 then (((mo_begans (v2 v 203 0 0) s m h) 203 51), (mo_begans (v2 v 203 0 0) s m h)) else ((mo_whyNotBegan (v2 v 203 0 0) s m h), (v2 v 203 0 0)))
theorem w_mo_began {X : PX} {d b : Nat} {v : VS} {s : Int} {m : Int} {h : Int} (hX : XI v) (hp_a : R32 s) (hp_b : R32 m) (hp_c : R32 h) (hp_d : CF v) {Q : Option PV → Nat → VS → Prop} (hQ : XI (mo_began v s m h).2 → (CF ((mo_began v s m h).2)) → Q (some (.inl (mo_began v s m h).1)) b (mo_began v s m h).2) : WV X (d + 1 + 1 + 1 + 1 + 1 + 1) 313 0 [some (.inr (.inr (some 203))), some (.inl s), some (.inl m), some (.inl h), none] [] b v Q := by
  rw [mo_began] at hQ
  refine r_ex 2 (pc' := 2) (lo' := [some (.inr (.inr (some 203))), some (.inl s), some (.inl m), some (.inl h), none]) (st' := [.inl 0, .inr (.inr (some 203))]) rfl ?_
  refine r_puti2 (j := 0) (pc' := 5) (pc0 := 2) (len := 3) rfl (s_203 _) rfl rfl rfl (Or.inl rfl) rfl rfl ?_
  have hX_1 : XI (v2 v 203 0 0) := XI.put hX trivial
  refine r_ex 4 (pc' := 9) (lo' := [some (.inr (.inr (some 203))), some (.inl s), some (.inl m), some (.inl h), none]) (st' := [.inl h, .inl m, .inl s, .inr (.inr (some 203))]) rfl ?_
  have hp_2 : R32 s := (by first | assumption | omega | (unfold R32 at *; omega) | (unfold R64 at *; omega) | (simp only [R32, R64] at *; omega))
  have hp_3 : R32 m := (by first | assumption | omega | (unfold R32 at *; omega) | (unfold R64 at *; omega) | (simp only [R32, R64] at *; omega))
  have hp_4 : R32 h := (by first | assumption | omega | (unfold R32 at *; omega) | (unfold R64 at *; omega) | (simp only [R32, R64] at *; omega))
  refine r_call (m := 314) (args := [.inr (.inr (some 203)), .inl s, .inl m, .inl h]) (n' := 313) (pc' := 12) (lo' := [some (.inr (.inr (some 203))), some (.inl s), some (.inl m), some (.inl h), none]) (st' := []) (I := .invokevirtual 314) (pc0 := 9) (len := 3) rfl rfl rfl (e_mo_whyNotBegan hX_1 hp_2 hp_3 hp_4) ?_
  show WV _ _ _ 12 _ [.inl (mo_whyNotBegan (v2 v 203 0 0) s m h)] _ _ _
  have hb_5 := n_mo_whyNotBegan (v := (v2 v 203 0 0)) (s := s) (m := m) (h := h) hX_1 hp_2 hp_3 hp_4
  refine r_ex 2 (pc' := 16) (lo' := [some (.inr (.inr (some 203))), some (.inl s), some (.inl m), some (.inl h), some (.inl (mo_whyNotBegan (v2 v 203 0 0) s m h))]) (st' := [.inl (mo_whyNotBegan (v2 v 203 0 0) s m h)]) rfl ?_
  refine n_if_eq (pc0 := 16) (len := 3) (t := 22) rfl (by first | assumption | omega | (unfold R32 at *; omega) | (unfold R64 at *; omega) | (simp only [R32, R64] at *; omega)) (fun h_16 => ?_) (fun h_16 => ?_)
  · show WV _ _ _ 22 _ _ _ _ _
    rw [if_pos h_16] at hQ
    have hr0 := whyb_0 h_16
    have hr_ := why_0 (v := v2 v 203 0 0) (XI.put hX trivial) hr0.2.2
    have hr1 : (v2 v 203 0 0) 210 1 = v 210 1 := rfl
    have hb33 : 0 ≤ v 210 1 ∧ v 210 1 ≤ 300 := hX 210 1
    refine r_ex 4 (pc' := 26) (lo' := [some (.inr (.inr (some 203))), some (.inl s), some (.inl m), some (.inl h), some (.inl (mo_whyNotBegan (v2 v 203 0 0) s m h))]) (st' := [.inl h, .inl m, .inl s, .inr (.inr (some 203))]) rfl ?_
    have hp_6 : 0 ≤ s ∧ s ≤ 3 := (by first | assumption | omega | (unfold R32 at *; omega) | (unfold R64 at *; omega) | (simp only [R32, R64] at *; omega))
    have hp_7 : 0 ≤ m ∧ m ≤ 299 := (by first | assumption | omega | (unfold R32 at *; omega) | (unfold R64 at *; omega) | (simp only [R32, R64] at *; omega))
    have hp_8 : 0 ≤ h ∧ h ≤ 99 := (by first | assumption | omega | (unfold R32 at *; omega) | (unfold R64 at *; omega) | (simp only [R32, R64] at *; omega))
    have hp_9 : (v2 v 203 0 0) 205 s.toNat % 3 = 0 := hr_.2.2.2.1
    have hp_10 : CF (v2 v 203 0 0) := show CF (v2 v 203 0 0) from (show CF (v2 v 203 0 0) from CF.of hp_d (fun k h1 h2 => by rw [v2_row (by omega)]))
    refine r_call (m := 315) (args := [.inr (.inr (some 203)), .inl s, .inl m, .inl h]) (n' := 313) (pc' := 29) (lo' := [some (.inr (.inr (some 203))), some (.inl s), some (.inl m), some (.inl h), some (.inl (mo_whyNotBegan (v2 v 203 0 0) s m h))]) (st' := []) (I := .invokevirtual 315) (pc0 := 26) (len := 3) rfl rfl rfl (e_mo_begans hX_1 hp_6 hp_7 hp_8 hp_9 hp_10) ?_
    show WV _ _ _ 29 _ [] _ (mo_begans (v2 v 203 0 0) s m h) _
    have hX_11 : XI (mo_begans (v2 v 203 0 0) s m h) := i_mo_begans (v := (v2 v 203 0 0)) (s := s) (m := m) (h := h) hX_1 hp_6 hp_7 hp_8 hp_9 hp_10
    have hl_12 := n_mo_begans (v := (v2 v 203 0 0)) (s := s) (m := m) (h := h) hX_1 hp_6 hp_7 hp_8 hp_9 hp_10
    refine r_ex 2 (pc' := 33) (lo' := [some (.inr (.inr (some 203))), some (.inl s), some (.inl m), some (.inl h), some (.inl (mo_whyNotBegan (v2 v 203 0 0) s m h))]) (st' := [.inl ((mo_begans (v2 v 203 0 0) s m h) 203 51)]) rfl ?_
    have hb_13 : 0 ≤ ((mo_begans (v2 v 203 0 0) s m h) 203 51) ∧ ((mo_begans (v2 v 203 0 0) s m h) 203 51) ≤ 2700 := hX_11 203 51
    refine r_ret (rr := some (.inl ((mo_begans (v2 v 203 0 0) s m h) 203 51))) (I := .ireturn) (pc0 := 33) (len := 1) rfl rfl ?_
    exact hQ hX_11 (hl_12)
  · show WV _ _ _ 19 _ _ _ _ _
    rw [if_neg h_16] at hQ
    refine r_ex 1 (pc' := 21) (lo' := [some (.inr (.inr (some 203))), some (.inl s), some (.inl m), some (.inl h), some (.inl (mo_whyNotBegan (v2 v 203 0 0) s m h))]) (st' := [.inl (mo_whyNotBegan (v2 v 203 0 0) s m h)]) rfl ?_
    refine r_ret (rr := some (.inl (mo_whyNotBegan (v2 v 203 0 0) s m h))) (I := .ireturn) (pc0 := 21) (len := 1) rfl rfl ?_
    exact hQ hX_1 (show CF (v2 v 203 0 0) from (show CF (v2 v 203 0 0) from CF.of hp_d (fun k h1 h2 => by rw [v2_row (by omega)])))

theorem e_mo_began {X : PX} {d b : Nat} {v : VS} {s : Int} {m : Int} {h : Int} (hX : XI v) (hp_a : R32 s) (hp_b : R32 m) (hp_c : R32 h) (hp_d : CF v) : EvV X (d + 1 + 1 + 1 + 1 + 1 + 1) 313 [.inr (.inr (some 203)), .inl s, .inl m, .inl h] b v (some (.inl (mo_began v s m h).1)) b ((mo_began v s m h).2) := EvV.of (w_mo_began hX hp_a hp_b hp_c hp_d (fun _ _ => ⟨rfl, rfl, rfl⟩))

theorem i_mo_began {v : VS} {s : Int} {m : Int} {h : Int} (hX : XI v) (hp_a : R32 s) (hp_b : R32 m) (hp_c : R32 h) (hp_d : CF v) : XI ((mo_began v s m h).2) := by
  have q : WV (0, fun _ => 0, none) (0 + 1 + 1 + 1 + 1 + 1 + 1) 313 0 [some (.inr (.inr (some 203))), some (.inl s), some (.inl m), some (.inl h), none] [] 1 v (fun _ _ _ => XI ((mo_began v s m h).2)) := w_mo_began (X := (0, fun _ => 0, none)) (d := 0) (b := 1) hX hp_a hp_b hp_c hp_d (fun q _ => q)
  obtain ⟨_, _, _, _, _, _, _, q⟩ := q
  exact q

theorem n_mo_began {v : VS} {s : Int} {m : Int} {h : Int} (hX : XI v) (hp_a : R32 s) (hp_b : R32 m) (hp_c : R32 h) (hp_d : CF v) : CF ((mo_began v s m h).2) := by
  have q : WV (0, fun _ => 0, none) (0 + 1 + 1 + 1 + 1 + 1 + 1) 313 0 [some (.inr (.inr (some 203))), some (.inl s), some (.inl m), some (.inl h), none] [] 1 v (fun _ _ _ => CF ((mo_began v s m h).2)) := w_mo_began (X := (0, fun _ => 0, none)) (d := 0) (b := 1) hX hp_a hp_b hp_c hp_d (fun _ q => q)
  obtain ⟨_, _, _, _, _, _, _, q⟩ := q
  exact q

theorem o_mo_began {rk : Nat} {v : VS} {s : Int} {m : Int} {h : Int} (hk : (rk < 203 ∨ 203 < rk) ∧ (rk < 213 ∨ 213 < rk) ∧ (rk < 219 ∨ 231 < rk)) : (mo_began v s m h).2 rk = v rk := by
  unfold mo_began
  by_cases hc_ : (mo_whyNotBegan (v2 v 203 0 0) s m h) = 0
  · rw [if_pos hc_] <;> clear hc_
    all_goals (show (mo_begans (v2 v 203 0 0) s m h) rk = _)
    all_goals (rw [o_mo_begans (by omega), v2_row (by omega)])
  · rw [if_neg hc_] <;> clear hc_
    all_goals (show (v2 v 203 0 0) rk = _)
    all_goals (rw [v2_row (by omega)])

noncomputable def mo_first (v : VS) (s : Int) (m : Int) (h : Int) (w : Int) : Int × VS :=
  (if (0 : Int) ≤ w ∧ w ≤ (1 : Int) then (if (mo_whyNotBegan (v2 v 203 0 0) s m h) = 0 then (if ((mo_begans (v2 v 203 0 0) s m h) 203 51) = 0 then ((-1), (mo_begans (v2 v 203 0 0) s m h)) else (if w = 0 then (((mo_begans (v2 v 203 0 0) s m h) 203 52), (mo_begans (v2 v 203 0 0) s m h)) else (((mo_begans (v2 v 203 0 0) s m h) 203 53), (mo_begans (v2 v 203 0 0) s m h)))) else ((mo_whyNotBegan (v2 v 203 0 0) s m h), (v2 v 203 0 0))) else ((-2), (v2 v 203 0 0)))
theorem w_mo_first {X : PX} {d b : Nat} {v : VS} {s : Int} {m : Int} {h : Int} {w : Int} (hX : XI v) (hp_a : R32 s) (hp_b : R32 m) (hp_c : R32 h) (hp_d : R32 w) (hp_e : CF v) {Q : Option PV → Nat → VS → Prop} (hQ : XI (mo_first v s m h w).2 → (CF ((mo_first v s m h w).2)) → Q (some (.inl (mo_first v s m h w).1)) b (mo_first v s m h w).2) : WV X (d + 1 + 1 + 1 + 1 + 1 + 1) 318 0 [some (.inr (.inr (some 203))), some (.inl s), some (.inl m), some (.inl h), some (.inl w), none] [] b v Q := by
  rw [mo_first] at hQ
  refine r_ex 2 (pc' := 2) (lo' := [some (.inr (.inr (some 203))), some (.inl s), some (.inl m), some (.inl h), some (.inl w), none]) (st' := [.inl 0, .inr (.inr (some 203))]) rfl ?_
  refine r_puti2 (j := 0) (pc' := 5) (pc0 := 2) (len := 3) rfl (s_203 _) rfl rfl rfl (Or.inl rfl) rfl rfl ?_
  have hX_1 : XI (v2 v 203 0 0) := XI.put hX trivial
  refine r_ex 1 (pc' := 7) (lo' := [some (.inr (.inr (some 203))), some (.inl s), some (.inl m), some (.inl h), some (.inl w), none]) (st' := [.inl w]) rfl ?_
  refine n_i2l (pc' := 8) (pc0 := 7) (len := 1) rfl (by first | assumption | omega | (unfold R32 at *; omega) | (unfold R64 at *; omega) | (simp only [R32, R64] at *; omega)) rfl ?_
  refine r_ex 2 (pc' := 10) (lo' := [some (.inr (.inr (some 203))), some (.inl s), some (.inl m), some (.inl h), some (.inl w), none]) (st' := [.inr (.inl 1), .inr (.inl 0), .inr (.inl w)]) rfl ?_
  have hp_2 : R64 w := (by first | assumption | omega | (unfold R32 at *; omega) | (unfold R64 at *; omega) | (simp only [R32, R64] at *; omega))
  have hp_3 : R64 (0 : Int) := (by first | assumption | omega | (unfold R32 at *; omega) | (unfold R64 at *; omega) | (simp only [R32, R64] at *; omega))
  have hp_4 : R64 (1 : Int) := (by first | assumption | omega | (unfold R32 at *; omega) | (unfold R64 at *; omega) | (simp only [R32, R64] at *; omega))
  refine r_callb (P := (0 : Int) ≤ w ∧ w ≤ (1 : Int)) (m := 202) (args := [.inr (.inl w), .inr (.inl 0), .inr (.inl 1)]) (n' := 318) (pc' := 13) (lo' := [some (.inr (.inr (some 203))), some (.inl s), some (.inl m), some (.inl h), some (.inl w), none]) (st' := []) (I := .invokestatic 202) (pc0 := 10) (len := 3) rfl rfl rfl (e_mo_in hX_1 hp_2 hp_3 hp_4) (fun h_10 => ?_) (fun h_10 => ?_)
  · show WV _ _ _ 13 _ _ _ _ _
    rw [if_pos h_10] at hQ
    refine r_ex 5 (pc' := 20) (lo' := [some (.inr (.inr (some 203))), some (.inl s), some (.inl m), some (.inl h), some (.inl w), none]) (st' := [.inl h, .inl m, .inl s, .inr (.inr (some 203))]) rfl ?_
    have hp_5 : R32 s := (by first | assumption | omega | (unfold R32 at *; omega) | (unfold R64 at *; omega) | (simp only [R32, R64] at *; omega))
    have hp_6 : R32 m := (by first | assumption | omega | (unfold R32 at *; omega) | (unfold R64 at *; omega) | (simp only [R32, R64] at *; omega))
    have hp_7 : R32 h := (by first | assumption | omega | (unfold R32 at *; omega) | (unfold R64 at *; omega) | (simp only [R32, R64] at *; omega))
    refine r_call (m := 314) (args := [.inr (.inr (some 203)), .inl s, .inl m, .inl h]) (n' := 318) (pc' := 23) (lo' := [some (.inr (.inr (some 203))), some (.inl s), some (.inl m), some (.inl h), some (.inl w), none]) (st' := []) (I := .invokevirtual 314) (pc0 := 20) (len := 3) rfl rfl rfl (e_mo_whyNotBegan hX_1 hp_5 hp_6 hp_7) ?_
    show WV _ _ _ 23 _ [.inl (mo_whyNotBegan (v2 v 203 0 0) s m h)] _ _ _
    have hb_8 := n_mo_whyNotBegan (v := (v2 v 203 0 0)) (s := s) (m := m) (h := h) hX_1 hp_5 hp_6 hp_7
    refine r_ex 3 (pc' := 32) (lo' := [some (.inr (.inr (some 203))), some (.inl s), some (.inl m), some (.inl h), some (.inl w), some (.inl (mo_whyNotBegan (v2 v 203 0 0) s m h))]) (st' := [.inl (mo_whyNotBegan (v2 v 203 0 0) s m h)]) rfl ?_
    refine n_if_eq (pc0 := 32) (len := 3) (t := 38) rfl (by first | assumption | omega | (unfold R32 at *; omega) | (unfold R64 at *; omega) | (simp only [R32, R64] at *; omega)) (fun h_32 => ?_) (fun h_32 => ?_)
    · show WV _ _ _ 38 _ _ _ _ _
      rw [if_pos h_32] at hQ
      have hr0 := whyb_0 h_32
      have hr_ := why_0 (v := v2 v 203 0 0) (XI.put hX trivial) hr0.2.2
      have hr1 : (v2 v 203 0 0) 210 1 = v 210 1 := rfl
      have hb33 : 0 ≤ v 210 1 ∧ v 210 1 ≤ 300 := hX 210 1
      refine r_ex 4 (pc' := 42) (lo' := [some (.inr (.inr (some 203))), some (.inl s), some (.inl m), some (.inl h), some (.inl w), some (.inl (mo_whyNotBegan (v2 v 203 0 0) s m h))]) (st' := [.inl h, .inl m, .inl s, .inr (.inr (some 203))]) rfl ?_
      have hp_9 : 0 ≤ s ∧ s ≤ 3 := (by first | assumption | omega | (unfold R32 at *; omega) | (unfold R64 at *; omega) | (simp only [R32, R64] at *; omega))
      have hp_10 : 0 ≤ m ∧ m ≤ 299 := (by first | assumption | omega | (unfold R32 at *; omega) | (unfold R64 at *; omega) | (simp only [R32, R64] at *; omega))
      have hp_11 : 0 ≤ h ∧ h ≤ 99 := (by first | assumption | omega | (unfold R32 at *; omega) | (unfold R64 at *; omega) | (simp only [R32, R64] at *; omega))
      have hp_12 : (v2 v 203 0 0) 205 s.toNat % 3 = 0 := hr_.2.2.2.1
      have hp_13 : CF (v2 v 203 0 0) := show CF (v2 v 203 0 0) from (show CF (v2 v 203 0 0) from CF.of hp_e (fun k h1 h2 => by rw [v2_row (by omega)]))
      refine r_call (m := 315) (args := [.inr (.inr (some 203)), .inl s, .inl m, .inl h]) (n' := 318) (pc' := 45) (lo' := [some (.inr (.inr (some 203))), some (.inl s), some (.inl m), some (.inl h), some (.inl w), some (.inl (mo_whyNotBegan (v2 v 203 0 0) s m h))]) (st' := []) (I := .invokevirtual 315) (pc0 := 42) (len := 3) rfl rfl rfl (e_mo_begans hX_1 hp_9 hp_10 hp_11 hp_12 hp_13) ?_
      show WV _ _ _ 45 _ [] _ (mo_begans (v2 v 203 0 0) s m h) _
      have hX_14 : XI (mo_begans (v2 v 203 0 0) s m h) := i_mo_begans (v := (v2 v 203 0 0)) (s := s) (m := m) (h := h) hX_1 hp_9 hp_10 hp_11 hp_12 hp_13
      have hl_15 := n_mo_begans (v := (v2 v 203 0 0)) (s := s) (m := m) (h := h) hX_1 hp_9 hp_10 hp_11 hp_12 hp_13
      refine r_ex 2 (pc' := 49) (lo' := [some (.inr (.inr (some 203))), some (.inl s), some (.inl m), some (.inl h), some (.inl w), some (.inl (mo_whyNotBegan (v2 v 203 0 0) s m h))]) (st' := [.inl ((mo_begans (v2 v 203 0 0) s m h) 203 51)]) rfl ?_
      have hb_16 : 0 ≤ ((mo_begans (v2 v 203 0 0) s m h) 203 51) ∧ ((mo_begans (v2 v 203 0 0) s m h) 203 51) ≤ 2700 := hX_14 203 51
      refine n_if_ne (pc0 := 49) (len := 3) (t := 56) rfl (by first | assumption | omega | (unfold R32 at *; omega) | (unfold R64 at *; omega) | (simp only [R32, R64] at *; omega)) (fun h_49 => ?_) (fun h_49 => ?_)
      · show WV _ _ _ 56 _ _ _ _ _
        rw [if_neg h_49] at hQ
        refine r_ex 1 (pc' := 58) (lo' := [some (.inr (.inr (some 203))), some (.inl s), some (.inl m), some (.inl h), some (.inl w), some (.inl (mo_whyNotBegan (v2 v 203 0 0) s m h))]) (st' := [.inl w]) rfl ?_
        refine n_if_ne (pc0 := 58) (len := 3) (t := 68) rfl (by first | assumption | omega | (unfold R32 at *; omega) | (unfold R64 at *; omega) | (simp only [R32, R64] at *; omega)) (fun h_58 => ?_) (fun h_58 => ?_)
        · show WV _ _ _ 68 _ _ _ _ _
          rw [if_neg h_58] at hQ
          refine r_ex 2 (pc' := 72) (lo' := [some (.inr (.inr (some 203))), some (.inl s), some (.inl m), some (.inl h), some (.inl w), some (.inl (mo_whyNotBegan (v2 v 203 0 0) s m h))]) (st' := [.inl ((mo_begans (v2 v 203 0 0) s m h) 203 53)]) rfl ?_
          refine r_ret (rr := some (.inl ((mo_begans (v2 v 203 0 0) s m h) 203 53))) (I := .ireturn) (pc0 := 72) (len := 1) rfl rfl ?_
          exact hQ hX_14 (hl_15)
        · show WV _ _ _ 61 _ _ _ _ _
          rw [if_pos h_58] at hQ
          refine r_ex 3 (pc' := 72) (lo' := [some (.inr (.inr (some 203))), some (.inl s), some (.inl m), some (.inl h), some (.inl w), some (.inl (mo_whyNotBegan (v2 v 203 0 0) s m h))]) (st' := [.inl ((mo_begans (v2 v 203 0 0) s m h) 203 52)]) rfl ?_
          refine r_ret (rr := some (.inl ((mo_begans (v2 v 203 0 0) s m h) 203 52))) (I := .ireturn) (pc0 := 72) (len := 1) rfl rfl ?_
          exact hQ hX_14 (hl_15)
      · show WV _ _ _ 52 _ _ _ _ _
        rw [if_pos h_49] at hQ
        refine r_ex 2 (pc' := 72) (lo' := [some (.inr (.inr (some 203))), some (.inl s), some (.inl m), some (.inl h), some (.inl w), some (.inl (mo_whyNotBegan (v2 v 203 0 0) s m h))]) (st' := [.inl (-1)]) rfl ?_
        refine r_ret (rr := some (.inl (-1))) (I := .ireturn) (pc0 := 72) (len := 1) rfl rfl ?_
        exact hQ hX_14 (hl_15)
    · show WV _ _ _ 35 _ _ _ _ _
      rw [if_neg h_32] at hQ
      refine r_ex 1 (pc' := 37) (lo' := [some (.inr (.inr (some 203))), some (.inl s), some (.inl m), some (.inl h), some (.inl w), some (.inl (mo_whyNotBegan (v2 v 203 0 0) s m h))]) (st' := [.inl (mo_whyNotBegan (v2 v 203 0 0) s m h)]) rfl ?_
      refine r_ret (rr := some (.inl (mo_whyNotBegan (v2 v 203 0 0) s m h))) (I := .ireturn) (pc0 := 37) (len := 1) rfl rfl ?_
      exact hQ hX_1 (show CF (v2 v 203 0 0) from (show CF (v2 v 203 0 0) from CF.of hp_e (fun k h1 h2 => by rw [v2_row (by omega)])))
  · show WV _ _ _ 13 _ _ _ _ _
    rw [if_neg h_10] at hQ
    refine r_ex 6 (pc' := 37) (lo' := [some (.inr (.inr (some 203))), some (.inl s), some (.inl m), some (.inl h), some (.inl w), some (.inl (-2))]) (st' := [.inl (-2)]) rfl ?_
    refine r_ret (rr := some (.inl (-2))) (I := .ireturn) (pc0 := 37) (len := 1) rfl rfl ?_
    exact hQ hX_1 (show CF (v2 v 203 0 0) from (show CF (v2 v 203 0 0) from CF.of hp_e (fun k h1 h2 => by rw [v2_row (by omega)])))

theorem e_mo_first {X : PX} {d b : Nat} {v : VS} {s : Int} {m : Int} {h : Int} {w : Int} (hX : XI v) (hp_a : R32 s) (hp_b : R32 m) (hp_c : R32 h) (hp_d : R32 w) (hp_e : CF v) : EvV X (d + 1 + 1 + 1 + 1 + 1 + 1) 318 [.inr (.inr (some 203)), .inl s, .inl m, .inl h, .inl w] b v (some (.inl (mo_first v s m h w).1)) b ((mo_first v s m h w).2) := EvV.of (w_mo_first hX hp_a hp_b hp_c hp_d hp_e (fun _ _ => ⟨rfl, rfl, rfl⟩))

theorem i_mo_first {v : VS} {s : Int} {m : Int} {h : Int} {w : Int} (hX : XI v) (hp_a : R32 s) (hp_b : R32 m) (hp_c : R32 h) (hp_d : R32 w) (hp_e : CF v) : XI ((mo_first v s m h w).2) := by
  have q : WV (0, fun _ => 0, none) (0 + 1 + 1 + 1 + 1 + 1 + 1) 318 0 [some (.inr (.inr (some 203))), some (.inl s), some (.inl m), some (.inl h), some (.inl w), none] [] 1 v (fun _ _ _ => XI ((mo_first v s m h w).2)) := w_mo_first (X := (0, fun _ => 0, none)) (d := 0) (b := 1) hX hp_a hp_b hp_c hp_d hp_e (fun q _ => q)
  obtain ⟨_, _, _, _, _, _, _, q⟩ := q
  exact q

theorem n_mo_first {v : VS} {s : Int} {m : Int} {h : Int} {w : Int} (hX : XI v) (hp_a : R32 s) (hp_b : R32 m) (hp_c : R32 h) (hp_d : R32 w) (hp_e : CF v) : CF ((mo_first v s m h w).2) := by
  have q : WV (0, fun _ => 0, none) (0 + 1 + 1 + 1 + 1 + 1 + 1) 318 0 [some (.inr (.inr (some 203))), some (.inl s), some (.inl m), some (.inl h), some (.inl w), none] [] 1 v (fun _ _ _ => CF ((mo_first v s m h w).2)) := w_mo_first (X := (0, fun _ => 0, none)) (d := 0) (b := 1) hX hp_a hp_b hp_c hp_d hp_e (fun _ q => q)
  obtain ⟨_, _, _, _, _, _, _, q⟩ := q
  exact q

theorem o_mo_first {rk : Nat} {v : VS} {s : Int} {m : Int} {h : Int} {w : Int} (hk : (rk < 203 ∨ 203 < rk) ∧ (rk < 213 ∨ 213 < rk) ∧ (rk < 219 ∨ 231 < rk)) : (mo_first v s m h w).2 rk = v rk := by
  unfold mo_first
  by_cases hc_ : (0 : Int) ≤ w ∧ w ≤ (1 : Int)
  · rw [if_pos hc_] <;> clear hc_
    by_cases hc_ : (mo_whyNotBegan (v2 v 203 0 0) s m h) = 0
    · rw [if_pos hc_] <;> clear hc_
      by_cases hc_ : ((mo_begans (v2 v 203 0 0) s m h) 203 51) = 0
      · rw [if_pos hc_] <;> clear hc_
        all_goals (show (mo_begans (v2 v 203 0 0) s m h) rk = _)
        all_goals (rw [o_mo_begans (by omega), v2_row (by omega)])
      · rw [if_neg hc_] <;> clear hc_
        by_cases hc_ : w = 0
        · rw [if_pos hc_] <;> clear hc_
          all_goals (show (mo_begans (v2 v 203 0 0) s m h) rk = _)
          all_goals (rw [o_mo_begans (by omega), v2_row (by omega)])
        · rw [if_neg hc_] <;> clear hc_
          all_goals (show (mo_begans (v2 v 203 0 0) s m h) rk = _)
          all_goals (rw [o_mo_begans (by omega), v2_row (by omega)])
    · rw [if_neg hc_] <;> clear hc_
      all_goals (show (v2 v 203 0 0) rk = _)
      all_goals (rw [v2_row (by omega)])
  · rw [if_neg hc_] <;> clear hc_
    all_goals (show (v2 v 203 0 0) rk = _)
    all_goals (rw [v2_row (by omega)])

noncomputable def mo_sure (v : VS) (s : Int) (m : Int) (h : Int) : Int × VS :=
  (if (mo_whyNotBegan (v2 v 203 0 0) s m h) = 0 then (((mo_begans (v2 v 203 0 0) s m h) 203 54), (mo_begans (v2 v 203 0 0) s m h)) else ((mo_whyNotBegan (v2 v 203 0 0) s m h), (v2 v 203 0 0)))
theorem w_mo_sure {X : PX} {d b : Nat} {v : VS} {s : Int} {m : Int} {h : Int} (hX : XI v) (hp_a : R32 s) (hp_b : R32 m) (hp_c : R32 h) (hp_d : CF v) {Q : Option PV → Nat → VS → Prop} (hQ : XI (mo_sure v s m h).2 → (CF ((mo_sure v s m h).2)) → Q (some (.inl (mo_sure v s m h).1)) b (mo_sure v s m h).2) : WV X (d + 1 + 1 + 1 + 1 + 1 + 1) 319 0 [some (.inr (.inr (some 203))), some (.inl s), some (.inl m), some (.inl h), none] [] b v Q := by
  rw [mo_sure] at hQ
  refine r_ex 2 (pc' := 2) (lo' := [some (.inr (.inr (some 203))), some (.inl s), some (.inl m), some (.inl h), none]) (st' := [.inl 0, .inr (.inr (some 203))]) rfl ?_
  refine r_puti2 (j := 0) (pc' := 5) (pc0 := 2) (len := 3) rfl (s_203 _) rfl rfl rfl (Or.inl rfl) rfl rfl ?_
  have hX_1 : XI (v2 v 203 0 0) := XI.put hX trivial
  refine r_ex 4 (pc' := 9) (lo' := [some (.inr (.inr (some 203))), some (.inl s), some (.inl m), some (.inl h), none]) (st' := [.inl h, .inl m, .inl s, .inr (.inr (some 203))]) rfl ?_
  have hp_2 : R32 s := (by first | assumption | omega | (unfold R32 at *; omega) | (unfold R64 at *; omega) | (simp only [R32, R64] at *; omega))
  have hp_3 : R32 m := (by first | assumption | omega | (unfold R32 at *; omega) | (unfold R64 at *; omega) | (simp only [R32, R64] at *; omega))
  have hp_4 : R32 h := (by first | assumption | omega | (unfold R32 at *; omega) | (unfold R64 at *; omega) | (simp only [R32, R64] at *; omega))
  refine r_call (m := 314) (args := [.inr (.inr (some 203)), .inl s, .inl m, .inl h]) (n' := 319) (pc' := 12) (lo' := [some (.inr (.inr (some 203))), some (.inl s), some (.inl m), some (.inl h), none]) (st' := []) (I := .invokevirtual 314) (pc0 := 9) (len := 3) rfl rfl rfl (e_mo_whyNotBegan hX_1 hp_2 hp_3 hp_4) ?_
  show WV _ _ _ 12 _ [.inl (mo_whyNotBegan (v2 v 203 0 0) s m h)] _ _ _
  have hb_5 := n_mo_whyNotBegan (v := (v2 v 203 0 0)) (s := s) (m := m) (h := h) hX_1 hp_2 hp_3 hp_4
  refine r_ex 2 (pc' := 16) (lo' := [some (.inr (.inr (some 203))), some (.inl s), some (.inl m), some (.inl h), some (.inl (mo_whyNotBegan (v2 v 203 0 0) s m h))]) (st' := [.inl (mo_whyNotBegan (v2 v 203 0 0) s m h)]) rfl ?_
  refine n_if_eq (pc0 := 16) (len := 3) (t := 22) rfl (by first | assumption | omega | (unfold R32 at *; omega) | (unfold R64 at *; omega) | (simp only [R32, R64] at *; omega)) (fun h_16 => ?_) (fun h_16 => ?_)
  · show WV _ _ _ 22 _ _ _ _ _
    rw [if_pos h_16] at hQ
    have hr0 := whyb_0 h_16
    have hr_ := why_0 (v := v2 v 203 0 0) (XI.put hX trivial) hr0.2.2
    have hr1 : (v2 v 203 0 0) 210 1 = v 210 1 := rfl
    have hb33 : 0 ≤ v 210 1 ∧ v 210 1 ≤ 300 := hX 210 1
    refine r_ex 4 (pc' := 26) (lo' := [some (.inr (.inr (some 203))), some (.inl s), some (.inl m), some (.inl h), some (.inl (mo_whyNotBegan (v2 v 203 0 0) s m h))]) (st' := [.inl h, .inl m, .inl s, .inr (.inr (some 203))]) rfl ?_
    have hp_6 : 0 ≤ s ∧ s ≤ 3 := (by first | assumption | omega | (unfold R32 at *; omega) | (unfold R64 at *; omega) | (simp only [R32, R64] at *; omega))
    have hp_7 : 0 ≤ m ∧ m ≤ 299 := (by first | assumption | omega | (unfold R32 at *; omega) | (unfold R64 at *; omega) | (simp only [R32, R64] at *; omega))
    have hp_8 : 0 ≤ h ∧ h ≤ 99 := (by first | assumption | omega | (unfold R32 at *; omega) | (unfold R64 at *; omega) | (simp only [R32, R64] at *; omega))
    have hp_9 : (v2 v 203 0 0) 205 s.toNat % 3 = 0 := hr_.2.2.2.1
    have hp_10 : CF (v2 v 203 0 0) := show CF (v2 v 203 0 0) from (show CF (v2 v 203 0 0) from CF.of hp_d (fun k h1 h2 => by rw [v2_row (by omega)]))
    refine r_call (m := 315) (args := [.inr (.inr (some 203)), .inl s, .inl m, .inl h]) (n' := 319) (pc' := 29) (lo' := [some (.inr (.inr (some 203))), some (.inl s), some (.inl m), some (.inl h), some (.inl (mo_whyNotBegan (v2 v 203 0 0) s m h))]) (st' := []) (I := .invokevirtual 315) (pc0 := 26) (len := 3) rfl rfl rfl (e_mo_begans hX_1 hp_6 hp_7 hp_8 hp_9 hp_10) ?_
    show WV _ _ _ 29 _ [] _ (mo_begans (v2 v 203 0 0) s m h) _
    have hX_11 : XI (mo_begans (v2 v 203 0 0) s m h) := i_mo_begans (v := (v2 v 203 0 0)) (s := s) (m := m) (h := h) hX_1 hp_6 hp_7 hp_8 hp_9 hp_10
    have hl_12 := n_mo_begans (v := (v2 v 203 0 0)) (s := s) (m := m) (h := h) hX_1 hp_6 hp_7 hp_8 hp_9 hp_10
    refine r_ex 2 (pc' := 33) (lo' := [some (.inr (.inr (some 203))), some (.inl s), some (.inl m), some (.inl h), some (.inl (mo_whyNotBegan (v2 v 203 0 0) s m h))]) (st' := [.inl ((mo_begans (v2 v 203 0 0) s m h) 203 54)]) rfl ?_
    refine r_ret (rr := some (.inl ((mo_begans (v2 v 203 0 0) s m h) 203 54))) (I := .ireturn) (pc0 := 33) (len := 1) rfl rfl ?_
    exact hQ hX_11 (hl_12)
  · show WV _ _ _ 19 _ _ _ _ _
    rw [if_neg h_16] at hQ
    refine r_ex 1 (pc' := 21) (lo' := [some (.inr (.inr (some 203))), some (.inl s), some (.inl m), some (.inl h), some (.inl (mo_whyNotBegan (v2 v 203 0 0) s m h))]) (st' := [.inl (mo_whyNotBegan (v2 v 203 0 0) s m h)]) rfl ?_
    refine r_ret (rr := some (.inl (mo_whyNotBegan (v2 v 203 0 0) s m h))) (I := .ireturn) (pc0 := 21) (len := 1) rfl rfl ?_
    exact hQ hX_1 (show CF (v2 v 203 0 0) from (show CF (v2 v 203 0 0) from CF.of hp_d (fun k h1 h2 => by rw [v2_row (by omega)])))

theorem e_mo_sure {X : PX} {d b : Nat} {v : VS} {s : Int} {m : Int} {h : Int} (hX : XI v) (hp_a : R32 s) (hp_b : R32 m) (hp_c : R32 h) (hp_d : CF v) : EvV X (d + 1 + 1 + 1 + 1 + 1 + 1) 319 [.inr (.inr (some 203)), .inl s, .inl m, .inl h] b v (some (.inl (mo_sure v s m h).1)) b ((mo_sure v s m h).2) := EvV.of (w_mo_sure hX hp_a hp_b hp_c hp_d (fun _ _ => ⟨rfl, rfl, rfl⟩))

theorem i_mo_sure {v : VS} {s : Int} {m : Int} {h : Int} (hX : XI v) (hp_a : R32 s) (hp_b : R32 m) (hp_c : R32 h) (hp_d : CF v) : XI ((mo_sure v s m h).2) := by
  have q : WV (0, fun _ => 0, none) (0 + 1 + 1 + 1 + 1 + 1 + 1) 319 0 [some (.inr (.inr (some 203))), some (.inl s), some (.inl m), some (.inl h), none] [] 1 v (fun _ _ _ => XI ((mo_sure v s m h).2)) := w_mo_sure (X := (0, fun _ => 0, none)) (d := 0) (b := 1) hX hp_a hp_b hp_c hp_d (fun q _ => q)
  obtain ⟨_, _, _, _, _, _, _, q⟩ := q
  exact q

theorem n_mo_sure {v : VS} {s : Int} {m : Int} {h : Int} (hX : XI v) (hp_a : R32 s) (hp_b : R32 m) (hp_c : R32 h) (hp_d : CF v) : CF ((mo_sure v s m h).2) := by
  have q : WV (0, fun _ => 0, none) (0 + 1 + 1 + 1 + 1 + 1 + 1) 319 0 [some (.inr (.inr (some 203))), some (.inl s), some (.inl m), some (.inl h), none] [] 1 v (fun _ _ _ => CF ((mo_sure v s m h).2)) := w_mo_sure (X := (0, fun _ => 0, none)) (d := 0) (b := 1) hX hp_a hp_b hp_c hp_d (fun _ q => q)
  obtain ⟨_, _, _, _, _, _, _, q⟩ := q
  exact q

theorem o_mo_sure {rk : Nat} {v : VS} {s : Int} {m : Int} {h : Int} (hk : (rk < 203 ∨ 203 < rk) ∧ (rk < 213 ∨ 213 < rk) ∧ (rk < 219 ∨ 231 < rk)) : (mo_sure v s m h).2 rk = v rk := by
  unfold mo_sure
  by_cases hc_ : (mo_whyNotBegan (v2 v 203 0 0) s m h) = 0
  · rw [if_pos hc_] <;> clear hc_
    all_goals (show (mo_begans (v2 v 203 0 0) s m h) rk = _)
    all_goals (rw [o_mo_begans (by omega), v2_row (by omega)])
  · rw [if_neg hc_] <;> clear hc_
    all_goals (show (v2 v 203 0 0) rk = _)
    all_goals (rw [v2_row (by omega)])

noncomputable def mo_draws (v : VS) (y : Int) (n : Int) : VS :=
  (v2 (mo_run (v2 (v2 (mo_plainly v) 203 28 n) 203 29 y)) 203 28 (-1))
theorem w_mo_draws {X : PX} {d b : Nat} {v : VS} {y : Int} {n : Int} (hX : XI v) (hp_a : 0 ≤ y ∧ y ≤ 2147483648) (hp_b : 0 ≤ n ∧ n ≤ 20) (hp_c : CF v) {Q : Option PV → Nat → VS → Prop} (hQ : XI (mo_draws v y n) → Q none b (mo_draws v y n)) : WV X (d + 1 + 1 + 1 + 1 + 1) 323 0 [some (.inr (.inr (some 203))), some (.inr (.inl y)), none, some (.inl n)] [] b v Q := by
  rw [mo_draws] at hQ
  refine r_ex 1 (pc' := 1) (lo' := [some (.inr (.inr (some 203))), some (.inr (.inl y)), none, some (.inl n)]) (st' := [.inr (.inr (some 203))]) rfl ?_
  refine r_call (m := 241) (args := [.inr (.inr (some 203))]) (n' := 323) (pc' := 4) (lo' := [some (.inr (.inr (some 203))), some (.inr (.inl y)), none, some (.inl n)]) (st' := []) (I := .invokevirtual 241) (pc0 := 1) (len := 3) rfl rfl rfl (e_mo_plainly hX) ?_
  show WV _ _ _ 4 _ [] _ (mo_plainly v) _
  have hX_1 : XI (mo_plainly v) := i_mo_plainly (v := v) hX
  refine r_ex 2 (pc' := 6) (lo' := [some (.inr (.inr (some 203))), some (.inr (.inl y)), none, some (.inl n)]) (st' := [.inl n, .inr (.inr (some 203))]) rfl ?_
  refine r_puti2 (j := 28) (pc' := 9) (pc0 := 6) (len := 3) rfl (s_203 _) rfl rfl rfl (Or.inl rfl) rfl rfl ?_
  have hX_2 : XI (v2 (mo_plainly v) 203 28 n) := XI.put hX_1 (show -1 ≤ n ∧ n ≤ 20 from (by first | assumption | omega | (unfold R32 at *; omega) | (unfold R64 at *; omega) | (simp only [R32, R64] at *; omega)))
  refine r_ex 2 (pc' := 11) (lo' := [some (.inr (.inr (some 203))), some (.inr (.inl y)), none, some (.inl n)]) (st' := [.inr (.inl y), .inr (.inr (some 203))]) rfl ?_
  refine r_putl2 (j := 29) (pc' := 14) (pc0 := 11) (len := 3) rfl (s_203 _) rfl rfl rfl rfl rfl ?_
  have hX_3 : XI (v2 (v2 (mo_plainly v) 203 28 n) 203 29 y) := XI.put hX_2 (show 0 ≤ y ∧ y ≤ 4294967296 from (by first | assumption | omega | (unfold R32 at *; omega) | (unfold R64 at *; omega) | (simp only [R32, R64] at *; omega)))
  refine r_ex 1 (pc' := 15) (lo' := [some (.inr (.inr (some 203))), some (.inr (.inl y)), none, some (.inl n)]) (st' := [.inr (.inr (some 203))]) rfl ?_
  have hp_4 : CF (v2 (v2 (mo_plainly v) 203 28 n) 203 29 y) := show CF (v2 (v2 (mo_plainly v) 203 28 n) 203 29 y) from (show CF (v2 (v2 (mo_plainly v) 203 28 n) 203 29 y) from CF.of hp_c (fun k h1 h2 => by rw [v2_row (by omega), v2_row (by omega), o_mo_plainly (by omega)]))
  refine r_call (m := 247) (args := [.inr (.inr (some 203))]) (n' := 323) (pc' := 18) (lo' := [some (.inr (.inr (some 203))), some (.inr (.inl y)), none, some (.inl n)]) (st' := []) (I := .invokevirtual 247) (pc0 := 15) (len := 3) rfl rfl rfl (e_mo_run hX_3 hp_4) ?_
  show WV _ _ _ 18 _ [] _ (mo_run (v2 (v2 (mo_plainly v) 203 28 n) 203 29 y)) _
  have hX_5 : XI (mo_run (v2 (v2 (mo_plainly v) 203 28 n) 203 29 y)) := i_mo_run (v := (v2 (v2 (mo_plainly v) 203 28 n) 203 29 y)) hX_3 hp_4
  refine r_ex 2 (pc' := 20) (lo' := [some (.inr (.inr (some 203))), some (.inr (.inl y)), none, some (.inl n)]) (st' := [.inl (-1), .inr (.inr (some 203))]) rfl ?_
  refine r_puti2 (j := 28) (pc' := 23) (pc0 := 20) (len := 3) rfl (s_203 _) rfl rfl rfl (Or.inl rfl) rfl rfl ?_
  have hX_6 : XI (v2 (mo_run (v2 (v2 (mo_plainly v) 203 28 n) 203 29 y)) 203 28 (-1)) := XI.put hX_5 (show -1 ≤ (-1) ∧ (-1) ≤ 20 from (by first | assumption | omega | (unfold R32 at *; omega) | (unfold R64 at *; omega) | (simp only [R32, R64] at *; omega)))
  refine r_ret (rr := none) (I := .return_) (pc0 := 23) (len := 1) rfl rfl ?_
  exact hQ hX_6 

theorem e_mo_draws {X : PX} {d b : Nat} {v : VS} {y : Int} {n : Int} (hX : XI v) (hp_a : 0 ≤ y ∧ y ≤ 2147483648) (hp_b : 0 ≤ n ∧ n ≤ 20) (hp_c : CF v) : EvV X (d + 1 + 1 + 1 + 1 + 1) 323 [.inr (.inr (some 203)), .inr (.inl y), .inl n] b v none b (mo_draws v y n) := EvV.of (w_mo_draws hX hp_a hp_b hp_c (fun _ => ⟨rfl, rfl, rfl⟩))

theorem i_mo_draws {v : VS} {y : Int} {n : Int} (hX : XI v) (hp_a : 0 ≤ y ∧ y ≤ 2147483648) (hp_b : 0 ≤ n ∧ n ≤ 20) (hp_c : CF v) : XI (mo_draws v y n) := by
  have q : WV (0, fun _ => 0, none) (0 + 1 + 1 + 1 + 1 + 1) 323 0 [some (.inr (.inr (some 203))), some (.inr (.inl y)), none, some (.inl n)] [] 1 v (fun _ _ _ => XI (mo_draws v y n)) := w_mo_draws (X := (0, fun _ => 0, none)) (d := 0) (b := 1) hX hp_a hp_b hp_c (fun q => q)
  obtain ⟨_, _, _, _, _, _, _, q⟩ := q
  exact q

theorem o_mo_draws {rk : Nat} {v : VS} {y : Int} {n : Int} (hk : (rk < 203 ∨ 203 < rk) ∧ (rk < 219 ∨ 231 < rk)) : (mo_draws v y n) rk = v rk := by
  unfold mo_draws
  all_goals (show (v2 (mo_run (v2 (v2 (mo_plainly v) 203 28 n) 203 29 y)) 203 28 (-1)) rk = _)
  all_goals (rw [v2_row (by omega), o_mo_run (by omega), v2_row (by omega), v2_row (by omega), o_mo_plainly (by omega)])

theorem mn_draws {v : VS} {y n : Int} (h : MNA) (hX : XI v) (hy : 0 ≤ y ∧ y ≤ 2147483648) (hn : 0 ≤ n ∧ n ≤ 20) (hc : CF v) : MN (mo_draws v y n) := by
  have h1 := i_mo_plainly hX
  have hX1 : XI (v2 (mo_plainly v) 203 28 n) := XI.put h1 (show -1 ≤ n ∧ n ≤ 20 by omega)
  have hX2 : XI (v2 (v2 (mo_plainly v) 203 28 n) 203 29 y) := XI.put hX1 (show 0 ≤ y ∧ y ≤ 4294967296 by omega)
  have q := h _ hX2 (CF.of hc (fun k h1 h2 => by rw [v2_row (by omega), v2_row (by omega), o_mo_plainly (by omega)]))
  exact q

noncomputable def mo_drawn_79 : Nat → VS → Int → Int → Int
  | 0, v, g, c => 0
  | f + 1, v, g, c => (if c < (v 210 0) then (if 0 < (v 231 ((c).toNat)) then (mo_drawn_79 f v (setb g c) (c + 1)) else (mo_drawn_79 f v g (c + 1))) else g)
noncomputable def mo_drawn (v : VS) (y : Int) (n : Int) (w : Int) : Int × VS :=
  (if 0 < (v 209 0) ∧ (0 ≤ y ∧ y ≤ 2000000000) ∧ (0 ≤ n ∧ n ≤ 20) then (if (0 : Int) ≤ w ∧ w ≤ (2 : Int) then (if w = 0 then (((mo_draws (v2 v 203 0 0) y n) 203 37), (mo_draws (v2 v 203 0 0) y n)) else (if w = 1 then (if ((mo_draws (v2 v 203 0 0) y n) 203 37) = 0 then ((-1), (mo_draws (v2 v 203 0 0) y n)) else ((mo_at (mo_draws (v2 v 203 0 0) y n) (((mo_draws (v2 v 203 0 0) y n) 203 37) - 1) 0), (mo_draws (v2 v 203 0 0) y n))) else ((mo_drawn_79 10 (mo_draws (v2 v 203 0 0) y n) 0 0), (mo_draws (v2 v 203 0 0) y n)))) else ((-2), (v2 v 203 0 0))) else ((-2), (v2 v 203 0 0)))
theorem l_mo_drawn_79 {X : PX} {d b : Nat} {Q : Option PV → Nat → VS → Prop}  : ∀ (f : Nat) (v : VS) (g : Int) (c : Int) (o1 : Option PV) (o2 : Option PV) (z3 : Int), XI v → (0 ≤ g ∧ g ≤ 511) → (0 ≤ c ∧ c ≤ 9) → (MN v) → (9 < c + f) → (∀ qx5 : Option PV, (0 ≤ (mo_drawn_79 f v g c) ∧ (mo_drawn_79 f v g c) ≤ 511) → WV X (d + 1 + 1 + 1 + 1 + 1 + 1) 321 119 [some (.inr (.inr (some 203))), o1, o2, some (.inl z3), some (.inl (mo_drawn_79 f v g c)), qx5] [] b v Q) → WV X (d + 1 + 1 + 1 + 1 + 1 + 1) 321 79 [some (.inr (.inr (some 203))), o1, o2, some (.inl z3), some (.inl g), some (.inl c)] [] b v Q := by
  intro f
  induction f with
  | zero =>
    intro v g c o1 o2 z3 hX hi_0 hi_1 hi_2 hf hK
    exfalso
    omega
  | succ f ih =>
    intro v g c o1 o2 z3 hX hi_0 hi_1 hi_2 hf hK
    rw [mo_drawn_79] at hK
    refine r_ex 4 (pc' := 86) (lo' := [some (.inr (.inr (some 203))), o1, o2, some (.inl z3), some (.inl g), some (.inl c)]) (st' := [.inl 0, .inr (.inr (some 210)), .inl c]) rfl ?_
    refine r_iald2 (j := 0) (x := (v 210 0)) (pc' := 87) (pc0 := 86) (len := 1) rfl (s_210 _) (by first | assumption | omega | (unfold R32 at *; omega) | (unfold R64 at *; omega) | (simp only [R32, R64] at *; omega)) (by decide) rfl rfl ?_
    have hb_12 : 0 ≤ (v 210 0) ∧ (v 210 0) ≤ 9 := hX 210 0
    refine n_ic_ge (pc0 := 87) (len := 3) (t := 119) rfl (by first | assumption | omega | (unfold R32 at *; omega) | (unfold R64 at *; omega) | (simp only [R32, R64] at *; omega)) (by first | assumption | omega | (unfold R32 at *; omega) | (unfold R64 at *; omega) | (simp only [R32, R64] at *; omega)) (fun h_87 => ?_) (fun h_87 => ?_)
    · show WV _ _ _ 119 _ _ _ _ _
      rw [if_neg h_87] at hK
      exact hK _  (by first | assumption | omega | (unfold R32 at *; omega) | (unfold R64 at *; omega) | (simp only [R32, R64] at *; omega))
    · show WV _ _ _ 90 _ _ _ _ _
      rw [if_pos h_87] at hK
      refine r_ex 4 (pc' := 98) (lo' := [some (.inr (.inr (some 203))), o1, o2, some (.inl z3), some (.inl g), some (.inl c)]) (st' := [.inl c, .inr (.inr (some 231)), .inl g]) rfl ?_
      refine r_iald2 (j := 0) (x := (v 231 ((c).toNat))) (pc' := 99) (pc0 := 98) (len := 1) rfl (s_231 _) (by first | assumption | omega | (unfold R32 at *; omega) | (unfold R64 at *; omega) | (simp only [R32, R64] at *; omega)) (by decide) rfl rfl ?_
      have hmn := hi_2.at (c := c) (by omega)
      refine n_if_le (pc0 := 99) (len := 3) (t := 109) rfl (by first | assumption | omega | (unfold R32 at *; omega) | (unfold R64 at *; omega) | (simp only [R32, R64] at *; omega)) (fun h_99 => ?_) (fun h_99 => ?_)
      · show WV _ _ _ 109 _ _ _ _ _
        rw [if_neg h_99] at hK
        refine r_ex 2 (pc' := 111) (lo' := [some (.inr (.inr (some 203))), o1, o2, some (.inl z3), some (.inl g), some (.inl c)]) (st' := [.inl (pm_or g 0)]) rfl ?_
        rw [or_0 (x := g) (by first | assumption | omega | (unfold R32 at *; omega) | (unfold R64 at *; omega) | (simp only [R32, R64] at *; omega))]
        refine r_ex 3 (pc' := 79) (lo' := [some (.inr (.inr (some 203))), o1, o2, some (.inl z3), some (.inl g), some (.inl (c + 1))]) (st' := []) rfl ?_
        refine ih v g (c + 1) _ _ _ hX (by first | assumption | omega | (have := b511 (x := g) (c := c) (by omega) (by omega); omega)) (by first | assumption | omega | (unfold R32 at *; omega) | (unfold R64 at *; omega) | (simp only [R32, R64] at *; omega)) (by first | assumption | exact mn_draws (v := v2 v 203 0 0) hp_e (XI.put hX trivial) (by omega) (by omega) (CF.of hp_d (fun k h1 h2 => by rw [v2_row (by omega)]))) (by first | assumption | omega | (unfold R32 at *; omega) | (unfold R64 at *; omega) | (simp only [R32, R64] at *; omega)) hK
      · show WV _ _ _ 102 _ _ _ _ _
        rw [if_pos h_99] at hK
        refine r_ex 5 (pc' := 111) (lo' := [some (.inr (.inr (some 203))), o1, o2, some (.inl z3), some (.inl g), some (.inl c)]) (st' := [.inl (pm_or g (pm_shl 1 c))]) rfl ?_
        rw [or_eq (x := g) (c := c) (by first | assumption | omega | (unfold R32 at *; omega) | (unfold R64 at *; omega) | (simp only [R32, R64] at *; omega)) (by first | assumption | omega | (unfold R32 at *; omega) | (unfold R64 at *; omega) | (simp only [R32, R64] at *; omega))]
        have hb_13 := setb_in (x := g) (c := c) (k := 12) (by first | assumption | omega | (unfold R32 at *; omega) | (unfold R64 at *; omega) | (simp only [R32, R64] at *; omega)) (by first | assumption | omega | (unfold R32 at *; omega) | (unfold R64 at *; omega) | (simp only [R32, R64] at *; omega))
        refine r_ex 3 (pc' := 79) (lo' := [some (.inr (.inr (some 203))), o1, o2, some (.inl z3), some (.inl (setb g c)), some (.inl (c + 1))]) (st' := []) rfl ?_
        refine ih v (setb g c) (c + 1) _ _ _ hX (by first | assumption | omega | (have := b511 (x := g) (c := c) (by omega) (by omega); omega)) (by first | assumption | omega | (unfold R32 at *; omega) | (unfold R64 at *; omega) | (simp only [R32, R64] at *; omega)) (by first | assumption | exact mn_draws (v := v2 v 203 0 0) hp_e (XI.put hX trivial) (by omega) (by omega) (CF.of hp_d (fun k h1 h2 => by rw [v2_row (by omega)]))) (by first | assumption | omega | (unfold R32 at *; omega) | (unfold R64 at *; omega) | (simp only [R32, R64] at *; omega)) hK

theorem w_mo_drawn {X : PX} {d b : Nat} {v : VS} {y : Int} {n : Int} {w : Int} (hX : XI v) (hp_a : R32 y) (hp_b : R32 n) (hp_c : R32 w) (hp_d : CF v) (hp_e : MNA) {Q : Option PV → Nat → VS → Prop} (hQ : XI (mo_drawn v y n w).2 → Q (some (.inl (mo_drawn v y n w).1)) b (mo_drawn v y n w).2) : WV X (d + 1 + 1 + 1 + 1 + 1 + 1) 321 0 [some (.inr (.inr (some 203))), some (.inl y), some (.inl n), some (.inl w), none, none] [] b v Q := by
  rw [mo_drawn] at hQ
  refine r_ex 2 (pc' := 2) (lo' := [some (.inr (.inr (some 203))), some (.inl y), some (.inl n), some (.inl w), none, none]) (st' := [.inl 0, .inr (.inr (some 203))]) rfl ?_
  refine r_puti2 (j := 0) (pc' := 5) (pc0 := 2) (len := 3) rfl (s_203 _) rfl rfl rfl (Or.inl rfl) rfl rfl ?_
  have hX_1 : XI (v2 v 203 0 0) := XI.put hX trivial
  refine r_ex 3 (pc' := 8) (lo' := [some (.inr (.inr (some 203))), some (.inl y), some (.inl n), some (.inl w), none, none]) (st' := [.inl n, .inl y, .inr (.inr (some 203))]) rfl ?_
  have hp_2 : R32 y := (by first | assumption | omega | (unfold R32 at *; omega) | (unfold R64 at *; omega) | (simp only [R32, R64] at *; omega))
  have hp_3 : R32 n := (by first | assumption | omega | (unfold R32 at *; omega) | (unfold R64 at *; omega) | (simp only [R32, R64] at *; omega))
  have hb_4 : 0 ≤ (v 209 0) ∧ (v 209 0) ≤ 2001 := hX_1 209 0
  refine r_callb (P := 0 < (v 209 0) ∧ (0 ≤ y ∧ y ≤ 2000000000) ∧ (0 ≤ n ∧ n ≤ 20)) (m := 322) (args := [.inr (.inr (some 203)), .inl y, .inl n]) (n' := 321) (pc' := 11) (lo' := [some (.inr (.inr (some 203))), some (.inl y), some (.inl n), some (.inl w), none, none]) (st' := []) (I := .invokevirtual 322) (pc0 := 8) (len := 3) rfl rfl rfl (e_mo_isDrawn hX_1 hp_2 hp_3) (fun h_8 => ?_) (fun h_8 => ?_)
  · show WV _ _ _ 11 _ _ _ _ _
    rw [if_pos h_8] at hQ
    refine r_ex 2 (pc' := 15) (lo' := [some (.inr (.inr (some 203))), some (.inl y), some (.inl n), some (.inl w), none, none]) (st' := [.inl w]) rfl ?_
    refine n_i2l (pc' := 16) (pc0 := 15) (len := 1) rfl (by first | assumption | omega | (unfold R32 at *; omega) | (unfold R64 at *; omega) | (simp only [R32, R64] at *; omega)) rfl ?_
    refine r_ex 2 (pc' := 20) (lo' := [some (.inr (.inr (some 203))), some (.inl y), some (.inl n), some (.inl w), none, none]) (st' := [.inr (.inl 2), .inr (.inl 0), .inr (.inl w)]) rfl ?_
    have hp_5 : R64 w := (by first | assumption | omega | (unfold R32 at *; omega) | (unfold R64 at *; omega) | (simp only [R32, R64] at *; omega))
    have hp_6 : R64 (0 : Int) := (by first | assumption | omega | (unfold R32 at *; omega) | (unfold R64 at *; omega) | (simp only [R32, R64] at *; omega))
    have hp_7 : R64 (2 : Int) := (by first | assumption | omega | (unfold R32 at *; omega) | (unfold R64 at *; omega) | (simp only [R32, R64] at *; omega))
    refine r_callb (P := (0 : Int) ≤ w ∧ w ≤ (2 : Int)) (m := 202) (args := [.inr (.inl w), .inr (.inl 0), .inr (.inl 2)]) (n' := 321) (pc' := 23) (lo' := [some (.inr (.inr (some 203))), some (.inl y), some (.inl n), some (.inl w), none, none]) (st' := []) (I := .invokestatic 202) (pc0 := 20) (len := 3) rfl rfl rfl (e_mo_in hX_1 hp_5 hp_6 hp_7) (fun h_20 => ?_) (fun h_20 => ?_)
    · show WV _ _ _ 23 _ _ _ _ _
      rw [if_pos h_20] at hQ
      refine r_ex 3 (pc' := 31) (lo' := [some (.inr (.inr (some 203))), some (.inl y), some (.inl n), some (.inl w), none, none]) (st' := [.inl y, .inr (.inr (some 203))]) rfl ?_
      refine n_i2l (pc' := 32) (pc0 := 31) (len := 1) rfl (by first | assumption | omega | (unfold R32 at *; omega) | (unfold R64 at *; omega) | (simp only [R32, R64] at *; omega)) rfl ?_
      refine r_ex 1 (pc' := 33) (lo' := [some (.inr (.inr (some 203))), some (.inl y), some (.inl n), some (.inl w), none, none]) (st' := [.inl n, .inr (.inl y), .inr (.inr (some 203))]) rfl ?_
      have hp_8 : 0 ≤ y ∧ y ≤ 2147483648 := (by first | assumption | omega | (unfold R32 at *; omega) | (unfold R64 at *; omega) | (simp only [R32, R64] at *; omega))
      have hp_9 : 0 ≤ n ∧ n ≤ 20 := (by first | assumption | omega | (unfold R32 at *; omega) | (unfold R64 at *; omega) | (simp only [R32, R64] at *; omega))
      have hp_10 : CF (v2 v 203 0 0) := show CF (v2 v 203 0 0) from (show CF (v2 v 203 0 0) from CF.of hp_d (fun k h1 h2 => by rw [v2_row (by omega)]))
      refine r_call (m := 323) (args := [.inr (.inr (some 203)), .inr (.inl y), .inl n]) (n' := 321) (pc' := 36) (lo' := [some (.inr (.inr (some 203))), some (.inl y), some (.inl n), some (.inl w), none, none]) (st' := []) (I := .invokevirtual 323) (pc0 := 33) (len := 3) rfl rfl rfl (e_mo_draws hX_1 hp_8 hp_9 hp_10) ?_
      show WV _ _ _ 36 _ [] _ (mo_draws (v2 v 203 0 0) y n) _
      have hX_11 : XI (mo_draws (v2 v 203 0 0) y n) := i_mo_draws (v := (v2 v 203 0 0)) (y := y) (n := n) hX_1 hp_8 hp_9 hp_10
      refine r_ex 1 (pc' := 37) (lo' := [some (.inr (.inr (some 203))), some (.inl y), some (.inl n), some (.inl w), none, none]) (st' := [.inl w]) rfl ?_
      refine n_if_ne (pc0 := 37) (len := 3) (t := 45) rfl (by first | assumption | omega | (unfold R32 at *; omega) | (unfold R64 at *; omega) | (simp only [R32, R64] at *; omega)) (fun h_37 => ?_) (fun h_37 => ?_)
      · show WV _ _ _ 45 _ _ _ _ _
        rw [if_neg h_37] at hQ
        refine r_ex 2 (pc' := 47) (lo' := [some (.inr (.inr (some 203))), some (.inl y), some (.inl n), some (.inl w), none, none]) (st' := [.inl 1, .inl w]) rfl ?_
        refine n_ic_ne (pc0 := 47) (len := 3) (t := 73) rfl (by first | assumption | omega | (unfold R32 at *; omega) | (unfold R64 at *; omega) | (simp only [R32, R64] at *; omega)) (by first | assumption | omega | (unfold R32 at *; omega) | (unfold R64 at *; omega) | (simp only [R32, R64] at *; omega)) (fun h_47 => ?_) (fun h_47 => ?_)
        · show WV _ _ _ 73 _ _ _ _ _
          rw [if_neg h_47] at hQ
          refine r_ex 4 (pc' := 79) (lo' := [some (.inr (.inr (some 203))), some (.inl y), some (.inl n), some (.inl w), some (.inl 0), some (.inl 0)]) (st' := []) rfl ?_
          refine l_mo_drawn_79 10 (mo_draws (v2 v 203 0 0) y n) 0 0 _ _ _ hX_11 (by first | assumption | omega | (have := b511 (x := g) (c := c) (by omega) (by omega); omega)) (by first | assumption | omega | (unfold R32 at *; omega) | (unfold R64 at *; omega) | (simp only [R32, R64] at *; omega)) (by first | assumption | exact mn_draws (v := v2 v 203 0 0) hp_e (XI.put hX trivial) (by omega) (by omega) (CF.of hp_d (fun k h1 h2 => by rw [v2_row (by omega)]))) (by first | assumption | omega | (unfold R32 at *; omega) | (unfold R64 at *; omega) | (simp only [R32, R64] at *; omega)) (fun o5_14  hv_14_0 => ?_)
          show WV _ _ _ 119 _ _ _ _ _
          refine r_ex 1 (pc' := 121) (lo' := [some (.inr (.inr (some 203))), some (.inl y), some (.inl n), some (.inl w), some (.inl (mo_drawn_79 10 (mo_draws (v2 v 203 0 0) y n) 0 0)), o5_14]) (st' := [.inl (mo_drawn_79 10 (mo_draws (v2 v 203 0 0) y n) 0 0)]) rfl ?_
          refine r_ret (rr := some (.inl (mo_drawn_79 10 (mo_draws (v2 v 203 0 0) y n) 0 0))) (I := .ireturn) (pc0 := 121) (len := 1) rfl rfl ?_
          exact hQ hX_11 
        · show WV _ _ _ 50 _ _ _ _ _
          rw [if_pos h_47] at hQ
          refine r_ex 2 (pc' := 54) (lo' := [some (.inr (.inr (some 203))), some (.inl y), some (.inl n), some (.inl w), none, none]) (st' := [.inl ((mo_draws (v2 v 203 0 0) y n) 203 37)]) rfl ?_
          have hb_15 : 0 ≤ ((mo_draws (v2 v 203 0 0) y n) 203 37) ∧ ((mo_draws (v2 v 203 0 0) y n) 203 37) ≤ 300 := hX_11 203 37
          refine n_if_ne (pc0 := 54) (len := 3) (t := 61) rfl (by first | assumption | omega | (unfold R32 at *; omega) | (unfold R64 at *; omega) | (simp only [R32, R64] at *; omega)) (fun h_54 => ?_) (fun h_54 => ?_)
          · show WV _ _ _ 61 _ _ _ _ _
            rw [if_neg h_54] at hQ
            refine r_ex 6 (pc' := 69) (lo' := [some (.inr (.inr (some 203))), some (.inl y), some (.inl n), some (.inl w), none, none]) (st' := [.inl 0, .inl (((mo_draws (v2 v 203 0 0) y n) 203 37) - 1), .inr (.inr (some 203))]) rfl ?_
            have hp_16 : 0 ≤ (((mo_draws (v2 v 203 0 0) y n) 203 37) - 1) ∧ (((mo_draws (v2 v 203 0 0) y n) 203 37) - 1) < 300 := (by first | assumption | omega | (unfold R32 at *; omega) | (unfold R64 at *; omega) | (simp only [R32, R64] at *; omega))
            have hp_17 : 0 ≤ (0 : Int) ∧ (0 : Int) < 5 := (by first | assumption | omega | (unfold R32 at *; omega) | (unfold R64 at *; omega) | (simp only [R32, R64] at *; omega))
            refine r_call (m := 254) (args := [.inr (.inr (some 203)), .inl (((mo_draws (v2 v 203 0 0) y n) 203 37) - 1), .inl 0]) (n' := 321) (pc' := 72) (lo' := [some (.inr (.inr (some 203))), some (.inl y), some (.inl n), some (.inl w), none, none]) (st' := []) (I := .invokevirtual 254) (pc0 := 69) (len := 3) rfl rfl rfl (e_mo_at hX_11 hp_16 hp_17) ?_
            show WV _ _ _ 72 _ [.inl (mo_at (mo_draws (v2 v 203 0 0) y n) (((mo_draws (v2 v 203 0 0) y n) 203 37) - 1) 0)] _ _ _
            have hb_18 := n_mo_at (v := (mo_draws (v2 v 203 0 0) y n)) (i := (((mo_draws (v2 v 203 0 0) y n) 203 37) - 1)) (w := 0) hX_11 hp_16 hp_17
            refine r_ret (rr := some (.inl (mo_at (mo_draws (v2 v 203 0 0) y n) (((mo_draws (v2 v 203 0 0) y n) 203 37) - 1) 0))) (I := .ireturn) (pc0 := 72) (len := 1) rfl rfl ?_
            exact hQ hX_11 
          · show WV _ _ _ 57 _ _ _ _ _
            rw [if_pos h_54] at hQ
            refine r_ex 2 (pc' := 72) (lo' := [some (.inr (.inr (some 203))), some (.inl y), some (.inl n), some (.inl w), none, none]) (st' := [.inl (-1)]) rfl ?_
            refine r_ret (rr := some (.inl (-1))) (I := .ireturn) (pc0 := 72) (len := 1) rfl rfl ?_
            exact hQ hX_11 
      · show WV _ _ _ 40 _ _ _ _ _
        rw [if_pos h_37] at hQ
        refine r_ex 2 (pc' := 44) (lo' := [some (.inr (.inr (some 203))), some (.inl y), some (.inl n), some (.inl w), none, none]) (st' := [.inl ((mo_draws (v2 v 203 0 0) y n) 203 37)]) rfl ?_
        have hb_19 : 0 ≤ ((mo_draws (v2 v 203 0 0) y n) 203 37) ∧ ((mo_draws (v2 v 203 0 0) y n) 203 37) ≤ 300 := hX_11 203 37
        refine r_ret (rr := some (.inl ((mo_draws (v2 v 203 0 0) y n) 203 37))) (I := .ireturn) (pc0 := 44) (len := 1) rfl rfl ?_
        exact hQ hX_11 
    · show WV _ _ _ 23 _ _ _ _ _
      rw [if_neg h_20] at hQ
      refine r_ex 2 (pc' := 28) (lo' := [some (.inr (.inr (some 203))), some (.inl y), some (.inl n), some (.inl w), none, none]) (st' := [.inl (-2)]) rfl ?_
      refine r_ret (rr := some (.inl (-2))) (I := .ireturn) (pc0 := 28) (len := 1) rfl rfl ?_
      exact hQ hX_1 
  · show WV _ _ _ 11 _ _ _ _ _
    rw [if_neg h_8] at hQ
    refine r_ex 2 (pc' := 28) (lo' := [some (.inr (.inr (some 203))), some (.inl y), some (.inl n), some (.inl w), none, none]) (st' := [.inl (-2)]) rfl ?_
    refine r_ret (rr := some (.inl (-2))) (I := .ireturn) (pc0 := 28) (len := 1) rfl rfl ?_
    exact hQ hX_1 

theorem e_mo_drawn {X : PX} {d b : Nat} {v : VS} {y : Int} {n : Int} {w : Int} (hX : XI v) (hp_a : R32 y) (hp_b : R32 n) (hp_c : R32 w) (hp_d : CF v) (hp_e : MNA) : EvV X (d + 1 + 1 + 1 + 1 + 1 + 1) 321 [.inr (.inr (some 203)), .inl y, .inl n, .inl w] b v (some (.inl (mo_drawn v y n w).1)) b ((mo_drawn v y n w).2) := EvV.of (w_mo_drawn hX hp_a hp_b hp_c hp_d hp_e (fun _ => ⟨rfl, rfl, rfl⟩))

theorem i_mo_drawn {v : VS} {y : Int} {n : Int} {w : Int} (hX : XI v) (hp_a : R32 y) (hp_b : R32 n) (hp_c : R32 w) (hp_d : CF v) (hp_e : MNA) : XI ((mo_drawn v y n w).2) := by
  have q : WV (0, fun _ => 0, none) (0 + 1 + 1 + 1 + 1 + 1 + 1) 321 0 [some (.inr (.inr (some 203))), some (.inl y), some (.inl n), some (.inl w), none, none] [] 1 v (fun _ _ _ => XI ((mo_drawn v y n w).2)) := w_mo_drawn (X := (0, fun _ => 0, none)) (d := 0) (b := 1) hX hp_a hp_b hp_c hp_d hp_e (fun q => q)
  obtain ⟨_, _, _, _, _, _, _, q⟩ := q
  exact q

theorem o_mo_drawn {rk : Nat} {v : VS} {y : Int} {n : Int} {w : Int} (hk : (rk < 203 ∨ 203 < rk) ∧ (rk < 219 ∨ 231 < rk)) : (mo_drawn v y n w).2 rk = v rk := by
  unfold mo_drawn
  by_cases hc_ : 0 < (v 209 0) ∧ (0 ≤ y ∧ y ≤ 2000000000) ∧ (0 ≤ n ∧ n ≤ 20)
  · rw [if_pos hc_] <;> clear hc_
    by_cases hc_ : (0 : Int) ≤ w ∧ w ≤ (2 : Int)
    · rw [if_pos hc_] <;> clear hc_
      by_cases hc_ : w = 0
      · rw [if_pos hc_] <;> clear hc_
        all_goals (show (mo_draws (v2 v 203 0 0) y n) rk = _)
        all_goals (rw [o_mo_draws (by omega), v2_row (by omega)])
      · rw [if_neg hc_] <;> clear hc_
        by_cases hc_ : w = 1
        · rw [if_pos hc_] <;> clear hc_
          by_cases hc_ : ((mo_draws (v2 v 203 0 0) y n) 203 37) = 0
          · rw [if_pos hc_] <;> clear hc_
            all_goals (show (mo_draws (v2 v 203 0 0) y n) rk = _)
            all_goals (rw [o_mo_draws (by omega), v2_row (by omega)])
          · rw [if_neg hc_] <;> clear hc_
            all_goals (show (mo_draws (v2 v 203 0 0) y n) rk = _)
            all_goals (rw [o_mo_draws (by omega), v2_row (by omega)])
        · rw [if_neg hc_] <;> clear hc_
          all_goals (show (mo_draws (v2 v 203 0 0) y n) rk = _)
          all_goals (rw [o_mo_draws (by omega), v2_row (by omega)])
    · rw [if_neg hc_] <;> clear hc_
      all_goals (show (v2 v 203 0 0) rk = _)
      all_goals (rw [v2_row (by omega)])
  · rw [if_neg hc_] <;> clear hc_
    all_goals (show (v2 v 203 0 0) rk = _)
    all_goals (rw [v2_row (by omega)])

noncomputable def mo_chance_77 : Nat → VS → Int → Int → Int → Int → Int → Int → Int → Int → Int → Int
  | 0, v, y, k, n, c, h, g, i, w, s => 0
  | f + 1, v, y, k, n, c, h, g, i, w, s => (if s < (v 203 37) then (if w = 0 then (if (mo_at v s 1) = c then (if (mo_at v s 2) = h then (mo_chance_77 f v y k n c h g i 1 (s + 1)) else (mo_chance_77 f v y k n c h g i 0 (s + 1))) else (mo_chance_77 f v y k n c h g i 0 (s + 1))) else w) else w)
noncomputable def mo_chance_54 : Nat → VS → Int → Int → Int → Int → Int → Int → Int → Int × VS
  | 0, v, y, k, n, c, h, g, i => (0, v)
  | f + 1, v, y, k, n, c, h, g, i => (if i < k then (if (mo_chance_77 301 (mo_draws v (y + i) n) y k n c h g i 0 0) = 0 then (mo_chance_54 f (mo_draws v (y + i) n) y k n c h (g + 0) (i + 1)) else (mo_chance_54 f (mo_draws v (y + i) n) y k n c h (g + 1) (i + 1))) else (g, v))
noncomputable def mo_chance (v : VS) (y : Int) (k : Int) (n : Int) (c : Int) (h : Int) : Int × VS :=
  (if 0 < (v 209 0) ∧ (0 ≤ y ∧ y ≤ 2000000000) ∧ (0 ≤ n ∧ n ≤ 20) then (if (1 : Int) ≤ k ∧ k ≤ (20 : Int) then (if 0 ≤ c ∧ c < (v 210 0) then (if 1 ≤ h ∧ h ≤ 99 then ((mo_chance_54 21 (v2 v 203 0 0) y k n c h 0 0).1, (mo_chance_54 21 (v2 v 203 0 0) y k n c h 0 0).2) else ((-2), (v2 v 203 0 0))) else ((-2), (v2 v 203 0 0))) else ((-2), (v2 v 203 0 0))) else ((-2), (v2 v 203 0 0)))
theorem l_mo_chance_77 {X : PX} {d b : Nat} {Q : Option PV → Nat → VS → Prop}  : ∀ (f : Nat) (v : VS) (y : Int) (k : Int) (n : Int) (c : Int) (h : Int) (g : Int) (i : Int) (w : Int) (s : Int), XI v → (0 ≤ y ∧ y ≤ 2000000000) → (1 ≤ k ∧ k ≤ 20) → (0 ≤ n ∧ n ≤ 20) → (R32 c) → (R32 h) → (0 ≤ g ∧ g ≤ i) → (0 ≤ i ∧ i ≤ 20) → (0 ≤ w ∧ w ≤ 1) → (0 ≤ s ∧ s ≤ 300) → (300 < s + f) → (∀ qx9 : Option PV, (0 ≤ (mo_chance_77 f v y k n c h g i w s) ∧ (mo_chance_77 f v y k n c h g i w s) ≤ 1) → WV X (d + 1 + 1 + 1 + 1 + 1 + 1) 324 128 [some (.inr (.inr (some 203))), some (.inl y), some (.inl k), some (.inl n), some (.inl c), some (.inl h), some (.inl g), some (.inl i), some (.inl (mo_chance_77 f v y k n c h g i w s)), qx9] [] b v Q) → WV X (d + 1 + 1 + 1 + 1 + 1 + 1) 324 77 [some (.inr (.inr (some 203))), some (.inl y), some (.inl k), some (.inl n), some (.inl c), some (.inl h), some (.inl g), some (.inl i), some (.inl w), some (.inl s)] [] b v Q := by
  intro f
  induction f with
  | zero =>
    intro v y k n c h g i w s hX hi_0 hi_1 hi_2 hi_3 hi_4 hi_5 hi_6 hi_7 hi_8 hf hK
    exfalso
    omega
  | succ f ih =>
    intro v y k n c h g i w s hX hi_0 hi_1 hi_2 hi_3 hi_4 hi_5 hi_6 hi_7 hi_8 hf hK
    rw [mo_chance_77] at hK
    refine r_ex 3 (pc' := 83) (lo' := [some (.inr (.inr (some 203))), some (.inl y), some (.inl k), some (.inl n), some (.inl c), some (.inl h), some (.inl g), some (.inl i), some (.inl w), some (.inl s)]) (st' := [.inl (v 203 37), .inl s]) rfl ?_
    have hb_15 : 0 ≤ (v 203 37) ∧ (v 203 37) ≤ 300 := hX 203 37
    refine n_ic_ge (pc0 := 83) (len := 3) (t := 128) rfl (by first | assumption | omega | (unfold R32 at *; omega) | (unfold R64 at *; omega) | (simp only [R32, R64] at *; omega)) (by first | assumption | omega | (unfold R32 at *; omega) | (unfold R64 at *; omega) | (simp only [R32, R64] at *; omega)) (fun h_83 => ?_) (fun h_83 => ?_)
    · show WV _ _ _ 128 _ _ _ _ _
      rw [if_neg h_83] at hK
      exact hK _  (by first | assumption | omega | (unfold R32 at *; omega) | (unfold R64 at *; omega) | (simp only [R32, R64] at *; omega))
    · show WV _ _ _ 86 _ _ _ _ _
      rw [if_pos h_83] at hK
      refine r_ex 1 (pc' := 88) (lo' := [some (.inr (.inr (some 203))), some (.inl y), some (.inl k), some (.inl n), some (.inl c), some (.inl h), some (.inl g), some (.inl i), some (.inl w), some (.inl s)]) (st' := [.inl w]) rfl ?_
      refine n_if_ne (pc0 := 88) (len := 3) (t := 128) rfl (by first | assumption | omega | (unfold R32 at *; omega) | (unfold R64 at *; omega) | (simp only [R32, R64] at *; omega)) (fun h_88 => ?_) (fun h_88 => ?_)
      · show WV _ _ _ 128 _ _ _ _ _
        rw [if_neg h_88] at hK
        exact hK _  (by first | assumption | omega | (unfold R32 at *; omega) | (unfold R64 at *; omega) | (simp only [R32, R64] at *; omega))
      · show WV _ _ _ 91 _ _ _ _ _
        rw [if_pos h_88] at hK
        refine r_ex 3 (pc' := 95) (lo' := [some (.inr (.inr (some 203))), some (.inl y), some (.inl k), some (.inl n), some (.inl c), some (.inl h), some (.inl g), some (.inl i), some (.inl w), some (.inl s)]) (st' := [.inl 1, .inl s, .inr (.inr (some 203))]) rfl ?_
        have hp_16 : 0 ≤ s ∧ s < 300 := (by first | assumption | omega | (unfold R32 at *; omega) | (unfold R64 at *; omega) | (simp only [R32, R64] at *; omega))
        have hp_17 : 0 ≤ (1 : Int) ∧ (1 : Int) < 5 := (by first | assumption | omega | (unfold R32 at *; omega) | (unfold R64 at *; omega) | (simp only [R32, R64] at *; omega))
        refine r_call (m := 254) (args := [.inr (.inr (some 203)), .inl s, .inl 1]) (n' := 324) (pc' := 98) (lo' := [some (.inr (.inr (some 203))), some (.inl y), some (.inl k), some (.inl n), some (.inl c), some (.inl h), some (.inl g), some (.inl i), some (.inl w), some (.inl s)]) (st' := []) (I := .invokevirtual 254) (pc0 := 95) (len := 3) rfl rfl rfl (e_mo_at hX hp_16 hp_17) ?_
        show WV _ _ _ 98 _ [.inl (mo_at v s 1)] _ _ _
        have hb_18 := n_mo_at (v := v) (i := s) (w := 1) hX hp_16 hp_17
        refine r_ex 1 (pc' := 100) (lo' := [some (.inr (.inr (some 203))), some (.inl y), some (.inl k), some (.inl n), some (.inl c), some (.inl h), some (.inl g), some (.inl i), some (.inl w), some (.inl s)]) (st' := [.inl c, .inl (mo_at v s 1)]) rfl ?_
        refine n_ic_ne (pc0 := 100) (len := 3) (t := 119) rfl (by first | assumption | omega | (unfold R32 at *; omega) | (unfold R64 at *; omega) | (simp only [R32, R64] at *; omega)) (by first | assumption | omega | (unfold R32 at *; omega) | (unfold R64 at *; omega) | (simp only [R32, R64] at *; omega)) (fun h_100 => ?_) (fun h_100 => ?_)
        · show WV _ _ _ 119 _ _ _ _ _
          rw [if_neg h_100] at hK
          refine r_ex 4 (pc' := 77) (lo' := [some (.inr (.inr (some 203))), some (.inl y), some (.inl k), some (.inl n), some (.inl c), some (.inl h), some (.inl g), some (.inl i), some (.inl 0), some (.inl (s + 1))]) (st' := []) rfl ?_
          refine ih v y k n c h g i 0 (s + 1)  hX (by first | assumption | omega | (unfold R32 at *; omega) | (unfold R64 at *; omega) | (simp only [R32, R64] at *; omega)) (by first | assumption | omega | (unfold R32 at *; omega) | (unfold R64 at *; omega) | (simp only [R32, R64] at *; omega)) (by first | assumption | omega | (unfold R32 at *; omega) | (unfold R64 at *; omega) | (simp only [R32, R64] at *; omega)) (by first | assumption | omega | (unfold R32 at *; omega) | (unfold R64 at *; omega) | (simp only [R32, R64] at *; omega)) (by first | assumption | omega | (unfold R32 at *; omega) | (unfold R64 at *; omega) | (simp only [R32, R64] at *; omega)) (by first | assumption | omega | (unfold R32 at *; omega) | (unfold R64 at *; omega) | (simp only [R32, R64] at *; omega)) (by first | assumption | omega | (unfold R32 at *; omega) | (unfold R64 at *; omega) | (simp only [R32, R64] at *; omega)) (by first | assumption | omega | (unfold R32 at *; omega) | (unfold R64 at *; omega) | (simp only [R32, R64] at *; omega)) (by first | assumption | omega | (unfold R32 at *; omega) | (unfold R64 at *; omega) | (simp only [R32, R64] at *; omega)) (by first | assumption | omega | (unfold R32 at *; omega) | (unfold R64 at *; omega) | (simp only [R32, R64] at *; omega)) hK
        · show WV _ _ _ 103 _ _ _ _ _
          rw [if_pos h_100] at hK
          refine r_ex 3 (pc' := 107) (lo' := [some (.inr (.inr (some 203))), some (.inl y), some (.inl k), some (.inl n), some (.inl c), some (.inl h), some (.inl g), some (.inl i), some (.inl w), some (.inl s)]) (st' := [.inl 2, .inl s, .inr (.inr (some 203))]) rfl ?_
          have hp_19 : 0 ≤ s ∧ s < 300 := (by first | assumption | omega | (unfold R32 at *; omega) | (unfold R64 at *; omega) | (simp only [R32, R64] at *; omega))
          have hp_20 : 0 ≤ (2 : Int) ∧ (2 : Int) < 5 := (by first | assumption | omega | (unfold R32 at *; omega) | (unfold R64 at *; omega) | (simp only [R32, R64] at *; omega))
          refine r_call (m := 254) (args := [.inr (.inr (some 203)), .inl s, .inl 2]) (n' := 324) (pc' := 110) (lo' := [some (.inr (.inr (some 203))), some (.inl y), some (.inl k), some (.inl n), some (.inl c), some (.inl h), some (.inl g), some (.inl i), some (.inl w), some (.inl s)]) (st' := []) (I := .invokevirtual 254) (pc0 := 107) (len := 3) rfl rfl rfl (e_mo_at hX hp_19 hp_20) ?_
          show WV _ _ _ 110 _ [.inl (mo_at v s 2)] _ _ _
          have hb_21 := n_mo_at (v := v) (i := s) (w := 2) hX hp_19 hp_20
          refine r_ex 1 (pc' := 112) (lo' := [some (.inr (.inr (some 203))), some (.inl y), some (.inl k), some (.inl n), some (.inl c), some (.inl h), some (.inl g), some (.inl i), some (.inl w), some (.inl s)]) (st' := [.inl h, .inl (mo_at v s 2)]) rfl ?_
          refine n_ic_ne (pc0 := 112) (len := 3) (t := 119) rfl (by first | assumption | omega | (unfold R32 at *; omega) | (unfold R64 at *; omega) | (simp only [R32, R64] at *; omega)) (by first | assumption | omega | (unfold R32 at *; omega) | (unfold R64 at *; omega) | (simp only [R32, R64] at *; omega)) (fun h_112 => ?_) (fun h_112 => ?_)
          · show WV _ _ _ 119 _ _ _ _ _
            rw [if_neg h_112] at hK
            refine r_ex 4 (pc' := 77) (lo' := [some (.inr (.inr (some 203))), some (.inl y), some (.inl k), some (.inl n), some (.inl c), some (.inl h), some (.inl g), some (.inl i), some (.inl 0), some (.inl (s + 1))]) (st' := []) rfl ?_
            refine ih v y k n c h g i 0 (s + 1)  hX (by first | assumption | omega | (unfold R32 at *; omega) | (unfold R64 at *; omega) | (simp only [R32, R64] at *; omega)) (by first | assumption | omega | (unfold R32 at *; omega) | (unfold R64 at *; omega) | (simp only [R32, R64] at *; omega)) (by first | assumption | omega | (unfold R32 at *; omega) | (unfold R64 at *; omega) | (simp only [R32, R64] at *; omega)) (by first | assumption | omega | (unfold R32 at *; omega) | (unfold R64 at *; omega) | (simp only [R32, R64] at *; omega)) (by first | assumption | omega | (unfold R32 at *; omega) | (unfold R64 at *; omega) | (simp only [R32, R64] at *; omega)) (by first | assumption | omega | (unfold R32 at *; omega) | (unfold R64 at *; omega) | (simp only [R32, R64] at *; omega)) (by first | assumption | omega | (unfold R32 at *; omega) | (unfold R64 at *; omega) | (simp only [R32, R64] at *; omega)) (by first | assumption | omega | (unfold R32 at *; omega) | (unfold R64 at *; omega) | (simp only [R32, R64] at *; omega)) (by first | assumption | omega | (unfold R32 at *; omega) | (unfold R64 at *; omega) | (simp only [R32, R64] at *; omega)) (by first | assumption | omega | (unfold R32 at *; omega) | (unfold R64 at *; omega) | (simp only [R32, R64] at *; omega)) hK
          · show WV _ _ _ 115 _ _ _ _ _
            rw [if_pos h_112] at hK
            refine r_ex 5 (pc' := 77) (lo' := [some (.inr (.inr (some 203))), some (.inl y), some (.inl k), some (.inl n), some (.inl c), some (.inl h), some (.inl g), some (.inl i), some (.inl 1), some (.inl (s + 1))]) (st' := []) rfl ?_
            refine ih v y k n c h g i 1 (s + 1)  hX (by first | assumption | omega | (unfold R32 at *; omega) | (unfold R64 at *; omega) | (simp only [R32, R64] at *; omega)) (by first | assumption | omega | (unfold R32 at *; omega) | (unfold R64 at *; omega) | (simp only [R32, R64] at *; omega)) (by first | assumption | omega | (unfold R32 at *; omega) | (unfold R64 at *; omega) | (simp only [R32, R64] at *; omega)) (by first | assumption | omega | (unfold R32 at *; omega) | (unfold R64 at *; omega) | (simp only [R32, R64] at *; omega)) (by first | assumption | omega | (unfold R32 at *; omega) | (unfold R64 at *; omega) | (simp only [R32, R64] at *; omega)) (by first | assumption | omega | (unfold R32 at *; omega) | (unfold R64 at *; omega) | (simp only [R32, R64] at *; omega)) (by first | assumption | omega | (unfold R32 at *; omega) | (unfold R64 at *; omega) | (simp only [R32, R64] at *; omega)) (by first | assumption | omega | (unfold R32 at *; omega) | (unfold R64 at *; omega) | (simp only [R32, R64] at *; omega)) (by first | assumption | omega | (unfold R32 at *; omega) | (unfold R64 at *; omega) | (simp only [R32, R64] at *; omega)) (by first | assumption | omega | (unfold R32 at *; omega) | (unfold R64 at *; omega) | (simp only [R32, R64] at *; omega)) hK

theorem l_mo_chance_54 {X : PX} {d b : Nat} {Q : Option PV → Nat → VS → Prop}  : ∀ (f : Nat) (v : VS) (y : Int) (k : Int) (n : Int) (c : Int) (h : Int) (g : Int) (i : Int) (o8 : Option PV) (o9 : Option PV), XI v → (0 ≤ y ∧ y ≤ 2000000000) → (1 ≤ k ∧ k ≤ 20) → (0 ≤ n ∧ n ≤ 20) → (R32 c) → (R32 h) → (0 ≤ g ∧ g ≤ i) → (0 ≤ i ∧ i ≤ 20) → (CF v) → (20 < i + f) → (∀ qx7 : Option PV, ∀ qx8 : Option PV, ∀ qx9 : Option PV, XI ((mo_chance_54 f v y k n c h g i).2) → (0 ≤ (mo_chance_54 f v y k n c h g i).1 ∧ (mo_chance_54 f v y k n c h g i).1 ≤ 20) → WV X (d + 1 + 1 + 1 + 1 + 1 + 1) 324 149 [some (.inr (.inr (some 203))), some (.inl y), some (.inl k), some (.inl n), some (.inl c), some (.inl h), some (.inl ((mo_chance_54 f v y k n c h g i).1)), qx7, qx8, qx9] [] b (mo_chance_54 f v y k n c h g i).2 Q) → WV X (d + 1 + 1 + 1 + 1 + 1 + 1) 324 54 [some (.inr (.inr (some 203))), some (.inl y), some (.inl k), some (.inl n), some (.inl c), some (.inl h), some (.inl g), some (.inl i), o8, o9] [] b v Q := by
  intro f
  induction f with
  | zero =>
    intro v y k n c h g i o8 o9 hX hi_0 hi_1 hi_2 hi_3 hi_4 hi_5 hi_6 hi_7 hf hK
    exfalso
    omega
  | succ f ih =>
    intro v y k n c h g i o8 o9 hX hi_0 hi_1 hi_2 hi_3 hi_4 hi_5 hi_6 hi_7 hf hK
    rw [mo_chance_54] at hK
    refine r_ex 2 (pc' := 57) (lo' := [some (.inr (.inr (some 203))), some (.inl y), some (.inl k), some (.inl n), some (.inl c), some (.inl h), some (.inl g), some (.inl i), o8, o9]) (st' := [.inl k, .inl i]) rfl ?_
    refine n_ic_ge (pc0 := 57) (len := 3) (t := 149) rfl (by first | assumption | omega | (unfold R32 at *; omega) | (unfold R64 at *; omega) | (simp only [R32, R64] at *; omega)) (by first | assumption | omega | (unfold R32 at *; omega) | (unfold R64 at *; omega) | (simp only [R32, R64] at *; omega)) (fun h_57 => ?_) (fun h_57 => ?_)
    · show WV _ _ _ 149 _ _ _ _ _
      rw [if_neg h_57] at hK
      exact hK _ _ _ hX (by first | assumption | omega | (unfold R32 at *; omega) | (unfold R64 at *; omega) | (simp only [R32, R64] at *; omega))
    · show WV _ _ _ 60 _ _ _ _ _
      rw [if_pos h_57] at hK
      refine r_ex 2 (pc' := 62) (lo' := [some (.inr (.inr (some 203))), some (.inl y), some (.inl k), some (.inl n), some (.inl c), some (.inl h), some (.inl g), some (.inl i), o8, o9]) (st' := [.inl y, .inr (.inr (some 203))]) rfl ?_
      refine n_i2l (pc' := 63) (pc0 := 62) (len := 1) rfl (by first | assumption | omega | (unfold R32 at *; omega) | (unfold R64 at *; omega) | (simp only [R32, R64] at *; omega)) rfl ?_
      refine r_ex 1 (pc' := 65) (lo' := [some (.inr (.inr (some 203))), some (.inl y), some (.inl k), some (.inl n), some (.inl c), some (.inl h), some (.inl g), some (.inl i), o8, o9]) (st' := [.inl i, .inr (.inl y), .inr (.inr (some 203))]) rfl ?_
      refine n_i2l (pc' := 66) (pc0 := 65) (len := 1) rfl (by first | assumption | omega | (unfold R32 at *; omega) | (unfold R64 at *; omega) | (simp only [R32, R64] at *; omega)) rfl ?_
      refine r_ex 2 (pc' := 68) (lo' := [some (.inr (.inr (some 203))), some (.inl y), some (.inl k), some (.inl n), some (.inl c), some (.inl h), some (.inl g), some (.inl i), o8, o9]) (st' := [.inl n, .inr (.inl (y + i)), .inr (.inr (some 203))]) rfl ?_
      have hp_11 : 0 ≤ (y + i) ∧ (y + i) ≤ 2147483648 := (by first | assumption | omega | (unfold R32 at *; omega) | (unfold R64 at *; omega) | (simp only [R32, R64] at *; omega))
      have hp_12 : 0 ≤ n ∧ n ≤ 20 := (by first | assumption | omega | (unfold R32 at *; omega) | (unfold R64 at *; omega) | (simp only [R32, R64] at *; omega))
      have hp_13 : CF v := hi_7
      refine r_call (m := 323) (args := [.inr (.inr (some 203)), .inr (.inl (y + i)), .inl n]) (n' := 324) (pc' := 71) (lo' := [some (.inr (.inr (some 203))), some (.inl y), some (.inl k), some (.inl n), some (.inl c), some (.inl h), some (.inl g), some (.inl i), o8, o9]) (st' := []) (I := .invokevirtual 323) (pc0 := 68) (len := 3) rfl rfl rfl (e_mo_draws hX hp_11 hp_12 hp_13) ?_
      show WV _ _ _ 71 _ [] _ (mo_draws v (y + i) n) _
      have hX_14 : XI (mo_draws v (y + i) n) := i_mo_draws (v := v) (y := (y + i)) (n := n) hX hp_11 hp_12 hp_13
      refine r_ex 4 (pc' := 77) (lo' := [some (.inr (.inr (some 203))), some (.inl y), some (.inl k), some (.inl n), some (.inl c), some (.inl h), some (.inl g), some (.inl i), some (.inl 0), some (.inl 0)]) (st' := []) rfl ?_
      refine l_mo_chance_77 301 (mo_draws v (y + i) n) y k n c h g i 0 0  hX_14 (by first | assumption | omega | (unfold R32 at *; omega) | (unfold R64 at *; omega) | (simp only [R32, R64] at *; omega)) (by first | assumption | omega | (unfold R32 at *; omega) | (unfold R64 at *; omega) | (simp only [R32, R64] at *; omega)) (by first | assumption | omega | (unfold R32 at *; omega) | (unfold R64 at *; omega) | (simp only [R32, R64] at *; omega)) (by first | assumption | omega | (unfold R32 at *; omega) | (unfold R64 at *; omega) | (simp only [R32, R64] at *; omega)) (by first | assumption | omega | (unfold R32 at *; omega) | (unfold R64 at *; omega) | (simp only [R32, R64] at *; omega)) (by first | assumption | omega | (unfold R32 at *; omega) | (unfold R64 at *; omega) | (simp only [R32, R64] at *; omega)) (by first | assumption | omega | (unfold R32 at *; omega) | (unfold R64 at *; omega) | (simp only [R32, R64] at *; omega)) (by first | assumption | omega | (unfold R32 at *; omega) | (unfold R64 at *; omega) | (simp only [R32, R64] at *; omega)) (by first | assumption | omega | (unfold R32 at *; omega) | (unfold R64 at *; omega) | (simp only [R32, R64] at *; omega)) (by first | assumption | omega | (unfold R32 at *; omega) | (unfold R64 at *; omega) | (simp only [R32, R64] at *; omega)) (fun o9_22  hv_22_0 => ?_)
      show WV _ _ _ 128 _ _ _ _ _
      refine r_ex 2 (pc' := 132) (lo' := [some (.inr (.inr (some 203))), some (.inl y), some (.inl k), some (.inl n), some (.inl c), some (.inl h), some (.inl g), some (.inl i), some (.inl (mo_chance_77 301 (mo_draws v (y + i) n) y k n c h g i 0 0)), o9_22]) (st' := [.inl (mo_chance_77 301 (mo_draws v (y + i) n) y k n c h g i 0 0), .inl g]) rfl ?_
      refine n_if_eq (pc0 := 132) (len := 3) (t := 139) rfl (by first | assumption | omega | (unfold R32 at *; omega) | (unfold R64 at *; omega) | (simp only [R32, R64] at *; omega)) (fun h_132 => ?_) (fun h_132 => ?_)
      · show WV _ _ _ 139 _ _ _ _ _
        rw [if_pos h_132] at hK
        refine r_ex 5 (pc' := 54) (lo' := [some (.inr (.inr (some 203))), some (.inl y), some (.inl k), some (.inl n), some (.inl c), some (.inl h), some (.inl (g + 0)), some (.inl (i + 1)), some (.inl (mo_chance_77 301 (mo_draws v (y + i) n) y k n c h g i 0 0)), o9_22]) (st' := []) rfl ?_
        refine ih (mo_draws v (y + i) n) y k n c h (g + 0) (i + 1) _ _ hX_14 (by first | assumption | omega | (unfold R32 at *; omega) | (unfold R64 at *; omega) | (simp only [R32, R64] at *; omega)) (by first | assumption | omega | (unfold R32 at *; omega) | (unfold R64 at *; omega) | (simp only [R32, R64] at *; omega)) (by first | assumption | omega | (unfold R32 at *; omega) | (unfold R64 at *; omega) | (simp only [R32, R64] at *; omega)) (by first | assumption | omega | (unfold R32 at *; omega) | (unfold R64 at *; omega) | (simp only [R32, R64] at *; omega)) (by first | assumption | omega | (unfold R32 at *; omega) | (unfold R64 at *; omega) | (simp only [R32, R64] at *; omega)) (by first | assumption | omega | (unfold R32 at *; omega) | (unfold R64 at *; omega) | (simp only [R32, R64] at *; omega)) (by first | assumption | omega | (unfold R32 at *; omega) | (unfold R64 at *; omega) | (simp only [R32, R64] at *; omega)) (show CF (mo_draws v (y + i) n) from (show CF (mo_draws v (y + i) n) from CF.of hi_7 (fun k h1 h2 => by rw [o_mo_draws (by omega)]))) (by first | assumption | omega | (unfold R32 at *; omega) | (unfold R64 at *; omega) | (simp only [R32, R64] at *; omega)) hK
      · show WV _ _ _ 135 _ _ _ _ _
        rw [if_neg h_132] at hK
        refine r_ex 6 (pc' := 54) (lo' := [some (.inr (.inr (some 203))), some (.inl y), some (.inl k), some (.inl n), some (.inl c), some (.inl h), some (.inl (g + 1)), some (.inl (i + 1)), some (.inl (mo_chance_77 301 (mo_draws v (y + i) n) y k n c h g i 0 0)), o9_22]) (st' := []) rfl ?_
        refine ih (mo_draws v (y + i) n) y k n c h (g + 1) (i + 1) _ _ hX_14 (by first | assumption | omega | (unfold R32 at *; omega) | (unfold R64 at *; omega) | (simp only [R32, R64] at *; omega)) (by first | assumption | omega | (unfold R32 at *; omega) | (unfold R64 at *; omega) | (simp only [R32, R64] at *; omega)) (by first | assumption | omega | (unfold R32 at *; omega) | (unfold R64 at *; omega) | (simp only [R32, R64] at *; omega)) (by first | assumption | omega | (unfold R32 at *; omega) | (unfold R64 at *; omega) | (simp only [R32, R64] at *; omega)) (by first | assumption | omega | (unfold R32 at *; omega) | (unfold R64 at *; omega) | (simp only [R32, R64] at *; omega)) (by first | assumption | omega | (unfold R32 at *; omega) | (unfold R64 at *; omega) | (simp only [R32, R64] at *; omega)) (by first | assumption | omega | (unfold R32 at *; omega) | (unfold R64 at *; omega) | (simp only [R32, R64] at *; omega)) (show CF (mo_draws v (y + i) n) from (show CF (mo_draws v (y + i) n) from CF.of hi_7 (fun k h1 h2 => by rw [o_mo_draws (by omega)]))) (by first | assumption | omega | (unfold R32 at *; omega) | (unfold R64 at *; omega) | (simp only [R32, R64] at *; omega)) hK

theorem of_mo_chance_54 {rk : Nat} (hk : (rk < 203 ∨ 203 < rk) ∧ (rk < 219 ∨ 231 < rk)) : ∀ (f : Nat) {v : VS} {y : Int} {k : Int} {n : Int} {c : Int} {h : Int} {g : Int} {i : Int}, (mo_chance_54 f v y k n c h g i).2 rk = v rk := by
  intro f
  induction f with
  | zero => intro v y k n c h g i; rfl
  | succ f ih =>
    intro v y k n c h g i
    rw [mo_chance_54]
    by_cases hc_ : i < k
    · rw [if_pos hc_] <;> clear hc_
      by_cases hc_ : (mo_chance_77 301 (mo_draws v (y + i) n) y k n c h g i 0 0) = 0
      · rw [if_pos hc_] <;> clear hc_
        all_goals (rw [ih, o_mo_draws (by omega)])
      · rw [if_neg hc_] <;> clear hc_
        all_goals (rw [ih, o_mo_draws (by omega)])
    · rw [if_neg hc_] <;> clear hc_
      all_goals (show v rk = _)
      all_goals rfl
theorem o_mo_chance_54 {rk : Nat} {f : Nat} {v : VS} {y : Int} {k : Int} {n : Int} {c : Int} {h : Int} {g : Int} {i : Int} (hk : (rk < 203 ∨ 203 < rk) ∧ (rk < 219 ∨ 231 < rk)) : (mo_chance_54 f v y k n c h g i).2 rk = v rk := of_mo_chance_54 hk f

theorem w_mo_chance {X : PX} {d b : Nat} {v : VS} {y : Int} {k : Int} {n : Int} {c : Int} {h : Int} (hX : XI v) (hp_a : R32 y) (hp_b : R32 k) (hp_c : R32 n) (hp_d : R32 c) (hp_e : R32 h) (hp_f : CF v) {Q : Option PV → Nat → VS → Prop} (hQ : XI (mo_chance v y k n c h).2 → Q (some (.inl (mo_chance v y k n c h).1)) b (mo_chance v y k n c h).2) : WV X (d + 1 + 1 + 1 + 1 + 1 + 1) 324 0 [some (.inr (.inr (some 203))), some (.inl y), some (.inl k), some (.inl n), some (.inl c), some (.inl h), none, none, none, none] [] b v Q := by
  rw [mo_chance] at hQ
  refine r_ex 2 (pc' := 2) (lo' := [some (.inr (.inr (some 203))), some (.inl y), some (.inl k), some (.inl n), some (.inl c), some (.inl h), none, none, none, none]) (st' := [.inl 0, .inr (.inr (some 203))]) rfl ?_
  refine r_puti2 (j := 0) (pc' := 5) (pc0 := 2) (len := 3) rfl (s_203 _) rfl rfl rfl (Or.inl rfl) rfl rfl ?_
  have hX_1 : XI (v2 v 203 0 0) := XI.put hX trivial
  refine r_ex 3 (pc' := 8) (lo' := [some (.inr (.inr (some 203))), some (.inl y), some (.inl k), some (.inl n), some (.inl c), some (.inl h), none, none, none, none]) (st' := [.inl n, .inl y, .inr (.inr (some 203))]) rfl ?_
  have hp_2 : R32 y := (by first | assumption | omega | (unfold R32 at *; omega) | (unfold R64 at *; omega) | (simp only [R32, R64] at *; omega))
  have hp_3 : R32 n := (by first | assumption | omega | (unfold R32 at *; omega) | (unfold R64 at *; omega) | (simp only [R32, R64] at *; omega))
  have hb_4 : 0 ≤ (v 209 0) ∧ (v 209 0) ≤ 2001 := hX_1 209 0
  refine r_callb (P := 0 < (v 209 0) ∧ (0 ≤ y ∧ y ≤ 2000000000) ∧ (0 ≤ n ∧ n ≤ 20)) (m := 322) (args := [.inr (.inr (some 203)), .inl y, .inl n]) (n' := 324) (pc' := 11) (lo' := [some (.inr (.inr (some 203))), some (.inl y), some (.inl k), some (.inl n), some (.inl c), some (.inl h), none, none, none, none]) (st' := []) (I := .invokevirtual 322) (pc0 := 8) (len := 3) rfl rfl rfl (e_mo_isDrawn hX_1 hp_2 hp_3) (fun h_8 => ?_) (fun h_8 => ?_)
  · show WV _ _ _ 11 _ _ _ _ _
    rw [if_pos h_8] at hQ
    refine r_ex 2 (pc' := 15) (lo' := [some (.inr (.inr (some 203))), some (.inl y), some (.inl k), some (.inl n), some (.inl c), some (.inl h), none, none, none, none]) (st' := [.inl k]) rfl ?_
    refine n_i2l (pc' := 16) (pc0 := 15) (len := 1) rfl (by first | assumption | omega | (unfold R32 at *; omega) | (unfold R64 at *; omega) | (simp only [R32, R64] at *; omega)) rfl ?_
    refine r_ex 2 (pc' := 20) (lo' := [some (.inr (.inr (some 203))), some (.inl y), some (.inl k), some (.inl n), some (.inl c), some (.inl h), none, none, none, none]) (st' := [.inr (.inl 20), .inr (.inl 1), .inr (.inl k)]) rfl ?_
    have hp_5 : R64 k := (by first | assumption | omega | (unfold R32 at *; omega) | (unfold R64 at *; omega) | (simp only [R32, R64] at *; omega))
    have hp_6 : R64 (1 : Int) := (by first | assumption | omega | (unfold R32 at *; omega) | (unfold R64 at *; omega) | (simp only [R32, R64] at *; omega))
    have hp_7 : R64 (20 : Int) := (by first | assumption | omega | (unfold R32 at *; omega) | (unfold R64 at *; omega) | (simp only [R32, R64] at *; omega))
    refine r_callb (P := (1 : Int) ≤ k ∧ k ≤ (20 : Int)) (m := 202) (args := [.inr (.inl k), .inr (.inl 1), .inr (.inl 20)]) (n' := 324) (pc' := 23) (lo' := [some (.inr (.inr (some 203))), some (.inl y), some (.inl k), some (.inl n), some (.inl c), some (.inl h), none, none, none, none]) (st' := []) (I := .invokestatic 202) (pc0 := 20) (len := 3) rfl rfl rfl (e_mo_in hX_1 hp_5 hp_6 hp_7) (fun h_20 => ?_) (fun h_20 => ?_)
    · show WV _ _ _ 23 _ _ _ _ _
      rw [if_pos h_20] at hQ
      refine r_ex 3 (pc' := 29) (lo' := [some (.inr (.inr (some 203))), some (.inl y), some (.inl k), some (.inl n), some (.inl c), some (.inl h), none, none, none, none]) (st' := [.inl c, .inr (.inr (some 203))]) rfl ?_
      refine n_i2l (pc' := 30) (pc0 := 29) (len := 1) rfl (by first | assumption | omega | (unfold R32 at *; omega) | (unfold R64 at *; omega) | (simp only [R32, R64] at *; omega)) rfl ?_
      have hp_8 : R64 c := (by first | assumption | omega | (unfold R32 at *; omega) | (unfold R64 at *; omega) | (simp only [R32, R64] at *; omega))
      have hb_9 : 0 ≤ (v 210 0) ∧ (v 210 0) ≤ 9 := hX_1 210 0
      refine r_callb (P := 0 ≤ c ∧ c < (v 210 0)) (m := 236) (args := [.inr (.inr (some 203)), .inr (.inl c)]) (n' := 324) (pc' := 33) (lo' := [some (.inr (.inr (some 203))), some (.inl y), some (.inl k), some (.inl n), some (.inl c), some (.inl h), none, none, none, none]) (st' := []) (I := .invokevirtual 236) (pc0 := 30) (len := 3) rfl rfl rfl (e_mo_isChurch hX_1 hp_8) (fun h_30 => ?_) (fun h_30 => ?_)
      · show WV _ _ _ 33 _ _ _ _ _
        rw [if_pos h_30] at hQ
        refine r_ex 2 (pc' := 38) (lo' := [some (.inr (.inr (some 203))), some (.inl y), some (.inl k), some (.inl n), some (.inl c), some (.inl h), none, none, none, none]) (st' := [.inl h]) rfl ?_
        refine n_i2l (pc' := 39) (pc0 := 38) (len := 1) rfl (by first | assumption | omega | (unfold R32 at *; omega) | (unfold R64 at *; omega) | (simp only [R32, R64] at *; omega)) rfl ?_
        have hp_10 : R64 h := (by first | assumption | omega | (unfold R32 at *; omega) | (unfold R64 at *; omega) | (simp only [R32, R64] at *; omega))
        refine r_callb (P := 1 ≤ h ∧ h ≤ 99) (m := 264) (args := [.inr (.inl h)]) (n' := 324) (pc' := 42) (lo' := [some (.inr (.inr (some 203))), some (.inl y), some (.inl k), some (.inl n), some (.inl c), some (.inl h), none, none, none, none]) (st' := []) (I := .invokestatic 264) (pc0 := 39) (len := 3) rfl rfl rfl (e_mo_isHour hX_1 hp_10) (fun h_39 => ?_) (fun h_39 => ?_)
        · show WV _ _ _ 42 _ _ _ _ _
          rw [if_pos h_39] at hQ
          refine r_ex 5 (pc' := 54) (lo' := [some (.inr (.inr (some 203))), some (.inl y), some (.inl k), some (.inl n), some (.inl c), some (.inl h), some (.inl 0), some (.inl 0), none, none]) (st' := []) rfl ?_
          refine l_mo_chance_54 21 (v2 v 203 0 0) y k n c h 0 0 _ _ hX_1 (by first | assumption | omega | (unfold R32 at *; omega) | (unfold R64 at *; omega) | (simp only [R32, R64] at *; omega)) (by first | assumption | omega | (unfold R32 at *; omega) | (unfold R64 at *; omega) | (simp only [R32, R64] at *; omega)) (by first | assumption | omega | (unfold R32 at *; omega) | (unfold R64 at *; omega) | (simp only [R32, R64] at *; omega)) (by first | assumption | omega | (unfold R32 at *; omega) | (unfold R64 at *; omega) | (simp only [R32, R64] at *; omega)) (by first | assumption | omega | (unfold R32 at *; omega) | (unfold R64 at *; omega) | (simp only [R32, R64] at *; omega)) (by first | assumption | omega | (unfold R32 at *; omega) | (unfold R64 at *; omega) | (simp only [R32, R64] at *; omega)) (by first | assumption | omega | (unfold R32 at *; omega) | (unfold R64 at *; omega) | (simp only [R32, R64] at *; omega)) (show CF (v2 v 203 0 0) from (show CF (v2 v 203 0 0) from CF.of hp_f (fun k h1 h2 => by rw [v2_row (by omega)]))) (by first | assumption | omega | (unfold R32 at *; omega) | (unfold R64 at *; omega) | (simp only [R32, R64] at *; omega)) (fun o7_23 o8_23 o9_23 hX_23 hv_23_0 => ?_)
          show WV _ _ _ 149 _ _ _ _ _
          refine r_ex 1 (pc' := 151) (lo' := [some (.inr (.inr (some 203))), some (.inl y), some (.inl k), some (.inl n), some (.inl c), some (.inl h), some (.inl ((mo_chance_54 21 (v2 v 203 0 0) y k n c h 0 0).1)), o7_23, o8_23, o9_23]) (st' := [.inl ((mo_chance_54 21 (v2 v 203 0 0) y k n c h 0 0).1)]) rfl ?_
          refine r_ret (rr := some (.inl ((mo_chance_54 21 (v2 v 203 0 0) y k n c h 0 0).1))) (I := .ireturn) (pc0 := 151) (len := 1) rfl rfl ?_
          exact hQ hX_23 
        · show WV _ _ _ 42 _ _ _ _ _
          rw [if_neg h_39] at hQ
          refine r_ex 2 (pc' := 47) (lo' := [some (.inr (.inr (some 203))), some (.inl y), some (.inl k), some (.inl n), some (.inl c), some (.inl h), none, none, none, none]) (st' := [.inl (-2)]) rfl ?_
          refine r_ret (rr := some (.inl (-2))) (I := .ireturn) (pc0 := 47) (len := 1) rfl rfl ?_
          exact hQ hX_1 
      · show WV _ _ _ 33 _ _ _ _ _
        rw [if_neg h_30] at hQ
        refine r_ex 2 (pc' := 47) (lo' := [some (.inr (.inr (some 203))), some (.inl y), some (.inl k), some (.inl n), some (.inl c), some (.inl h), none, none, none, none]) (st' := [.inl (-2)]) rfl ?_
        refine r_ret (rr := some (.inl (-2))) (I := .ireturn) (pc0 := 47) (len := 1) rfl rfl ?_
        exact hQ hX_1 
    · show WV _ _ _ 23 _ _ _ _ _
      rw [if_neg h_20] at hQ
      refine r_ex 2 (pc' := 47) (lo' := [some (.inr (.inr (some 203))), some (.inl y), some (.inl k), some (.inl n), some (.inl c), some (.inl h), none, none, none, none]) (st' := [.inl (-2)]) rfl ?_
      refine r_ret (rr := some (.inl (-2))) (I := .ireturn) (pc0 := 47) (len := 1) rfl rfl ?_
      exact hQ hX_1 
  · show WV _ _ _ 11 _ _ _ _ _
    rw [if_neg h_8] at hQ
    refine r_ex 2 (pc' := 47) (lo' := [some (.inr (.inr (some 203))), some (.inl y), some (.inl k), some (.inl n), some (.inl c), some (.inl h), none, none, none, none]) (st' := [.inl (-2)]) rfl ?_
    refine r_ret (rr := some (.inl (-2))) (I := .ireturn) (pc0 := 47) (len := 1) rfl rfl ?_
    exact hQ hX_1 

theorem e_mo_chance {X : PX} {d b : Nat} {v : VS} {y : Int} {k : Int} {n : Int} {c : Int} {h : Int} (hX : XI v) (hp_a : R32 y) (hp_b : R32 k) (hp_c : R32 n) (hp_d : R32 c) (hp_e : R32 h) (hp_f : CF v) : EvV X (d + 1 + 1 + 1 + 1 + 1 + 1) 324 [.inr (.inr (some 203)), .inl y, .inl k, .inl n, .inl c, .inl h] b v (some (.inl (mo_chance v y k n c h).1)) b ((mo_chance v y k n c h).2) := EvV.of (w_mo_chance hX hp_a hp_b hp_c hp_d hp_e hp_f (fun _ => ⟨rfl, rfl, rfl⟩))

theorem i_mo_chance {v : VS} {y : Int} {k : Int} {n : Int} {c : Int} {h : Int} (hX : XI v) (hp_a : R32 y) (hp_b : R32 k) (hp_c : R32 n) (hp_d : R32 c) (hp_e : R32 h) (hp_f : CF v) : XI ((mo_chance v y k n c h).2) := by
  have q : WV (0, fun _ => 0, none) (0 + 1 + 1 + 1 + 1 + 1 + 1) 324 0 [some (.inr (.inr (some 203))), some (.inl y), some (.inl k), some (.inl n), some (.inl c), some (.inl h), none, none, none, none] [] 1 v (fun _ _ _ => XI ((mo_chance v y k n c h).2)) := w_mo_chance (X := (0, fun _ => 0, none)) (d := 0) (b := 1) hX hp_a hp_b hp_c hp_d hp_e hp_f (fun q => q)
  obtain ⟨_, _, _, _, _, _, _, q⟩ := q
  exact q

theorem o_mo_chance {rk : Nat} {v : VS} {y : Int} {k : Int} {n : Int} {c : Int} {h : Int} (hk : (rk < 203 ∨ 203 < rk) ∧ (rk < 219 ∨ 231 < rk)) : (mo_chance v y k n c h).2 rk = v rk := by
  unfold mo_chance
  by_cases hc_ : 0 < (v 209 0) ∧ (0 ≤ y ∧ y ≤ 2000000000) ∧ (0 ≤ n ∧ n ≤ 20)
  · rw [if_pos hc_] <;> clear hc_
    by_cases hc_ : (1 : Int) ≤ k ∧ k ≤ (20 : Int)
    · rw [if_pos hc_] <;> clear hc_
      by_cases hc_ : 0 ≤ c ∧ c < (v 210 0)
      · rw [if_pos hc_] <;> clear hc_
        by_cases hc_ : 1 ≤ h ∧ h ≤ 99
        · rw [if_pos hc_] <;> clear hc_
          all_goals (show ((mo_chance_54 21 (v2 v 203 0 0) y k n c h 0 0).2) rk = _)
          all_goals (rw [o_mo_chance_54 (by omega), v2_row (by omega)])
        · rw [if_neg hc_] <;> clear hc_
          all_goals (show (v2 v 203 0 0) rk = _)
          all_goals (rw [v2_row (by omega)])
      · rw [if_neg hc_] <;> clear hc_
        all_goals (show (v2 v 203 0 0) rk = _)
        all_goals (rw [v2_row (by omega)])
    · rw [if_neg hc_] <;> clear hc_
      all_goals (show (v2 v 203 0 0) rk = _)
      all_goals (rw [v2_row (by omega)])
  · rw [if_neg hc_] <;> clear hc_
    all_goals (show (v2 v 203 0 0) rk = _)
    all_goals (rw [v2_row (by omega)])

def TV (v : VS) (s i : Int) : Prop := ∀ j : Int, 0 ≤ j → j < i → 0 ≤ v 206 (60 * s + j).toNat ∧ v 206 (60 * s + j).toNat < 300
theorem TV.nil {v : VS} {s : Int} : TV v s 0 := fun j h0 h1 => absurd h1 (by omega)
theorem TV.step {v : VS} {s i m : Int} (h : TV v s i) (hx : 0 ≤ v 206 (60 * s + i).toNat ∧ v 206 (60 * s + i).toNat < m) (hm : m ≤ 300) : TV v s (i + 1) := by
  intro j h0 h1
  by_cases e : j = i
  · subst e; omega
  · exact h j h0 (by omega)
theorem TV.of {v v' : VS} {s i k : Int} (h : TV v s i) (hk : k ≤ i) (e : v' 206 = v 206) : TV v' s k := by
  intro j h0 h1
  rw [e]
  exact h j h0 (by omega)

noncomputable def mo_bets_104 : Nat → VS → Int → Int → Int → Int → Int
  | 0, v, s, g, m, c => 0
  | f + 1, v, s, g, m, c => (if c < (v 210 0) then (if (v 230 ((c).toNat)) = (-1) then (mo_bets_104 f v s g m (c + 1)) else (if ((v 206 ((((60 * s) + c)).toNat)) - (mo_firstAt v c)) < 0 then (if (-((v 206 ((((60 * s) + c)).toNat)) - (mo_firstAt v c))) < m then (mo_bets_104 f v s c (-((v 206 ((((60 * s) + c)).toNat)) - (mo_firstAt v c))) (c + 1)) else (mo_bets_104 f v s g m (c + 1))) else (if ((v 206 ((((60 * s) + c)).toNat)) - (mo_firstAt v c)) < m then (mo_bets_104 f v s c ((v 206 ((((60 * s) + c)).toNat)) - (mo_firstAt v c)) (c + 1)) else (mo_bets_104 f v s g m (c + 1))))) else g)
noncomputable def mo_bets_55 : Nat → VS → Int → Int → Int × VS
  | 0, v, s, c => (0, v)
  | f + 1, v, s, c => (if c < (v 205 ((s).toNat)) then (if 0 ≤ (v 206 ((((60 * s) + c)).toNat)) ∧ (v 206 ((((60 * s) + c)).toNat)) < (v 210 1) then (mo_bets_55 f v s (c + 1)) else ((-2), v)) else ((mo_bets_104 10 (mo_told v) s (-1) 1000000 0), (mo_told v)))
noncomputable def mo_bets (v : VS) (s : Int) : Int × VS :=
  (if 0 ≤ s ∧ s ≤ 3 then (if 0 < (v 209 0) then (if (v 204 ((s).toNat)) = (-1) then ((-6), (v2 v 203 0 0)) else (if (v 205 ((s).toNat)) = (v 210 0) then (mo_bets_55 61 (v2 v 203 0 0) s 0) else ((-7), (v2 v 203 0 0)))) else ((-2), (v2 v 203 0 0))) else ((-2), (v2 v 203 0 0)))
theorem l_mo_bets_104 {X : PX} {d b : Nat} {Q : Option PV → Nat → VS → Prop}  : ∀ (f : Nat) (v : VS) (s : Int) (g : Int) (m : Int) (c : Int) (o5 : Option PV), XI v → (0 ≤ s ∧ s ≤ 3) → (-1 ≤ g ∧ g ≤ 8) → (0 ≤ m ∧ m ≤ 1000000) → (0 ≤ c ∧ c ≤ 9) → (TV v s (v 210 0)) → (9 < c + f) → (∀ qx3 : Option PV, ∀ qx4 : Option PV, ∀ qx5 : Option PV, (-1 ≤ (mo_bets_104 f v s g m c) ∧ (mo_bets_104 f v s g m c) ≤ 8) → WV X (d + 1 + 1 + 1 + 1 + 1 + 1) 325 187 [some (.inr (.inr (some 203))), some (.inl s), some (.inl (mo_bets_104 f v s g m c)), qx3, qx4, qx5] [] b v Q) → WV X (d + 1 + 1 + 1 + 1 + 1 + 1) 325 104 [some (.inr (.inr (some 203))), some (.inl s), some (.inl g), some (.inl m), some (.inl c), o5] [] b v Q := by
  intro f
  induction f with
  | zero =>
    intro v s g m c o5 hX hi_0 hi_1 hi_2 hi_3 hi_4 hf hK
    exfalso
    omega
  | succ f ih =>
    intro v s g m c o5 hX hi_0 hi_1 hi_2 hi_3 hi_4 hf hK
    rw [mo_bets_104] at hK
    refine r_ex 4 (pc' := 111) (lo' := [some (.inr (.inr (some 203))), some (.inl s), some (.inl g), some (.inl m), some (.inl c), o5]) (st' := [.inl 0, .inr (.inr (some 210)), .inl c]) rfl ?_
    refine r_iald2 (j := 0) (x := (v 210 0)) (pc' := 112) (pc0 := 111) (len := 1) rfl (s_210 _) (by first | assumption | omega | (unfold R32 at *; omega) | (unfold R64 at *; omega) | (simp only [R32, R64] at *; omega)) (by decide) rfl rfl ?_
    have hb_10 : 0 ≤ (v 210 0) ∧ (v 210 0) ≤ 9 := hX 210 0
    refine n_ic_ge (pc0 := 112) (len := 3) (t := 187) rfl (by first | assumption | omega | (unfold R32 at *; omega) | (unfold R64 at *; omega) | (simp only [R32, R64] at *; omega)) (by first | assumption | omega | (unfold R32 at *; omega) | (unfold R64 at *; omega) | (simp only [R32, R64] at *; omega)) (fun h_112 => ?_) (fun h_112 => ?_)
    · show WV _ _ _ 187 _ _ _ _ _
      rw [if_neg h_112] at hK
      exact hK _ _ _  (by first | assumption | omega | (unfold R32 at *; omega) | (unfold R64 at *; omega) | (simp only [R32, R64] at *; omega))
    · show WV _ _ _ 115 _ _ _ _ _
      rw [if_pos h_112] at hK
      refine r_ex 3 (pc' := 121) (lo' := [some (.inr (.inr (some 203))), some (.inl s), some (.inl g), some (.inl m), some (.inl c), o5]) (st' := [.inl c, .inr (.inr (some 230))]) rfl ?_
      refine r_iald2 (j := 0) (x := (v 230 ((c).toNat))) (pc' := 122) (pc0 := 121) (len := 1) rfl (s_230 _) (by first | assumption | omega | (unfold R32 at *; omega) | (unfold R64 at *; omega) | (simp only [R32, R64] at *; omega)) (by decide) rfl rfl ?_
      have hb_11 : -1 ≤ (v 230 ((c).toNat)) ∧ (v 230 ((c).toNat)) ≤ 299 := hX 230 ((c).toNat)
      refine r_ex 1 (pc' := 123) (lo' := [some (.inr (.inr (some 203))), some (.inl s), some (.inl g), some (.inl m), some (.inl c), o5]) (st' := [.inl (-1), .inl (v 230 ((c).toNat))]) rfl ?_
      refine n_ic_ne (pc0 := 123) (len := 3) (t := 129) rfl (by first | assumption | omega | (unfold R32 at *; omega) | (unfold R64 at *; omega) | (simp only [R32, R64] at *; omega)) (by first | assumption | omega | (unfold R32 at *; omega) | (unfold R64 at *; omega) | (simp only [R32, R64] at *; omega)) (fun h_123 => ?_) (fun h_123 => ?_)
      · show WV _ _ _ 129 _ _ _ _ _
        rw [if_neg h_123] at hK
        refine r_ex 7 (pc' := 140) (lo' := [some (.inr (.inr (some 203))), some (.inl s), some (.inl g), some (.inl m), some (.inl c), o5]) (st' := [.inl ((60 * s) + c), .inr (.inr (some 206))]) rfl ?_
        refine r_lald2 (x := (v 206 ((((60 * s) + c)).toNat))) (pc' := 141) (pc0 := 140) (len := 1) rfl (s_206 _) (by first | assumption | omega | (unfold R32 at *; omega) | (unfold R64 at *; omega) | (simp only [R32, R64] at *; omega)) (by decide) rfl rfl ?_
        have hb_12 : -9223372036854775808 ≤ (v 206 ((((60 * s) + c)).toNat)) ∧ (v 206 ((((60 * s) + c)).toNat)) ≤ 9223372036854775807 := hX 206 ((((60 * s) + c)).toNat)
        have htv := hi_4 c (by omega) (by omega)
        refine r_ex 3 (pc' := 145) (lo' := [some (.inr (.inr (some 203))), some (.inl s), some (.inl g), some (.inl m), some (.inl c), o5]) (st' := [.inl c, .inr (.inr (some 203)), .inl (v 206 ((((60 * s) + c)).toNat))]) rfl ?_
        have hp_13 : 0 ≤ c ∧ c ≤ 8 := (by first | assumption | omega | (unfold R32 at *; omega) | (unfold R64 at *; omega) | (simp only [R32, R64] at *; omega))
        refine r_call (m := 260) (args := [.inr (.inr (some 203)), .inl c]) (n' := 325) (pc' := 148) (lo' := [some (.inr (.inr (some 203))), some (.inl s), some (.inl g), some (.inl m), some (.inl c), o5]) (st' := [.inl (v 206 ((((60 * s) + c)).toNat))]) (I := .invokevirtual 260) (pc0 := 145) (len := 3) rfl rfl rfl (e_mo_firstAt hX hp_13) ?_
        show WV _ _ _ 148 _ [.inl (mo_firstAt v c), .inl (v 206 ((((60 * s) + c)).toNat))] _ _ _
        have hb_14 := n_mo_firstAt (v := v) (c := c) hX hp_13
        refine r_ex 3 (pc' := 153) (lo' := [some (.inr (.inr (some 203))), some (.inl s), some (.inl g), some (.inl m), some (.inl c), some (.inl ((v 206 ((((60 * s) + c)).toNat)) - (mo_firstAt v c)))]) (st' := [.inl ((v 206 ((((60 * s) + c)).toNat)) - (mo_firstAt v c))]) rfl ?_
        refine n_if_ge (pc0 := 153) (len := 3) (t := 162) rfl (by first | assumption | omega | (unfold R32 at *; omega) | (unfold R64 at *; omega) | (simp only [R32, R64] at *; omega)) (fun h_153 => ?_) (fun h_153 => ?_)
        · show WV _ _ _ 162 _ _ _ _ _
          rw [if_neg h_153] at hK
          refine r_ex 4 (pc' := 169) (lo' := [some (.inr (.inr (some 203))), some (.inl s), some (.inl g), some (.inl m), some (.inl c), some (.inl ((v 206 ((((60 * s) + c)).toNat)) - (mo_firstAt v c)))]) (st' := [.inl m, .inl ((v 206 ((((60 * s) + c)).toNat)) - (mo_firstAt v c))]) rfl ?_
          refine n_ic_lt (pc0 := 169) (len := 3) (t := 175) rfl (by first | assumption | omega | (unfold R32 at *; omega) | (unfold R64 at *; omega) | (simp only [R32, R64] at *; omega)) (by first | assumption | omega | (unfold R32 at *; omega) | (unfold R64 at *; omega) | (simp only [R32, R64] at *; omega)) (fun h_169 => ?_) (fun h_169 => ?_)
          · show WV _ _ _ 175 _ _ _ _ _
            rw [if_pos h_169] at hK
            refine r_ex 6 (pc' := 104) (lo' := [some (.inr (.inr (some 203))), some (.inl s), some (.inl c), some (.inl ((v 206 ((((60 * s) + c)).toNat)) - (mo_firstAt v c))), some (.inl (c + 1)), some (.inl ((v 206 ((((60 * s) + c)).toNat)) - (mo_firstAt v c)))]) (st' := []) rfl ?_
            refine ih v s c ((v 206 ((((60 * s) + c)).toNat)) - (mo_firstAt v c)) (c + 1) _ hX (by first | assumption | omega | (unfold R32 at *; omega) | (unfold R64 at *; omega) | (simp only [R32, R64] at *; omega)) (by first | assumption | omega | (unfold R32 at *; omega) | (unfold R64 at *; omega) | (simp only [R32, R64] at *; omega)) (by first | assumption | omega | (unfold R32 at *; omega) | (unfold R64 at *; omega) | (simp only [R32, R64] at *; omega)) (by first | assumption | omega | (unfold R32 at *; omega) | (unfold R64 at *; omega) | (simp only [R32, R64] at *; omega)) (by first | assumption | exact TV.of hi_2 (by rw [o_mo_told (by omega)]; omega) (by rw [o_mo_told (by omega)])) (by first | assumption | omega | (unfold R32 at *; omega) | (unfold R64 at *; omega) | (simp only [R32, R64] at *; omega)) hK
          · show WV _ _ _ 172 _ _ _ _ _
            rw [if_neg h_169] at hK
            refine r_ex 3 (pc' := 104) (lo' := [some (.inr (.inr (some 203))), some (.inl s), some (.inl g), some (.inl m), some (.inl (c + 1)), some (.inl ((v 206 ((((60 * s) + c)).toNat)) - (mo_firstAt v c)))]) (st' := []) rfl ?_
            refine ih v s g m (c + 1) _ hX (by first | assumption | omega | (unfold R32 at *; omega) | (unfold R64 at *; omega) | (simp only [R32, R64] at *; omega)) (by first | assumption | omega | (unfold R32 at *; omega) | (unfold R64 at *; omega) | (simp only [R32, R64] at *; omega)) (by first | assumption | omega | (unfold R32 at *; omega) | (unfold R64 at *; omega) | (simp only [R32, R64] at *; omega)) (by first | assumption | omega | (unfold R32 at *; omega) | (unfold R64 at *; omega) | (simp only [R32, R64] at *; omega)) (by first | assumption | exact TV.of hi_2 (by rw [o_mo_told (by omega)]; omega) (by rw [o_mo_told (by omega)])) (by first | assumption | omega | (unfold R32 at *; omega) | (unfold R64 at *; omega) | (simp only [R32, R64] at *; omega)) hK
        · show WV _ _ _ 156 _ _ _ _ _
          rw [if_pos h_153] at hK
          refine r_ex 6 (pc' := 169) (lo' := [some (.inr (.inr (some 203))), some (.inl s), some (.inl g), some (.inl m), some (.inl c), some (.inl (-((v 206 ((((60 * s) + c)).toNat)) - (mo_firstAt v c))))]) (st' := [.inl m, .inl (-((v 206 ((((60 * s) + c)).toNat)) - (mo_firstAt v c)))]) rfl ?_
          refine n_ic_lt (pc0 := 169) (len := 3) (t := 175) rfl (by first | assumption | omega | (unfold R32 at *; omega) | (unfold R64 at *; omega) | (simp only [R32, R64] at *; omega)) (by first | assumption | omega | (unfold R32 at *; omega) | (unfold R64 at *; omega) | (simp only [R32, R64] at *; omega)) (fun h_169 => ?_) (fun h_169 => ?_)
          · show WV _ _ _ 175 _ _ _ _ _
            rw [if_pos h_169] at hK
            refine r_ex 6 (pc' := 104) (lo' := [some (.inr (.inr (some 203))), some (.inl s), some (.inl c), some (.inl (-((v 206 ((((60 * s) + c)).toNat)) - (mo_firstAt v c)))), some (.inl (c + 1)), some (.inl (-((v 206 ((((60 * s) + c)).toNat)) - (mo_firstAt v c))))]) (st' := []) rfl ?_
            refine ih v s c (-((v 206 ((((60 * s) + c)).toNat)) - (mo_firstAt v c))) (c + 1) _ hX (by first | assumption | omega | (unfold R32 at *; omega) | (unfold R64 at *; omega) | (simp only [R32, R64] at *; omega)) (by first | assumption | omega | (unfold R32 at *; omega) | (unfold R64 at *; omega) | (simp only [R32, R64] at *; omega)) (by first | assumption | omega | (unfold R32 at *; omega) | (unfold R64 at *; omega) | (simp only [R32, R64] at *; omega)) (by first | assumption | omega | (unfold R32 at *; omega) | (unfold R64 at *; omega) | (simp only [R32, R64] at *; omega)) (by first | assumption | exact TV.of hi_2 (by rw [o_mo_told (by omega)]; omega) (by rw [o_mo_told (by omega)])) (by first | assumption | omega | (unfold R32 at *; omega) | (unfold R64 at *; omega) | (simp only [R32, R64] at *; omega)) hK
          · show WV _ _ _ 172 _ _ _ _ _
            rw [if_neg h_169] at hK
            refine r_ex 3 (pc' := 104) (lo' := [some (.inr (.inr (some 203))), some (.inl s), some (.inl g), some (.inl m), some (.inl (c + 1)), some (.inl (-((v 206 ((((60 * s) + c)).toNat)) - (mo_firstAt v c))))]) (st' := []) rfl ?_
            refine ih v s g m (c + 1) _ hX (by first | assumption | omega | (unfold R32 at *; omega) | (unfold R64 at *; omega) | (simp only [R32, R64] at *; omega)) (by first | assumption | omega | (unfold R32 at *; omega) | (unfold R64 at *; omega) | (simp only [R32, R64] at *; omega)) (by first | assumption | omega | (unfold R32 at *; omega) | (unfold R64 at *; omega) | (simp only [R32, R64] at *; omega)) (by first | assumption | omega | (unfold R32 at *; omega) | (unfold R64 at *; omega) | (simp only [R32, R64] at *; omega)) (by first | assumption | exact TV.of hi_2 (by rw [o_mo_told (by omega)]; omega) (by rw [o_mo_told (by omega)])) (by first | assumption | omega | (unfold R32 at *; omega) | (unfold R64 at *; omega) | (simp only [R32, R64] at *; omega)) hK
      · show WV _ _ _ 126 _ _ _ _ _
        rw [if_pos h_123] at hK
        refine r_ex 3 (pc' := 104) (lo' := [some (.inr (.inr (some 203))), some (.inl s), some (.inl g), some (.inl m), some (.inl (c + 1)), o5]) (st' := []) rfl ?_
        refine ih v s g m (c + 1) _ hX (by first | assumption | omega | (unfold R32 at *; omega) | (unfold R64 at *; omega) | (simp only [R32, R64] at *; omega)) (by first | assumption | omega | (unfold R32 at *; omega) | (unfold R64 at *; omega) | (simp only [R32, R64] at *; omega)) (by first | assumption | omega | (unfold R32 at *; omega) | (unfold R64 at *; omega) | (simp only [R32, R64] at *; omega)) (by first | assumption | omega | (unfold R32 at *; omega) | (unfold R64 at *; omega) | (simp only [R32, R64] at *; omega)) (by first | assumption | exact TV.of hi_2 (by rw [o_mo_told (by omega)]; omega) (by rw [o_mo_told (by omega)])) (by first | assumption | omega | (unfold R32 at *; omega) | (unfold R64 at *; omega) | (simp only [R32, R64] at *; omega)) hK

theorem l_mo_bets_55 {X : PX} {d b : Nat} {Q : Option PV → Nat → VS → Prop}  : ∀ (f : Nat) (v : VS) (s : Int) (c : Int) (o3 : Option PV) (o4 : Option PV) (o5 : Option PV), XI v → (0 ≤ s ∧ s ≤ 3) → (0 ≤ c ∧ c ≤ 60) → (TV v s c) → (v 205 s.toNat = v 210 0) → (CF v) → (60 < c + f) → (XI (mo_bets_55 f v s c).2 → Q (some (.inl (mo_bets_55 f v s c).1)) b (mo_bets_55 f v s c).2) → WV X (d + 1 + 1 + 1 + 1 + 1 + 1) 325 55 [some (.inr (.inr (some 203))), some (.inl s), some (.inl c), o3, o4, o5] [] b v Q := by
  intro f
  induction f with
  | zero =>
    intro v s c o3 o4 o5 hX hi_0 hi_1 hi_2 hi_3 hi_4 hf hQ
    have hz205 : 0 ≤ v 205 s.toNat ∧ v 205 s.toNat ≤ 60 := hX 205 _
    exfalso
    omega
  | succ f ih =>
    intro v s c o3 o4 o5 hX hi_0 hi_1 hi_2 hi_3 hi_4 hf hQ
    rw [mo_bets_55] at hQ
    have hz205 : 0 ≤ v 205 s.toNat ∧ v 205 s.toNat ≤ 60 := hX 205 _
    have hz210 : 0 ≤ v 210 0 ∧ v 210 0 ≤ 9 := hX 210 0
    have hz211 : 0 ≤ v 210 1 ∧ v 210 1 ≤ 300 := hX 210 1
    refine r_ex 4 (pc' := 61) (lo' := [some (.inr (.inr (some 203))), some (.inl s), some (.inl c), o3, o4, o5]) (st' := [.inl s, .inr (.inr (some 205)), .inl c]) rfl ?_
    refine r_iald2 (j := 0) (x := (v 205 ((s).toNat))) (pc' := 62) (pc0 := 61) (len := 1) rfl (s_205 _) (by first | assumption | omega | (unfold R32 at *; omega) | (unfold R64 at *; omega) | (simp only [R32, R64] at *; omega)) (by decide) rfl rfl ?_
    have hb_7 : 0 ≤ (v 205 ((s).toNat)) ∧ (v 205 ((s).toNat)) ≤ 60 := hX 205 ((s).toNat)
    refine n_ic_ge (pc0 := 62) (len := 3) (t := 92) rfl (by first | assumption | omega | (unfold R32 at *; omega) | (unfold R64 at *; omega) | (simp only [R32, R64] at *; omega)) (by first | assumption | omega | (unfold R32 at *; omega) | (unfold R64 at *; omega) | (simp only [R32, R64] at *; omega)) (fun h_62 => ?_) (fun h_62 => ?_)
    · show WV _ _ _ 92 _ _ _ _ _
      rw [if_neg h_62] at hQ
      refine r_ex 1 (pc' := 93) (lo' := [some (.inr (.inr (some 203))), some (.inl s), some (.inl c), o3, o4, o5]) (st' := [.inr (.inr (some 203))]) rfl ?_
      have hp_8 : CF v := hi_4
      refine r_call (m := 246) (args := [.inr (.inr (some 203))]) (n' := 325) (pc' := 96) (lo' := [some (.inr (.inr (some 203))), some (.inl s), some (.inl c), o3, o4, o5]) (st' := []) (I := .invokevirtual 246) (pc0 := 93) (len := 3) rfl rfl rfl (e_mo_told hX hp_8) ?_
      show WV _ _ _ 96 _ [] _ (mo_told v) _
      have hX_9 : XI (mo_told v) := i_mo_told (v := v) hX hp_8
      refine r_ex 6 (pc' := 104) (lo' := [some (.inr (.inr (some 203))), some (.inl s), some (.inl (-1)), some (.inl 1000000), some (.inl 0), o5]) (st' := []) rfl ?_
      refine l_mo_bets_104 10 (mo_told v) s (-1) 1000000 0 _ hX_9 (by first | assumption | omega | (unfold R32 at *; omega) | (unfold R64 at *; omega) | (simp only [R32, R64] at *; omega)) (by first | assumption | omega | (unfold R32 at *; omega) | (unfold R64 at *; omega) | (simp only [R32, R64] at *; omega)) (by first | assumption | omega | (unfold R32 at *; omega) | (unfold R64 at *; omega) | (simp only [R32, R64] at *; omega)) (by first | assumption | omega | (unfold R32 at *; omega) | (unfold R64 at *; omega) | (simp only [R32, R64] at *; omega)) (by first | assumption | exact TV.of hi_2 (by rw [o_mo_told (by omega)]; omega) (by rw [o_mo_told (by omega)])) (by first | assumption | omega | (unfold R32 at *; omega) | (unfold R64 at *; omega) | (simp only [R32, R64] at *; omega)) (fun o3_15 o4_15 o5_15  hv_15_0 => ?_)
      show WV _ _ _ 187 _ _ _ _ _
      refine r_ex 1 (pc' := 188) (lo' := [some (.inr (.inr (some 203))), some (.inl s), some (.inl (mo_bets_104 10 (mo_told v) s (-1) 1000000 0)), o3_15, o4_15, o5_15]) (st' := [.inl (mo_bets_104 10 (mo_told v) s (-1) 1000000 0)]) rfl ?_
      refine r_ret (rr := some (.inl (mo_bets_104 10 (mo_told v) s (-1) 1000000 0))) (I := .ireturn) (pc0 := 188) (len := 1) rfl rfl ?_
      exact hQ hX_9 
    · show WV _ _ _ 65 _ _ _ _ _
      rw [if_pos h_62] at hQ
      refine r_ex 8 (pc' := 76) (lo' := [some (.inr (.inr (some 203))), some (.inl s), some (.inl c), o3, o4, o5]) (st' := [.inl ((60 * s) + c), .inr (.inr (some 206)), .inr (.inr (some 203))]) rfl ?_
      refine r_lald2 (x := (v 206 ((((60 * s) + c)).toNat))) (pc' := 77) (pc0 := 76) (len := 1) rfl (s_206 _) (by first | assumption | omega | (unfold R32 at *; omega) | (unfold R64 at *; omega) | (simp only [R32, R64] at *; omega)) (by decide) rfl rfl ?_
      have hb_16 : -9223372036854775808 ≤ (v 206 ((((60 * s) + c)).toNat)) ∧ (v 206 ((((60 * s) + c)).toNat)) ≤ 9223372036854775807 := hX 206 ((((60 * s) + c)).toNat)
      have hp_17 : R64 (v 206 ((((60 * s) + c)).toNat)) := (by first | assumption | omega | (unfold R32 at *; omega) | (unfold R64 at *; omega) | (simp only [R32, R64] at *; omega))
      have hb_18 : 0 ≤ (v 210 1) ∧ (v 210 1) ≤ 300 := hX 210 1
      refine r_callb (P := 0 ≤ (v 206 ((((60 * s) + c)).toNat)) ∧ (v 206 ((((60 * s) + c)).toNat)) < (v 210 1)) (m := 240) (args := [.inr (.inr (some 203)), .inr (.inl (v 206 ((((60 * s) + c)).toNat)))]) (n' := 325) (pc' := 80) (lo' := [some (.inr (.inr (some 203))), some (.inl s), some (.inl c), o3, o4, o5]) (st' := []) (I := .invokevirtual 240) (pc0 := 77) (len := 3) rfl rfl rfl (e_mo_isSecond hX hp_17) (fun h_77 => ?_) (fun h_77 => ?_)
      · show WV _ _ _ 80 _ _ _ _ _
        rw [if_pos h_77] at hQ
        refine r_ex 3 (pc' := 55) (lo' := [some (.inr (.inr (some 203))), some (.inl s), some (.inl (c + 1)), o3, o4, o5]) (st' := []) rfl ?_
        refine ih v s (c + 1) _ _ _ hX (by first | assumption | omega | (unfold R32 at *; omega) | (unfold R64 at *; omega) | (simp only [R32, R64] at *; omega)) (by first | assumption | omega | (unfold R32 at *; omega) | (unfold R64 at *; omega) | (simp only [R32, R64] at *; omega)) (by first | assumption | exact TV.nil | exact TV.step hi_2 h_77 (by omega)) (by first | assumption | exact h_47) (hi_4) (by first | assumption | omega | (unfold R32 at *; omega) | (unfold R64 at *; omega) | (simp only [R32, R64] at *; omega)) hQ
      · show WV _ _ _ 80 _ _ _ _ _
        rw [if_neg h_77] at hQ
        refine r_ex 2 (pc' := 85) (lo' := [some (.inr (.inr (some 203))), some (.inl s), some (.inl c), o3, o4, o5]) (st' := [.inl (-2)]) rfl ?_
        refine r_ret (rr := some (.inl (-2))) (I := .ireturn) (pc0 := 85) (len := 1) rfl rfl ?_
        exact hQ hX 

theorem of_mo_bets_55 {rk : Nat} (hk : (rk < 203 ∨ 203 < rk) ∧ (rk < 219 ∨ 231 < rk)) : ∀ (f : Nat) {v : VS} {s : Int} {c : Int}, (mo_bets_55 f v s c).2 rk = v rk := by
  intro f
  induction f with
  | zero => intro v s c; rfl
  | succ f ih =>
    intro v s c
    rw [mo_bets_55]
    by_cases hc_ : c < (v 205 ((s).toNat))
    · rw [if_pos hc_] <;> clear hc_
      by_cases hc_ : 0 ≤ (v 206 ((((60 * s) + c)).toNat)) ∧ (v 206 ((((60 * s) + c)).toNat)) < (v 210 1)
      · rw [if_pos hc_] <;> clear hc_
        all_goals (rw [ih])
      · rw [if_neg hc_] <;> clear hc_
        all_goals (show v rk = _)
        all_goals rfl
    · rw [if_neg hc_] <;> clear hc_
      all_goals (show (mo_told v) rk = _)
      all_goals (rw [o_mo_told (by omega)])
theorem o_mo_bets_55 {rk : Nat} {f : Nat} {v : VS} {s : Int} {c : Int} (hk : (rk < 203 ∨ 203 < rk) ∧ (rk < 219 ∨ 231 < rk)) : (mo_bets_55 f v s c).2 rk = v rk := of_mo_bets_55 hk f

theorem w_mo_bets {X : PX} {d b : Nat} {v : VS} {s : Int} (hX : XI v) (hp_a : R32 s) (hp_b : CF v) {Q : Option PV → Nat → VS → Prop} (hQ : XI (mo_bets v s).2 → Q (some (.inl (mo_bets v s).1)) b (mo_bets v s).2) : WV X (d + 1 + 1 + 1 + 1 + 1 + 1) 325 0 [some (.inr (.inr (some 203))), some (.inl s), none, none, none, none] [] b v Q := by
  rw [mo_bets] at hQ
  refine r_ex 2 (pc' := 2) (lo' := [some (.inr (.inr (some 203))), some (.inl s), none, none, none, none]) (st' := [.inl 0, .inr (.inr (some 203))]) rfl ?_
  refine r_puti2 (j := 0) (pc' := 5) (pc0 := 2) (len := 3) rfl (s_203 _) rfl rfl rfl (Or.inl rfl) rfl rfl ?_
  have hX_1 : XI (v2 v 203 0 0) := XI.put hX trivial
  refine r_ex 1 (pc' := 6) (lo' := [some (.inr (.inr (some 203))), some (.inl s), none, none, none, none]) (st' := [.inl s]) rfl ?_
  have hp_2 : R32 s := (by first | assumption | omega | (unfold R32 at *; omega) | (unfold R64 at *; omega) | (simp only [R32, R64] at *; omega))
  refine r_callb (P := 0 ≤ s ∧ s ≤ 3) (m := 201) (args := [.inl s]) (n' := 325) (pc' := 9) (lo' := [some (.inr (.inr (some 203))), some (.inl s), none, none, none, none]) (st' := []) (I := .invokestatic 201) (pc0 := 6) (len := 3) rfl rfl rfl (e_mo_isSlot hX_1 hp_2) (fun h_6 => ?_) (fun h_6 => ?_)
  · show WV _ _ _ 9 _ _ _ _ _
    rw [if_pos h_6] at hQ
    refine r_ex 2 (pc' := 13) (lo' := [some (.inr (.inr (some 203))), some (.inl s), none, none, none, none]) (st' := [.inr (.inr (some 203))]) rfl ?_
    have hb_3 : 0 ≤ (v 209 0) ∧ (v 209 0) ≤ 2001 := hX_1 209 0
    refine r_callb (P := 0 < (v 209 0)) (m := 245) (args := [.inr (.inr (some 203))]) (n' := 325) (pc' := 16) (lo' := [some (.inr (.inr (some 203))), some (.inl s), none, none, none, none]) (st' := []) (I := .invokevirtual 245) (pc0 := 13) (len := 3) rfl rfl rfl (e_mo_isBay hX_1) (fun h_13 => ?_) (fun h_13 => ?_)
    · show WV _ _ _ 16 _ _ _ _ _
      rw [if_pos h_13] at hQ
      refine r_ex 4 (pc' := 27) (lo' := [some (.inr (.inr (some 203))), some (.inl s), none, none, none, none]) (st' := [.inl s, .inr (.inr (some 204))]) rfl ?_
      refine r_iald2 (j := 0) (x := (v 204 ((s).toNat))) (pc' := 28) (pc0 := 27) (len := 1) rfl (s_204 _) (by first | assumption | omega | (unfold R32 at *; omega) | (unfold R64 at *; omega) | (simp only [R32, R64] at *; omega)) (by decide) rfl rfl ?_
      have hb_4 : -1 ≤ (v 204 ((s).toNat)) ∧ (v 204 ((s).toNat)) ≤ 3 := hX_1 204 ((s).toNat)
      refine r_ex 1 (pc' := 29) (lo' := [some (.inr (.inr (some 203))), some (.inl s), none, none, none, none]) (st' := [.inl (-1), .inl (v 204 ((s).toNat))]) rfl ?_
      refine n_ic_ne (pc0 := 29) (len := 3) (t := 35) rfl (by first | assumption | omega | (unfold R32 at *; omega) | (unfold R64 at *; omega) | (simp only [R32, R64] at *; omega)) (by first | assumption | omega | (unfold R32 at *; omega) | (unfold R64 at *; omega) | (simp only [R32, R64] at *; omega)) (fun h_29 => ?_) (fun h_29 => ?_)
      · show WV _ _ _ 35 _ _ _ _ _
        rw [if_neg h_29] at hQ
        refine r_ex 3 (pc' := 40) (lo' := [some (.inr (.inr (some 203))), some (.inl s), none, none, none, none]) (st' := [.inl s, .inr (.inr (some 205))]) rfl ?_
        refine r_iald2 (j := 0) (x := (v 205 ((s).toNat))) (pc' := 41) (pc0 := 40) (len := 1) rfl (s_205 _) (by first | assumption | omega | (unfold R32 at *; omega) | (unfold R64 at *; omega) | (simp only [R32, R64] at *; omega)) (by decide) rfl rfl ?_
        have hb_5 : 0 ≤ (v 205 ((s).toNat)) ∧ (v 205 ((s).toNat)) ≤ 60 := hX_1 205 ((s).toNat)
        refine r_ex 3 (pc' := 46) (lo' := [some (.inr (.inr (some 203))), some (.inl s), none, none, none, none]) (st' := [.inl 0, .inr (.inr (some 210)), .inl (v 205 ((s).toNat))]) rfl ?_
        refine r_iald2 (j := 0) (x := (v 210 0)) (pc' := 47) (pc0 := 46) (len := 1) rfl (s_210 _) (by first | assumption | omega | (unfold R32 at *; omega) | (unfold R64 at *; omega) | (simp only [R32, R64] at *; omega)) (by decide) rfl rfl ?_
        have hb_6 : 0 ≤ (v 210 0) ∧ (v 210 0) ≤ 9 := hX_1 210 0
        refine n_ic_eq (pc0 := 47) (len := 3) (t := 53) rfl (by first | assumption | omega | (unfold R32 at *; omega) | (unfold R64 at *; omega) | (simp only [R32, R64] at *; omega)) (by first | assumption | omega | (unfold R32 at *; omega) | (unfold R64 at *; omega) | (simp only [R32, R64] at *; omega)) (fun h_47 => ?_) (fun h_47 => ?_)
        · show WV _ _ _ 53 _ _ _ _ _
          rw [if_pos h_47] at hQ
          refine r_ex 2 (pc' := 55) (lo' := [some (.inr (.inr (some 203))), some (.inl s), some (.inl 0), none, none, none]) (st' := []) rfl ?_
          exact l_mo_bets_55 61 (v2 v 203 0 0) s 0 _ _ _ hX_1 (by first | assumption | omega | (unfold R32 at *; omega) | (unfold R64 at *; omega) | (simp only [R32, R64] at *; omega)) (by first | assumption | omega | (unfold R32 at *; omega) | (unfold R64 at *; omega) | (simp only [R32, R64] at *; omega)) (by first | assumption | exact TV.nil | exact TV.step hi_2 h_77 (by omega)) (by first | assumption | exact h_47) (show CF (v2 v 203 0 0) from (show CF (v2 v 203 0 0) from CF.of hp_b (fun k h1 h2 => by rw [v2_row (by omega)]))) (by first | assumption | omega | (unfold R32 at *; omega) | (unfold R64 at *; omega) | (simp only [R32, R64] at *; omega)) hQ
        · show WV _ _ _ 50 _ _ _ _ _
          rw [if_neg h_47] at hQ
          refine r_ex 1 (pc' := 52) (lo' := [some (.inr (.inr (some 203))), some (.inl s), none, none, none, none]) (st' := [.inl (-7)]) rfl ?_
          refine r_ret (rr := some (.inl (-7))) (I := .ireturn) (pc0 := 52) (len := 1) rfl rfl ?_
          exact hQ hX_1 
      · show WV _ _ _ 32 _ _ _ _ _
        rw [if_pos h_29] at hQ
        refine r_ex 1 (pc' := 34) (lo' := [some (.inr (.inr (some 203))), some (.inl s), none, none, none, none]) (st' := [.inl (-6)]) rfl ?_
        refine r_ret (rr := some (.inl (-6))) (I := .ireturn) (pc0 := 34) (len := 1) rfl rfl ?_
        exact hQ hX_1 
    · show WV _ _ _ 16 _ _ _ _ _
      rw [if_neg h_13] at hQ
      refine r_ex 2 (pc' := 21) (lo' := [some (.inr (.inr (some 203))), some (.inl s), none, none, none, none]) (st' := [.inl (-2)]) rfl ?_
      refine r_ret (rr := some (.inl (-2))) (I := .ireturn) (pc0 := 21) (len := 1) rfl rfl ?_
      exact hQ hX_1 
  · show WV _ _ _ 9 _ _ _ _ _
    rw [if_neg h_6] at hQ
    refine r_ex 2 (pc' := 21) (lo' := [some (.inr (.inr (some 203))), some (.inl s), none, none, none, none]) (st' := [.inl (-2)]) rfl ?_
    refine r_ret (rr := some (.inl (-2))) (I := .ireturn) (pc0 := 21) (len := 1) rfl rfl ?_
    exact hQ hX_1 

theorem e_mo_bets {X : PX} {d b : Nat} {v : VS} {s : Int} (hX : XI v) (hp_a : R32 s) (hp_b : CF v) : EvV X (d + 1 + 1 + 1 + 1 + 1 + 1) 325 [.inr (.inr (some 203)), .inl s] b v (some (.inl (mo_bets v s).1)) b ((mo_bets v s).2) := EvV.of (w_mo_bets hX hp_a hp_b (fun _ => ⟨rfl, rfl, rfl⟩))

theorem i_mo_bets {v : VS} {s : Int} (hX : XI v) (hp_a : R32 s) (hp_b : CF v) : XI ((mo_bets v s).2) := by
  have q : WV (0, fun _ => 0, none) (0 + 1 + 1 + 1 + 1 + 1 + 1) 325 0 [some (.inr (.inr (some 203))), some (.inl s), none, none, none, none] [] 1 v (fun _ _ _ => XI ((mo_bets v s).2)) := w_mo_bets (X := (0, fun _ => 0, none)) (d := 0) (b := 1) hX hp_a hp_b (fun q => q)
  obtain ⟨_, _, _, _, _, _, _, q⟩ := q
  exact q

theorem o_mo_bets {rk : Nat} {v : VS} {s : Int} (hk : (rk < 203 ∨ 203 < rk) ∧ (rk < 219 ∨ 231 < rk)) : (mo_bets v s).2 rk = v rk := by
  unfold mo_bets
  by_cases hc_ : 0 ≤ s ∧ s ≤ 3
  · rw [if_pos hc_] <;> clear hc_
    by_cases hc_ : 0 < (v 209 0)
    · rw [if_pos hc_] <;> clear hc_
      by_cases hc_ : (v 204 ((s).toNat)) = (-1)
      · rw [if_pos hc_] <;> clear hc_
        all_goals (show (v2 v 203 0 0) rk = _)
        all_goals (rw [v2_row (by omega)])
      · rw [if_neg hc_] <;> clear hc_
        by_cases hc_ : (v 205 ((s).toNat)) = (v 210 0)
        · rw [if_pos hc_] <;> clear hc_
          all_goals (rw [o_mo_bets_55 (by omega), v2_row (by omega)])
        · rw [if_neg hc_] <;> clear hc_
          all_goals (show (v2 v 203 0 0) rk = _)
          all_goals (rw [v2_row (by omega)])
    · rw [if_neg hc_] <;> clear hc_
      all_goals (show (v2 v 203 0 0) rk = _)
      all_goals (rw [v2_row (by omega)])
  · rw [if_neg hc_] <;> clear hc_
    all_goals (show (v2 v 203 0 0) rk = _)
    all_goals (rw [v2_row (by omega)])

noncomputable def mo_count_118 : Nat → VS → Int → Int → Int
  | 0, v, n, k => 0
  | f + 1, v, n, k => (if k < 4 then (if (v 204 ((k).toNat)) = (-1) then (mo_count_118 f v (n + 0) (k + 1)) else (mo_count_118 f v (n + 1) (k + 1))) else n)
noncomputable def mo_count (v : VS) (w : Int) : Int × VS :=
  (if w = 0 then ((v 210 0), (v2 v 203 0 0)) else (if w = 1 then ((v 210 1), (v2 v 203 0 0)) else (if w = 2 then ((v 210 3), (v2 v 203 0 0)) else (if w = 3 then ((v 210 4), (v2 v 203 0 0)) else (if w = 4 then ((v 209 0), (v2 v 203 0 0)) else (if w = 5 then ((v 203 6), (v2 v 203 0 0)) else (if w = 6 then ((v 210 9), (v2 v 203 0 0)) else (if w = 7 then ((v 210 10), (v2 v 203 0 0)) else (if w = 8 then ((mo_count_118 5 (v2 v 203 0 0) 0 0), (v2 v 203 0 0)) else ((-1), (v2 v 203 0 0)))))))))))
theorem l_mo_count_118 {X : PX} {d b : Nat} {Q : Option PV → Nat → VS → Prop}  : ∀ (f : Nat) (v : VS) (n : Int) (k : Int) (z1 : Int), XI v → (0 ≤ n ∧ n ≤ k) → (0 ≤ k ∧ k ≤ 4) → (4 < k + f) → (∀ qx3 : Option PV, (0 ≤ (mo_count_118 f v n k) ∧ (mo_count_118 f v n k) ≤ 4) → WV X d 326 147 [some (.inr (.inr (some 203))), some (.inl z1), some (.inl (mo_count_118 f v n k)), qx3] [] b v Q) → WV X d 326 118 [some (.inr (.inr (some 203))), some (.inl z1), some (.inl n), some (.inl k)] [] b v Q := by
  intro f
  induction f with
  | zero =>
    intro v n k z1 hX hi_0 hi_1 hf hK
    exfalso
    omega
  | succ f ih =>
    intro v n k z1 hX hi_0 hi_1 hf hK
    rw [mo_count_118] at hK
    refine r_ex 2 (pc' := 120) (lo' := [some (.inr (.inr (some 203))), some (.inl z1), some (.inl n), some (.inl k)]) (st' := [.inl 4, .inl k]) rfl ?_
    refine n_ic_ge (pc0 := 120) (len := 3) (t := 147) rfl (by first | assumption | omega | (unfold R32 at *; omega) | (unfold R64 at *; omega) | (simp only [R32, R64] at *; omega)) (by first | assumption | omega | (unfold R32 at *; omega) | (unfold R64 at *; omega) | (simp only [R32, R64] at *; omega)) (fun h_120 => ?_) (fun h_120 => ?_)
    · show WV _ _ _ 147 _ _ _ _ _
      rw [if_neg h_120] at hK
      exact hK _  (by first | assumption | omega | (unfold R32 at *; omega) | (unfold R64 at *; omega) | (simp only [R32, R64] at *; omega))
    · show WV _ _ _ 123 _ _ _ _ _
      rw [if_pos h_120] at hK
      refine r_ex 4 (pc' := 129) (lo' := [some (.inr (.inr (some 203))), some (.inl z1), some (.inl n), some (.inl k)]) (st' := [.inl k, .inr (.inr (some 204)), .inl n]) rfl ?_
      refine r_iald2 (j := 0) (x := (v 204 ((k).toNat))) (pc' := 130) (pc0 := 129) (len := 1) rfl (s_204 _) (by first | assumption | omega | (unfold R32 at *; omega) | (unfold R64 at *; omega) | (simp only [R32, R64] at *; omega)) (by decide) rfl rfl ?_
      have hb_19 : -1 ≤ (v 204 ((k).toNat)) ∧ (v 204 ((k).toNat)) ≤ 3 := hX 204 ((k).toNat)
      refine r_ex 1 (pc' := 131) (lo' := [some (.inr (.inr (some 203))), some (.inl z1), some (.inl n), some (.inl k)]) (st' := [.inl (-1), .inl (v 204 ((k).toNat)), .inl n]) rfl ?_
      refine n_ic_ne (pc0 := 131) (len := 3) (t := 138) rfl (by first | assumption | omega | (unfold R32 at *; omega) | (unfold R64 at *; omega) | (simp only [R32, R64] at *; omega)) (by first | assumption | omega | (unfold R32 at *; omega) | (unfold R64 at *; omega) | (simp only [R32, R64] at *; omega)) (fun h_131 => ?_) (fun h_131 => ?_)
      · show WV _ _ _ 138 _ _ _ _ _
        rw [if_neg h_131] at hK
        refine r_ex 5 (pc' := 118) (lo' := [some (.inr (.inr (some 203))), some (.inl z1), some (.inl (n + 1)), some (.inl (k + 1))]) (st' := []) rfl ?_
        refine ih v (n + 1) (k + 1) _ hX (by first | assumption | omega | (unfold R32 at *; omega) | (unfold R64 at *; omega) | (simp only [R32, R64] at *; omega)) (by first | assumption | omega | (unfold R32 at *; omega) | (unfold R64 at *; omega) | (simp only [R32, R64] at *; omega)) (by first | assumption | omega | (unfold R32 at *; omega) | (unfold R64 at *; omega) | (simp only [R32, R64] at *; omega)) hK
      · show WV _ _ _ 134 _ _ _ _ _
        rw [if_pos h_131] at hK
        refine r_ex 6 (pc' := 118) (lo' := [some (.inr (.inr (some 203))), some (.inl z1), some (.inl (n + 0)), some (.inl (k + 1))]) (st' := []) rfl ?_
        refine ih v (n + 0) (k + 1) _ hX (by first | assumption | omega | (unfold R32 at *; omega) | (unfold R64 at *; omega) | (simp only [R32, R64] at *; omega)) (by first | assumption | omega | (unfold R32 at *; omega) | (unfold R64 at *; omega) | (simp only [R32, R64] at *; omega)) (by first | assumption | omega | (unfold R32 at *; omega) | (unfold R64 at *; omega) | (simp only [R32, R64] at *; omega)) hK

theorem w_mo_count {X : PX} {d b : Nat} {v : VS} {w : Int} (hX : XI v) (hp_a : R32 w) {Q : Option PV → Nat → VS → Prop} (hQ : XI (mo_count v w).2 → Q (some (.inl (mo_count v w).1)) b (mo_count v w).2) : WV X d 326 0 [some (.inr (.inr (some 203))), some (.inl w), none, none] [] b v Q := by
  rw [mo_count] at hQ
  refine r_ex 2 (pc' := 2) (lo' := [some (.inr (.inr (some 203))), some (.inl w), none, none]) (st' := [.inl 0, .inr (.inr (some 203))]) rfl ?_
  refine r_puti2 (j := 0) (pc' := 5) (pc0 := 2) (len := 3) rfl (s_203 _) rfl rfl rfl (Or.inl rfl) rfl rfl ?_
  have hX_1 : XI (v2 v 203 0 0) := XI.put hX trivial
  refine r_ex 3 (pc' := 8) (lo' := [some (.inr (.inr (some 203))), some (.inl w), some (.inl 0), none]) (st' := [.inl w]) rfl ?_
  by_cases h_8_0 : w = 0
  · refine n_ts (pc' := 60) (pc0 := 8) (len := 52) (x := w) (y := 0) rfl h_8_0 rfl ?_
    rw [if_pos h_8_0] at hQ
    refine r_ex 3 (pc' := 65) (lo' := [some (.inr (.inr (some 203))), some (.inl w), some (.inl 0), none]) (st' := [.inl 0, .inr (.inr (some 210))]) rfl ?_
    refine r_iald2 (j := 0) (x := (v 210 0)) (pc' := 66) (pc0 := 65) (len := 1) rfl (s_210 _) (by first | assumption | omega | (unfold R32 at *; omega) | (unfold R64 at *; omega) | (simp only [R32, R64] at *; omega)) (by decide) rfl rfl ?_
    have hb_3 : 0 ≤ (v 210 0) ∧ (v 210 0) ≤ 9 := hX_1 210 0
    refine r_ret (rr := some (.inl (v 210 0))) (I := .ireturn) (pc0 := 66) (len := 1) rfl rfl ?_
    exact hQ hX_1 
  · rw [if_neg h_8_0] at hQ
    by_cases h_8_1 : w = 1
    · refine n_ts (pc' := 67) (pc0 := 8) (len := 52) (x := w) (y := 1) rfl h_8_1 rfl ?_
      rw [if_pos h_8_1] at hQ
      refine r_ex 3 (pc' := 72) (lo' := [some (.inr (.inr (some 203))), some (.inl w), some (.inl 0), none]) (st' := [.inl 1, .inr (.inr (some 210))]) rfl ?_
      refine r_iald2 (j := 0) (x := (v 210 1)) (pc' := 73) (pc0 := 72) (len := 1) rfl (s_210 _) (by first | assumption | omega | (unfold R32 at *; omega) | (unfold R64 at *; omega) | (simp only [R32, R64] at *; omega)) (by decide) rfl rfl ?_
      have hb_5 : 0 ≤ (v 210 1) ∧ (v 210 1) ≤ 300 := hX_1 210 1
      refine r_ret (rr := some (.inl (v 210 1))) (I := .ireturn) (pc0 := 73) (len := 1) rfl rfl ?_
      exact hQ hX_1 
    · rw [if_neg h_8_1] at hQ
      by_cases h_8_2 : w = 2
      · refine n_ts (pc' := 74) (pc0 := 8) (len := 52) (x := w) (y := 2) rfl h_8_2 rfl ?_
        rw [if_pos h_8_2] at hQ
        refine r_ex 3 (pc' := 79) (lo' := [some (.inr (.inr (some 203))), some (.inl w), some (.inl 0), none]) (st' := [.inl 3, .inr (.inr (some 210))]) rfl ?_
        refine r_iald2 (j := 0) (x := (v 210 3)) (pc' := 80) (pc0 := 79) (len := 1) rfl (s_210 _) (by first | assumption | omega | (unfold R32 at *; omega) | (unfold R64 at *; omega) | (simp only [R32, R64] at *; omega)) (by decide) rfl rfl ?_
        have hb_7 : 0 ≤ (v 210 3) ∧ (v 210 3) ≤ 12 := hX_1 210 3
        refine r_ret (rr := some (.inl (v 210 3))) (I := .ireturn) (pc0 := 80) (len := 1) rfl rfl ?_
        exact hQ hX_1 
      · rw [if_neg h_8_2] at hQ
        by_cases h_8_3 : w = 3
        · refine n_ts (pc' := 81) (pc0 := 8) (len := 52) (x := w) (y := 3) rfl h_8_3 rfl ?_
          rw [if_pos h_8_3] at hQ
          refine r_ex 3 (pc' := 86) (lo' := [some (.inr (.inr (some 203))), some (.inl w), some (.inl 0), none]) (st' := [.inl 4, .inr (.inr (some 210))]) rfl ?_
          refine r_iald2 (j := 0) (x := (v 210 4)) (pc' := 87) (pc0 := 86) (len := 1) rfl (s_210 _) (by first | assumption | omega | (unfold R32 at *; omega) | (unfold R64 at *; omega) | (simp only [R32, R64] at *; omega)) (by decide) rfl rfl ?_
          have hb_9 : 0 ≤ (v 210 4) ∧ (v 210 4) ≤ 4 := hX_1 210 4
          refine r_ret (rr := some (.inl (v 210 4))) (I := .ireturn) (pc0 := 87) (len := 1) rfl rfl ?_
          exact hQ hX_1 
        · rw [if_neg h_8_3] at hQ
          by_cases h_8_4 : w = 4
          · refine n_ts (pc' := 88) (pc0 := 8) (len := 52) (x := w) (y := 4) rfl h_8_4 rfl ?_
            rw [if_pos h_8_4] at hQ
            refine r_ex 3 (pc' := 93) (lo' := [some (.inr (.inr (some 203))), some (.inl w), some (.inl 0), none]) (st' := [.inl 0, .inr (.inr (some 209))]) rfl ?_
            refine r_iald2 (j := 0) (x := (v 209 0)) (pc' := 94) (pc0 := 93) (len := 1) rfl (s_209 _) (by first | assumption | omega | (unfold R32 at *; omega) | (unfold R64 at *; omega) | (simp only [R32, R64] at *; omega)) (by decide) rfl rfl ?_
            have hb_11 : 0 ≤ (v 209 0) ∧ (v 209 0) ≤ 2001 := hX_1 209 0
            refine r_ret (rr := some (.inl (v 209 0))) (I := .ireturn) (pc0 := 94) (len := 1) rfl rfl ?_
            exact hQ hX_1 
          · rw [if_neg h_8_4] at hQ
            by_cases h_8_5 : w = 5
            · refine n_ts (pc' := 95) (pc0 := 8) (len := 52) (x := w) (y := 5) rfl h_8_5 rfl ?_
              rw [if_pos h_8_5] at hQ
              refine r_ex 2 (pc' := 99) (lo' := [some (.inr (.inr (some 203))), some (.inl w), some (.inl 0), none]) (st' := [.inl (v 203 6)]) rfl ?_
              have hb_13 : 0 ≤ (v 203 6) ∧ (v 203 6) ≤ 2000 := hX_1 203 6
              refine r_ret (rr := some (.inl (v 203 6))) (I := .ireturn) (pc0 := 99) (len := 1) rfl rfl ?_
              exact hQ hX_1 
            · rw [if_neg h_8_5] at hQ
              by_cases h_8_6 : w = 6
              · refine n_ts (pc' := 100) (pc0 := 8) (len := 52) (x := w) (y := 6) rfl h_8_6 rfl ?_
                rw [if_pos h_8_6] at hQ
                refine r_ex 3 (pc' := 106) (lo' := [some (.inr (.inr (some 203))), some (.inl w), some (.inl 0), none]) (st' := [.inl 9, .inr (.inr (some 210))]) rfl ?_
                refine r_iald2 (j := 0) (x := (v 210 9)) (pc' := 107) (pc0 := 106) (len := 1) rfl (s_210 _) (by first | assumption | omega | (unfold R32 at *; omega) | (unfold R64 at *; omega) | (simp only [R32, R64] at *; omega)) (by decide) rfl rfl ?_
                have hb_15 : 0 ≤ (v 210 9) ∧ (v 210 9) ≤ 511 := hX_1 210 9
                refine r_ret (rr := some (.inl (v 210 9))) (I := .ireturn) (pc0 := 107) (len := 1) rfl rfl ?_
                exact hQ hX_1 
              · rw [if_neg h_8_6] at hQ
                by_cases h_8_7 : w = 7
                · refine n_ts (pc' := 108) (pc0 := 8) (len := 52) (x := w) (y := 7) rfl h_8_7 rfl ?_
                  rw [if_pos h_8_7] at hQ
                  refine r_ex 3 (pc' := 114) (lo' := [some (.inr (.inr (some 203))), some (.inl w), some (.inl 0), none]) (st' := [.inl 10, .inr (.inr (some 210))]) rfl ?_
                  refine r_iald2 (j := 0) (x := (v 210 10)) (pc' := 115) (pc0 := 114) (len := 1) rfl (s_210 _) (by first | assumption | omega | (unfold R32 at *; omega) | (unfold R64 at *; omega) | (simp only [R32, R64] at *; omega)) (by decide) rfl rfl ?_
                  have hb_17 : 0 ≤ (v 210 10) ∧ (v 210 10) ≤ 4095 := hX_1 210 10
                  refine r_ret (rr := some (.inl (v 210 10))) (I := .ireturn) (pc0 := 115) (len := 1) rfl rfl ?_
                  exact hQ hX_1 
                · rw [if_neg h_8_7] at hQ
                  by_cases h_8_8 : w = 8
                  · refine n_ts (pc' := 116) (pc0 := 8) (len := 52) (x := w) (y := 8) rfl h_8_8 rfl ?_
                    rw [if_pos h_8_8] at hQ
                    refine r_ex 2 (pc' := 118) (lo' := [some (.inr (.inr (some 203))), some (.inl w), some (.inl 0), some (.inl 0)]) (st' := []) rfl ?_
                    refine l_mo_count_118 5 (v2 v 203 0 0) 0 0 _ hX_1 (by first | assumption | omega | (unfold R32 at *; omega) | (unfold R64 at *; omega) | (simp only [R32, R64] at *; omega)) (by first | assumption | omega | (unfold R32 at *; omega) | (unfold R64 at *; omega) | (simp only [R32, R64] at *; omega)) (by first | assumption | omega | (unfold R32 at *; omega) | (unfold R64 at *; omega) | (simp only [R32, R64] at *; omega)) (fun o3_20  hv_20_0 => ?_)
                    show WV _ _ _ 147 _ _ _ _ _
                    refine r_ex 1 (pc' := 148) (lo' := [some (.inr (.inr (some 203))), some (.inl w), some (.inl (mo_count_118 5 (v2 v 203 0 0) 0 0)), o3_20]) (st' := [.inl (mo_count_118 5 (v2 v 203 0 0) 0 0)]) rfl ?_
                    refine r_ret (rr := some (.inl (mo_count_118 5 (v2 v 203 0 0) 0 0))) (I := .ireturn) (pc0 := 148) (len := 1) rfl rfl ?_
                    exact hQ hX_1 
                  · rw [if_neg h_8_8] at hQ
                    refine n_ts_d (pc' := 149) (pc0 := 8) (len := 52) (x := w) rfl (by first | assumption | omega | (unfold R32 at *; omega) | (unfold R64 at *; omega) | (simp only [R32, R64] at *; omega)) (by first | assumption | omega | (unfold R32 at *; omega) | (unfold R64 at *; omega) | (simp only [R32, R64] at *; omega)) ?_
                    refine r_ex 1 (pc' := 150) (lo' := [some (.inr (.inr (some 203))), some (.inl w), some (.inl 0), none]) (st' := [.inl (-1)]) rfl ?_
                    refine r_ret (rr := some (.inl (-1))) (I := .ireturn) (pc0 := 150) (len := 1) rfl rfl ?_
                    exact hQ hX_1 

theorem e_mo_count {X : PX} {d b : Nat} {v : VS} {w : Int} (hX : XI v) (hp_a : R32 w) : EvV X d 326 [.inr (.inr (some 203)), .inl w] b v (some (.inl (mo_count v w).1)) b ((mo_count v w).2) := EvV.of (w_mo_count hX hp_a (fun _ => ⟨rfl, rfl, rfl⟩))

theorem i_mo_count {v : VS} {w : Int} (hX : XI v) (hp_a : R32 w) : XI ((mo_count v w).2) := by
  have q : WV (0, fun _ => 0, none) 0 326 0 [some (.inr (.inr (some 203))), some (.inl w), none, none] [] 1 v (fun _ _ _ => XI ((mo_count v w).2)) := w_mo_count (X := (0, fun _ => 0, none)) (d := 0) (b := 1) hX hp_a (fun q => q)
  obtain ⟨_, _, _, _, _, _, _, q⟩ := q
  exact q

theorem o_mo_count {rk : Nat} {v : VS} {w : Int} (hk : (rk < 203 ∨ 203 < rk)) : (mo_count v w).2 rk = v rk := by
  unfold mo_count
  by_cases hc_ : w = 0
  · rw [if_pos hc_] <;> clear hc_
    all_goals (show (v2 v 203 0 0) rk = _)
    all_goals (rw [v2_row (by omega)])
  · rw [if_neg hc_] <;> clear hc_
    by_cases hc_ : w = 1
    · rw [if_pos hc_] <;> clear hc_
      all_goals (show (v2 v 203 0 0) rk = _)
      all_goals (rw [v2_row (by omega)])
    · rw [if_neg hc_] <;> clear hc_
      by_cases hc_ : w = 2
      · rw [if_pos hc_] <;> clear hc_
        all_goals (show (v2 v 203 0 0) rk = _)
        all_goals (rw [v2_row (by omega)])
      · rw [if_neg hc_] <;> clear hc_
        by_cases hc_ : w = 3
        · rw [if_pos hc_] <;> clear hc_
          all_goals (show (v2 v 203 0 0) rk = _)
          all_goals (rw [v2_row (by omega)])
        · rw [if_neg hc_] <;> clear hc_
          by_cases hc_ : w = 4
          · rw [if_pos hc_] <;> clear hc_
            all_goals (show (v2 v 203 0 0) rk = _)
            all_goals (rw [v2_row (by omega)])
          · rw [if_neg hc_] <;> clear hc_
            by_cases hc_ : w = 5
            · rw [if_pos hc_] <;> clear hc_
              all_goals (show (v2 v 203 0 0) rk = _)
              all_goals (rw [v2_row (by omega)])
            · rw [if_neg hc_] <;> clear hc_
              by_cases hc_ : w = 6
              · rw [if_pos hc_] <;> clear hc_
                all_goals (show (v2 v 203 0 0) rk = _)
                all_goals (rw [v2_row (by omega)])
              · rw [if_neg hc_] <;> clear hc_
                by_cases hc_ : w = 7
                · rw [if_pos hc_] <;> clear hc_
                  all_goals (show (v2 v 203 0 0) rk = _)
                  all_goals (rw [v2_row (by omega)])
                · rw [if_neg hc_] <;> clear hc_
                  by_cases hc_ : w = 8
                  · rw [if_pos hc_] <;> clear hc_
                    all_goals (show (v2 v 203 0 0) rk = _)
                    all_goals (rw [v2_row (by omega)])
                  · rw [if_neg hc_] <;> clear hc_
                    all_goals (show (v2 v 203 0 0) rk = _)
                    all_goals (rw [v2_row (by omega)])

noncomputable def mo_keep (v : VS) (k : Int) : Int × VS :=
  (if (0 : Int) ≤ k ∧ k ≤ (2 : Int) then (0, (v2 (mo_copyBay (v2 v 203 0 0) 0 (1 + k)) 218 ((k).toNat) 1)) else ((-2), (v2 v 203 0 0)))
theorem w_mo_keep {X : PX} {d b : Nat} {v : VS} {k : Int} (hX : XI v) (hp_a : R32 k) (hp_b : CF v) {Q : Option PV → Nat → VS → Prop} (hQ : XI (mo_keep v k).2 → (CF ((mo_keep v k).2)) → Q (some (.inl (mo_keep v k).1)) b (mo_keep v k).2) : WV X (d + 1 + 1) 327 0 [some (.inr (.inr (some 203))), some (.inl k)] [] b v Q := by
  rw [mo_keep] at hQ
  refine r_ex 2 (pc' := 2) (lo' := [some (.inr (.inr (some 203))), some (.inl k)]) (st' := [.inl 0, .inr (.inr (some 203))]) rfl ?_
  refine r_puti2 (j := 0) (pc' := 5) (pc0 := 2) (len := 3) rfl (s_203 _) rfl rfl rfl (Or.inl rfl) rfl rfl ?_
  have hX_1 : XI (v2 v 203 0 0) := XI.put hX trivial
  refine r_ex 1 (pc' := 6) (lo' := [some (.inr (.inr (some 203))), some (.inl k)]) (st' := [.inl k]) rfl ?_
  refine n_i2l (pc' := 7) (pc0 := 6) (len := 1) rfl (by first | assumption | omega | (unfold R32 at *; omega) | (unfold R64 at *; omega) | (simp only [R32, R64] at *; omega)) rfl ?_
  refine r_ex 2 (pc' := 11) (lo' := [some (.inr (.inr (some 203))), some (.inl k)]) (st' := [.inr (.inl 2), .inr (.inl 0), .inr (.inl k)]) rfl ?_
  have hp_2 : R64 k := (by first | assumption | omega | (unfold R32 at *; omega) | (unfold R64 at *; omega) | (simp only [R32, R64] at *; omega))
  have hp_3 : R64 (0 : Int) := (by first | assumption | omega | (unfold R32 at *; omega) | (unfold R64 at *; omega) | (simp only [R32, R64] at *; omega))
  have hp_4 : R64 (2 : Int) := (by first | assumption | omega | (unfold R32 at *; omega) | (unfold R64 at *; omega) | (simp only [R32, R64] at *; omega))
  refine r_callb (P := (0 : Int) ≤ k ∧ k ≤ (2 : Int)) (m := 202) (args := [.inr (.inl k), .inr (.inl 0), .inr (.inl 2)]) (n' := 327) (pc' := 14) (lo' := [some (.inr (.inr (some 203))), some (.inl k)]) (st' := []) (I := .invokestatic 202) (pc0 := 11) (len := 3) rfl rfl rfl (e_mo_in hX_1 hp_2 hp_3 hp_4) (fun h_11 => ?_) (fun h_11 => ?_)
  · show WV _ _ _ 14 _ _ _ _ _
    rw [if_pos h_11] at hQ
    refine r_ex 6 (pc' := 25) (lo' := [some (.inr (.inr (some 203))), some (.inl k)]) (st' := [.inl (1 + k), .inl 0, .inr (.inr (some 203))]) rfl ?_
    have hp_5 : 0 ≤ (0 : Int) ∧ (0 : Int) ≤ 4 := (by first | assumption | omega | (unfold R32 at *; omega) | (unfold R64 at *; omega) | (simp only [R32, R64] at *; omega))
    have hp_6 : 0 ≤ (1 + k) ∧ (1 + k) ≤ 4 := (by first | assumption | omega | (unfold R32 at *; omega) | (unfold R64 at *; omega) | (simp only [R32, R64] at *; omega))
    have hp_7 : CF (v2 v 203 0 0) := show CF (v2 v 203 0 0) from (show CF (v2 v 203 0 0) from CF.of hp_b (fun k h1 h2 => by rw [v2_row (by omega)]))
    refine r_call (m := 233) (args := [.inr (.inr (some 203)), .inl 0, .inl (1 + k)]) (n' := 327) (pc' := 28) (lo' := [some (.inr (.inr (some 203))), some (.inl k)]) (st' := []) (I := .invokevirtual 233) (pc0 := 25) (len := 3) rfl rfl rfl (e_mo_copyBay hX_1 hp_5 hp_6 hp_7) ?_
    show WV _ _ _ 28 _ [] _ (mo_copyBay (v2 v 203 0 0) 0 (1 + k)) _
    have hX_8 : XI (mo_copyBay (v2 v 203 0 0) 0 (1 + k)) := i_mo_copyBay (v := (v2 v 203 0 0)) (i := 0) (o := (1 + k)) hX_1 hp_5 hp_6 hp_7
    have hl_9 := n_mo_copyBay (v := (v2 v 203 0 0)) (i := 0) (o := (1 + k)) hX_1 hp_5 hp_6 hp_7
    refine r_ex 4 (pc' := 34) (lo' := [some (.inr (.inr (some 203))), some (.inl k)]) (st' := [.inl 1, .inl k, .inr (.inr (some 218))]) rfl ?_
    refine r_zast2 (pc' := 35) (pc0 := 34) (len := 1) rfl (s_218 _) (by first | assumption | omega | (unfold R32 at *; omega) | (unfold R64 at *; omega) | (simp only [R32, R64] at *; omega)) (by decide) rfl rfl ?_
    have hX_10 : XI (v2 (mo_copyBay (v2 v 203 0 0) 0 (1 + k)) 218 ((k).toNat) 1) := XI.put hX_8 (show 0 ≤ 1 ∧ 1 ≤ 1 from (by first | assumption | omega | (unfold R32 at *; omega) | (unfold R64 at *; omega) | (simp only [R32, R64] at *; omega)))
    show WV _ _ _ 35 _ _ _ (v2 (mo_copyBay (v2 v 203 0 0) 0 (1 + k)) 218 ((k).toNat) 1) _
    refine r_ex 1 (pc' := 36) (lo' := [some (.inr (.inr (some 203))), some (.inl k)]) (st' := [.inl 0]) rfl ?_
    refine r_ret (rr := some (.inl 0)) (I := .ireturn) (pc0 := 36) (len := 1) rfl rfl ?_
    exact hQ hX_10 (show CF (v2 (mo_copyBay (v2 v 203 0 0) 0 (1 + k)) 218 ((k).toNat) 1) from (show CF (v2 (mo_copyBay (v2 v 203 0 0) 0 (1 + k)) 218 ((k).toNat) 1) from CF.of hl_9 (fun k h1 h2 => by rw [v2_row (by omega)])))
  · show WV _ _ _ 14 _ _ _ _ _
    rw [if_neg h_11] at hQ
    refine r_ex 2 (pc' := 19) (lo' := [some (.inr (.inr (some 203))), some (.inl k)]) (st' := [.inl (-2)]) rfl ?_
    refine r_ret (rr := some (.inl (-2))) (I := .ireturn) (pc0 := 19) (len := 1) rfl rfl ?_
    exact hQ hX_1 (show CF (v2 v 203 0 0) from (show CF (v2 v 203 0 0) from CF.of hp_b (fun k h1 h2 => by rw [v2_row (by omega)])))

theorem e_mo_keep {X : PX} {d b : Nat} {v : VS} {k : Int} (hX : XI v) (hp_a : R32 k) (hp_b : CF v) : EvV X (d + 1 + 1) 327 [.inr (.inr (some 203)), .inl k] b v (some (.inl (mo_keep v k).1)) b ((mo_keep v k).2) := EvV.of (w_mo_keep hX hp_a hp_b (fun _ _ => ⟨rfl, rfl, rfl⟩))

theorem i_mo_keep {v : VS} {k : Int} (hX : XI v) (hp_a : R32 k) (hp_b : CF v) : XI ((mo_keep v k).2) := by
  have q : WV (0, fun _ => 0, none) (0 + 1 + 1) 327 0 [some (.inr (.inr (some 203))), some (.inl k)] [] 1 v (fun _ _ _ => XI ((mo_keep v k).2)) := w_mo_keep (X := (0, fun _ => 0, none)) (d := 0) (b := 1) hX hp_a hp_b (fun q _ => q)
  obtain ⟨_, _, _, _, _, _, _, q⟩ := q
  exact q

theorem n_mo_keep {v : VS} {k : Int} (hX : XI v) (hp_a : R32 k) (hp_b : CF v) : CF ((mo_keep v k).2) := by
  have q : WV (0, fun _ => 0, none) (0 + 1 + 1) 327 0 [some (.inr (.inr (some 203))), some (.inl k)] [] 1 v (fun _ _ _ => CF ((mo_keep v k).2)) := w_mo_keep (X := (0, fun _ => 0, none)) (d := 0) (b := 1) hX hp_a hp_b (fun _ q => q)
  obtain ⟨_, _, _, _, _, _, _, q⟩ := q
  exact q

theorem o_mo_keep {rk : Nat} {v : VS} {k : Int} (hk : (rk < 203 ∨ 203 < rk) ∧ (rk < 209 ∨ 218 < rk)) : (mo_keep v k).2 rk = v rk := by
  unfold mo_keep
  by_cases hc_ : (0 : Int) ≤ k ∧ k ≤ (2 : Int)
  · rw [if_pos hc_] <;> clear hc_
    all_goals (show (v2 (mo_copyBay (v2 v 203 0 0) 0 (1 + k)) 218 ((k).toNat) 1) rk = _)
    all_goals (rw [v2_row (by omega), o_mo_copyBay (by omega), v2_row (by omega)])
  · rw [if_neg hc_] <;> clear hc_
    all_goals (show (v2 v 203 0 0) rk = _)
    all_goals (rw [v2_row (by omega)])

noncomputable def mo_back (v : VS) (k : Int) : Int × VS :=
  (if (0 : Int) ≤ k ∧ k ≤ (2 : Int) then (if (v 218 ((k).toNat)) = 0 then ((-6), (v2 v 203 0 0)) else (0, (mo_copyBay (v2 v 203 0 0) (1 + k) 0))) else ((-2), (v2 v 203 0 0)))
theorem w_mo_back {X : PX} {d b : Nat} {v : VS} {k : Int} (hX : XI v) (hp_a : R32 k) (hp_b : CF v) {Q : Option PV → Nat → VS → Prop} (hQ : XI (mo_back v k).2 → (CF ((mo_back v k).2)) → Q (some (.inl (mo_back v k).1)) b (mo_back v k).2) : WV X (d + 1 + 1) 328 0 [some (.inr (.inr (some 203))), some (.inl k)] [] b v Q := by
  rw [mo_back] at hQ
  refine r_ex 2 (pc' := 2) (lo' := [some (.inr (.inr (some 203))), some (.inl k)]) (st' := [.inl 0, .inr (.inr (some 203))]) rfl ?_
  refine r_puti2 (j := 0) (pc' := 5) (pc0 := 2) (len := 3) rfl (s_203 _) rfl rfl rfl (Or.inl rfl) rfl rfl ?_
  have hX_1 : XI (v2 v 203 0 0) := XI.put hX trivial
  refine r_ex 1 (pc' := 6) (lo' := [some (.inr (.inr (some 203))), some (.inl k)]) (st' := [.inl k]) rfl ?_
  refine n_i2l (pc' := 7) (pc0 := 6) (len := 1) rfl (by first | assumption | omega | (unfold R32 at *; omega) | (unfold R64 at *; omega) | (simp only [R32, R64] at *; omega)) rfl ?_
  refine r_ex 2 (pc' := 11) (lo' := [some (.inr (.inr (some 203))), some (.inl k)]) (st' := [.inr (.inl 2), .inr (.inl 0), .inr (.inl k)]) rfl ?_
  have hp_2 : R64 k := (by first | assumption | omega | (unfold R32 at *; omega) | (unfold R64 at *; omega) | (simp only [R32, R64] at *; omega))
  have hp_3 : R64 (0 : Int) := (by first | assumption | omega | (unfold R32 at *; omega) | (unfold R64 at *; omega) | (simp only [R32, R64] at *; omega))
  have hp_4 : R64 (2 : Int) := (by first | assumption | omega | (unfold R32 at *; omega) | (unfold R64 at *; omega) | (simp only [R32, R64] at *; omega))
  refine r_callb (P := (0 : Int) ≤ k ∧ k ≤ (2 : Int)) (m := 202) (args := [.inr (.inl k), .inr (.inl 0), .inr (.inl 2)]) (n' := 328) (pc' := 14) (lo' := [some (.inr (.inr (some 203))), some (.inl k)]) (st' := []) (I := .invokestatic 202) (pc0 := 11) (len := 3) rfl rfl rfl (e_mo_in hX_1 hp_2 hp_3 hp_4) (fun h_11 => ?_) (fun h_11 => ?_)
  · show WV _ _ _ 14 _ _ _ _ _
    rw [if_pos h_11] at hQ
    refine r_ex 4 (pc' := 25) (lo' := [some (.inr (.inr (some 203))), some (.inl k)]) (st' := [.inl k, .inr (.inr (some 218))]) rfl ?_
    refine r_bald2 (x := (v 218 ((k).toNat))) (pc' := 26) (pc0 := 25) (len := 1) rfl (s_218 _) (Or.inr rfl) (by first | assumption | omega | (unfold R32 at *; omega) | (unfold R64 at *; omega) | (simp only [R32, R64] at *; omega)) (by decide) rfl rfl ?_
    have hb_5 : 0 ≤ (v 218 ((k).toNat)) ∧ (v 218 ((k).toNat)) ≤ 1 := hX_1 218 ((k).toNat)
    refine n_if_ne (pc0 := 26) (len := 3) (t := 32) rfl (by first | assumption | omega | (unfold R32 at *; omega) | (unfold R64 at *; omega) | (simp only [R32, R64] at *; omega)) (fun h_26 => ?_) (fun h_26 => ?_)
    · show WV _ _ _ 32 _ _ _ _ _
      rw [if_neg h_26] at hQ
      refine r_ex 5 (pc' := 37) (lo' := [some (.inr (.inr (some 203))), some (.inl k)]) (st' := [.inl 0, .inl (1 + k), .inr (.inr (some 203))]) rfl ?_
      have hp_6 : 0 ≤ (1 + k) ∧ (1 + k) ≤ 4 := (by first | assumption | omega | (unfold R32 at *; omega) | (unfold R64 at *; omega) | (simp only [R32, R64] at *; omega))
      have hp_7 : 0 ≤ (0 : Int) ∧ (0 : Int) ≤ 4 := (by first | assumption | omega | (unfold R32 at *; omega) | (unfold R64 at *; omega) | (simp only [R32, R64] at *; omega))
      have hp_8 : CF (v2 v 203 0 0) := show CF (v2 v 203 0 0) from (show CF (v2 v 203 0 0) from CF.of hp_b (fun k h1 h2 => by rw [v2_row (by omega)]))
      refine r_call (m := 233) (args := [.inr (.inr (some 203)), .inl (1 + k), .inl 0]) (n' := 328) (pc' := 40) (lo' := [some (.inr (.inr (some 203))), some (.inl k)]) (st' := []) (I := .invokevirtual 233) (pc0 := 37) (len := 3) rfl rfl rfl (e_mo_copyBay hX_1 hp_6 hp_7 hp_8) ?_
      show WV _ _ _ 40 _ [] _ (mo_copyBay (v2 v 203 0 0) (1 + k) 0) _
      have hX_9 : XI (mo_copyBay (v2 v 203 0 0) (1 + k) 0) := i_mo_copyBay (v := (v2 v 203 0 0)) (i := (1 + k)) (o := 0) hX_1 hp_6 hp_7 hp_8
      have hl_10 := n_mo_copyBay (v := (v2 v 203 0 0)) (i := (1 + k)) (o := 0) hX_1 hp_6 hp_7 hp_8
      refine r_ex 1 (pc' := 41) (lo' := [some (.inr (.inr (some 203))), some (.inl k)]) (st' := [.inl 0]) rfl ?_
      refine r_ret (rr := some (.inl 0)) (I := .ireturn) (pc0 := 41) (len := 1) rfl rfl ?_
      exact hQ hX_9 (hl_10)
    · show WV _ _ _ 29 _ _ _ _ _
      rw [if_pos h_26] at hQ
      refine r_ex 1 (pc' := 31) (lo' := [some (.inr (.inr (some 203))), some (.inl k)]) (st' := [.inl (-6)]) rfl ?_
      refine r_ret (rr := some (.inl (-6))) (I := .ireturn) (pc0 := 31) (len := 1) rfl rfl ?_
      exact hQ hX_1 (show CF (v2 v 203 0 0) from (show CF (v2 v 203 0 0) from CF.of hp_b (fun k h1 h2 => by rw [v2_row (by omega)])))
  · show WV _ _ _ 14 _ _ _ _ _
    rw [if_neg h_11] at hQ
    refine r_ex 2 (pc' := 19) (lo' := [some (.inr (.inr (some 203))), some (.inl k)]) (st' := [.inl (-2)]) rfl ?_
    refine r_ret (rr := some (.inl (-2))) (I := .ireturn) (pc0 := 19) (len := 1) rfl rfl ?_
    exact hQ hX_1 (show CF (v2 v 203 0 0) from (show CF (v2 v 203 0 0) from CF.of hp_b (fun k h1 h2 => by rw [v2_row (by omega)])))

theorem e_mo_back {X : PX} {d b : Nat} {v : VS} {k : Int} (hX : XI v) (hp_a : R32 k) (hp_b : CF v) : EvV X (d + 1 + 1) 328 [.inr (.inr (some 203)), .inl k] b v (some (.inl (mo_back v k).1)) b ((mo_back v k).2) := EvV.of (w_mo_back hX hp_a hp_b (fun _ _ => ⟨rfl, rfl, rfl⟩))

theorem i_mo_back {v : VS} {k : Int} (hX : XI v) (hp_a : R32 k) (hp_b : CF v) : XI ((mo_back v k).2) := by
  have q : WV (0, fun _ => 0, none) (0 + 1 + 1) 328 0 [some (.inr (.inr (some 203))), some (.inl k)] [] 1 v (fun _ _ _ => XI ((mo_back v k).2)) := w_mo_back (X := (0, fun _ => 0, none)) (d := 0) (b := 1) hX hp_a hp_b (fun q _ => q)
  obtain ⟨_, _, _, _, _, _, _, q⟩ := q
  exact q

theorem n_mo_back {v : VS} {k : Int} (hX : XI v) (hp_a : R32 k) (hp_b : CF v) : CF ((mo_back v k).2) := by
  have q : WV (0, fun _ => 0, none) (0 + 1 + 1) 328 0 [some (.inr (.inr (some 203))), some (.inl k)] [] 1 v (fun _ _ _ => CF ((mo_back v k).2)) := w_mo_back (X := (0, fun _ => 0, none)) (d := 0) (b := 1) hX hp_a hp_b (fun _ q => q)
  obtain ⟨_, _, _, _, _, _, _, q⟩ := q
  exact q

theorem o_mo_back {rk : Nat} {v : VS} {k : Int} (hk : (rk < 203 ∨ 203 < rk) ∧ (rk < 209 ∨ 217 < rk)) : (mo_back v k).2 rk = v rk := by
  unfold mo_back
  by_cases hc_ : (0 : Int) ≤ k ∧ k ≤ (2 : Int)
  · rw [if_pos hc_] <;> clear hc_
    by_cases hc_ : (v 218 ((k).toNat)) = 0
    · rw [if_pos hc_] <;> clear hc_
      all_goals (show (v2 v 203 0 0) rk = _)
      all_goals (rw [v2_row (by omega)])
    · rw [if_neg hc_] <;> clear hc_
      all_goals (show (mo_copyBay (v2 v 203 0 0) (1 + k) 0) rk = _)
      all_goals (rw [o_mo_copyBay (by omega), v2_row (by omega)])
  · rw [if_neg hc_] <;> clear hc_
    all_goals (show (v2 v 203 0 0) rk = _)
    all_goals (rw [v2_row (by omega)])

noncomputable def mo_row_57 : Nat → VS → Int → Int → Int → VS
  | 0, v, s, n, k => v
  | f + 1, v, s, n, k => (if k < n then (mo_row_57 f (v2 v 206 ((((60 * s) + k)).toNat) 0) s n (k + 1)) else v)
noncomputable def mo_row (v : VS) (s : Int) (w : Int) (n : Int) : Int × VS :=
  (if 0 ≤ s ∧ s ≤ 3 then (if (0 : Int) ≤ w ∧ w ≤ (3 : Int) then (if 60 < n then ((-2), (v2 v 203 0 0)) else (if n < 0 then ((-3), (v2 v 203 0 0)) else (0, (mo_row_57 61 (v2 (v2 (v2 v 203 0 0) 204 ((s).toNat) w) 205 ((s).toNat) n) s n 0)))) else ((-2), (v2 v 203 0 0))) else ((-2), (v2 v 203 0 0)))
theorem l_mo_row_57 {X : PX} {d b : Nat} {Q : Option PV → Nat → VS → Prop}  : ∀ (f : Nat) (v : VS) (s : Int) (n : Int) (k : Int) (o2 : Option PV), XI v → (0 ≤ s ∧ s ≤ 3) → (0 ≤ n ∧ n ≤ 60) → (0 ≤ k ∧ k ≤ 60) → (60 < k + f) → (∀ qx4 : Option PV, XI (mo_row_57 f v s n k) → WV X (d + 1 + 1) 200 82 [some (.inr (.inr (some 203))), some (.inl s), o2, some (.inl n), qx4] [] b (mo_row_57 f v s n k) Q) → WV X (d + 1 + 1) 200 57 [some (.inr (.inr (some 203))), some (.inl s), o2, some (.inl n), some (.inl k)] [] b v Q := by
  intro f
  induction f with
  | zero =>
    intro v s n k o2 hX hi_0 hi_1 hi_2 hf hK
    exfalso
    omega
  | succ f ih =>
    intro v s n k o2 hX hi_0 hi_1 hi_2 hf hK
    rw [mo_row_57] at hK
    refine r_ex 2 (pc' := 60) (lo' := [some (.inr (.inr (some 203))), some (.inl s), o2, some (.inl n), some (.inl k)]) (st' := [.inl n, .inl k]) rfl ?_
    refine n_ic_ge (pc0 := 60) (len := 3) (t := 82) rfl (by first | assumption | omega | (unfold R32 at *; omega) | (unfold R64 at *; omega) | (simp only [R32, R64] at *; omega)) (by first | assumption | omega | (unfold R32 at *; omega) | (unfold R64 at *; omega) | (simp only [R32, R64] at *; omega)) (fun h_60 => ?_) (fun h_60 => ?_)
    · show WV _ _ _ 82 _ _ _ _ _
      rw [if_neg h_60] at hK
      exact hK _ hX 
    · show WV _ _ _ 63 _ _ _ _ _
      rw [if_pos h_60] at hK
      refine r_ex 8 (pc' := 75) (lo' := [some (.inr (.inr (some 203))), some (.inl s), o2, some (.inl n), some (.inl k)]) (st' := [.inr (.inl 0), .inl ((60 * s) + k), .inr (.inr (some 206))]) rfl ?_
      refine r_last2 (pc' := 76) (pc0 := 75) (len := 1) rfl (s_206 _) (by first | assumption | omega | (unfold R32 at *; omega) | (unfold R64 at *; omega) | (simp only [R32, R64] at *; omega)) (by decide) rfl ?_
      have hX_8 : XI (v2 v 206 ((((60 * s) + k)).toNat) 0) := XI.put hX (show -9223372036854775808 ≤ 0 ∧ 0 ≤ 9223372036854775807 from (by first | assumption | omega | (unfold R32 at *; omega) | (unfold R64 at *; omega) | (simp only [R32, R64] at *; omega)))
      refine r_ex 2 (pc' := 57) (lo' := [some (.inr (.inr (some 203))), some (.inl s), o2, some (.inl n), some (.inl (k + 1))]) (st' := []) rfl ?_
      refine ih (v2 v 206 ((((60 * s) + k)).toNat) 0) s n (k + 1) _ hX_8 (by first | assumption | omega | (unfold R32 at *; omega) | (unfold R64 at *; omega) | (simp only [R32, R64] at *; omega)) (by first | assumption | omega | (unfold R32 at *; omega) | (unfold R64 at *; omega) | (simp only [R32, R64] at *; omega)) (by first | assumption | omega | (unfold R32 at *; omega) | (unfold R64 at *; omega) | (simp only [R32, R64] at *; omega)) (by first | assumption | omega | (unfold R32 at *; omega) | (unfold R64 at *; omega) | (simp only [R32, R64] at *; omega)) hK

theorem of_mo_row_57 {rk : Nat} (hk : (rk < 206 ∨ 206 < rk)) : ∀ (f : Nat) {v : VS} {s : Int} {n : Int} {k : Int}, (mo_row_57 f v s n k) rk = v rk := by
  intro f
  induction f with
  | zero => intro v s n k; rfl
  | succ f ih =>
    intro v s n k
    rw [mo_row_57]
    by_cases hc_ : k < n
    · rw [if_pos hc_] <;> clear hc_
      all_goals (rw [ih, v2_row (by omega)])
    · rw [if_neg hc_] <;> clear hc_
      all_goals (show v rk = _)
      all_goals rfl
theorem o_mo_row_57 {rk : Nat} {f : Nat} {v : VS} {s : Int} {n : Int} {k : Int} (hk : (rk < 206 ∨ 206 < rk)) : (mo_row_57 f v s n k) rk = v rk := of_mo_row_57 hk f

theorem w_mo_row {X : PX} {d b : Nat} {v : VS} {s : Int} {w : Int} {n : Int} (hX : XI v) (hp_a : R32 s) (hp_b : R32 w) (hp_c : R32 n) {Q : Option PV → Nat → VS → Prop} (hQ : XI (mo_row v s w n).2 → Q (some (.inl (mo_row v s w n).1)) b (mo_row v s w n).2) : WV X (d + 1 + 1) 200 0 [some (.inr (.inr (some 203))), some (.inl s), some (.inl w), some (.inl n), none] [] b v Q := by
  rw [mo_row] at hQ
  refine r_ex 2 (pc' := 2) (lo' := [some (.inr (.inr (some 203))), some (.inl s), some (.inl w), some (.inl n), none]) (st' := [.inl 0, .inr (.inr (some 203))]) rfl ?_
  refine r_puti2 (j := 0) (pc' := 5) (pc0 := 2) (len := 3) rfl (s_203 _) rfl rfl rfl (Or.inl rfl) rfl rfl ?_
  have hX_1 : XI (v2 v 203 0 0) := XI.put hX trivial
  refine r_ex 1 (pc' := 6) (lo' := [some (.inr (.inr (some 203))), some (.inl s), some (.inl w), some (.inl n), none]) (st' := [.inl s]) rfl ?_
  have hp_2 : R32 s := (by first | assumption | omega | (unfold R32 at *; omega) | (unfold R64 at *; omega) | (simp only [R32, R64] at *; omega))
  refine r_callb (P := 0 ≤ s ∧ s ≤ 3) (m := 201) (args := [.inl s]) (n' := 200) (pc' := 9) (lo' := [some (.inr (.inr (some 203))), some (.inl s), some (.inl w), some (.inl n), none]) (st' := []) (I := .invokestatic 201) (pc0 := 6) (len := 3) rfl rfl rfl (e_mo_isSlot hX_1 hp_2) (fun h_6 => ?_) (fun h_6 => ?_)
  · show WV _ _ _ 9 _ _ _ _ _
    rw [if_pos h_6] at hQ
    refine r_ex 2 (pc' := 13) (lo' := [some (.inr (.inr (some 203))), some (.inl s), some (.inl w), some (.inl n), none]) (st' := [.inl w]) rfl ?_
    refine n_i2l (pc' := 14) (pc0 := 13) (len := 1) rfl (by first | assumption | omega | (unfold R32 at *; omega) | (unfold R64 at *; omega) | (simp only [R32, R64] at *; omega)) rfl ?_
    refine r_ex 2 (pc' := 18) (lo' := [some (.inr (.inr (some 203))), some (.inl s), some (.inl w), some (.inl n), none]) (st' := [.inr (.inl 3), .inr (.inl 0), .inr (.inl w)]) rfl ?_
    have hp_3 : R64 w := (by first | assumption | omega | (unfold R32 at *; omega) | (unfold R64 at *; omega) | (simp only [R32, R64] at *; omega))
    have hp_4 : R64 (0 : Int) := (by first | assumption | omega | (unfold R32 at *; omega) | (unfold R64 at *; omega) | (simp only [R32, R64] at *; omega))
    have hp_5 : R64 (3 : Int) := (by first | assumption | omega | (unfold R32 at *; omega) | (unfold R64 at *; omega) | (simp only [R32, R64] at *; omega))
    refine r_callb (P := (0 : Int) ≤ w ∧ w ≤ (3 : Int)) (m := 202) (args := [.inr (.inl w), .inr (.inl 0), .inr (.inl 3)]) (n' := 200) (pc' := 21) (lo' := [some (.inr (.inr (some 203))), some (.inl s), some (.inl w), some (.inl n), none]) (st' := []) (I := .invokestatic 202) (pc0 := 18) (len := 3) rfl rfl rfl (e_mo_in hX_1 hp_3 hp_4 hp_5) (fun h_18 => ?_) (fun h_18 => ?_)
    · show WV _ _ _ 21 _ _ _ _ _
      rw [if_pos h_18] at hQ
      refine r_ex 3 (pc' := 27) (lo' := [some (.inr (.inr (some 203))), some (.inl s), some (.inl w), some (.inl n), none]) (st' := [.inl 60, .inl n]) rfl ?_
      refine n_ic_le (pc0 := 27) (len := 3) (t := 33) rfl (by first | assumption | omega | (unfold R32 at *; omega) | (unfold R64 at *; omega) | (simp only [R32, R64] at *; omega)) (by first | assumption | omega | (unfold R32 at *; omega) | (unfold R64 at *; omega) | (simp only [R32, R64] at *; omega)) (fun h_27 => ?_) (fun h_27 => ?_)
      · show WV _ _ _ 33 _ _ _ _ _
        rw [if_neg h_27] at hQ
        refine r_ex 1 (pc' := 34) (lo' := [some (.inr (.inr (some 203))), some (.inl s), some (.inl w), some (.inl n), none]) (st' := [.inl n]) rfl ?_
        refine n_if_ge (pc0 := 34) (len := 3) (t := 40) rfl (by first | assumption | omega | (unfold R32 at *; omega) | (unfold R64 at *; omega) | (simp only [R32, R64] at *; omega)) (fun h_34 => ?_) (fun h_34 => ?_)
        · show WV _ _ _ 40 _ _ _ _ _
          rw [if_neg h_34] at hQ
          refine r_ex 4 (pc' := 46) (lo' := [some (.inr (.inr (some 203))), some (.inl s), some (.inl w), some (.inl n), none]) (st' := [.inl w, .inl s, .inr (.inr (some 204))]) rfl ?_
          refine r_iast2 (pc' := 47) (pc0 := 46) (len := 1) rfl (s_204 _) (by first | assumption | omega | (unfold R32 at *; omega) | (unfold R64 at *; omega) | (simp only [R32, R64] at *; omega)) (by decide) rfl ?_
          have hX_6 : XI (v2 (v2 v 203 0 0) 204 ((s).toNat) w) := XI.put hX_1 (show -1 ≤ w ∧ w ≤ 3 from (by first | assumption | omega | (unfold R32 at *; omega) | (unfold R64 at *; omega) | (simp only [R32, R64] at *; omega)))
          refine r_ex 4 (pc' := 53) (lo' := [some (.inr (.inr (some 203))), some (.inl s), some (.inl w), some (.inl n), none]) (st' := [.inl n, .inl s, .inr (.inr (some 205))]) rfl ?_
          refine r_iast2 (pc' := 54) (pc0 := 53) (len := 1) rfl (s_205 _) (by first | assumption | omega | (unfold R32 at *; omega) | (unfold R64 at *; omega) | (simp only [R32, R64] at *; omega)) (by decide) rfl ?_
          have hX_7 : XI (v2 (v2 (v2 v 203 0 0) 204 ((s).toNat) w) 205 ((s).toNat) n) := XI.put hX_6 (show 0 ≤ n ∧ n ≤ 60 from (by first | assumption | omega | (unfold R32 at *; omega) | (unfold R64 at *; omega) | (simp only [R32, R64] at *; omega)))
          refine r_ex 2 (pc' := 57) (lo' := [some (.inr (.inr (some 203))), some (.inl s), some (.inl w), some (.inl n), some (.inl 0)]) (st' := []) rfl ?_
          refine l_mo_row_57 61 (v2 (v2 (v2 v 203 0 0) 204 ((s).toNat) w) 205 ((s).toNat) n) s n 0 _ hX_7 (by first | assumption | omega | (unfold R32 at *; omega) | (unfold R64 at *; omega) | (simp only [R32, R64] at *; omega)) (by first | assumption | omega | (unfold R32 at *; omega) | (unfold R64 at *; omega) | (simp only [R32, R64] at *; omega)) (by first | assumption | omega | (unfold R32 at *; omega) | (unfold R64 at *; omega) | (simp only [R32, R64] at *; omega)) (by first | assumption | omega | (unfold R32 at *; omega) | (unfold R64 at *; omega) | (simp only [R32, R64] at *; omega)) (fun o4_9 hX_9  => ?_)
          show WV _ _ _ 82 _ _ _ _ _
          refine r_ex 1 (pc' := 83) (lo' := [some (.inr (.inr (some 203))), some (.inl s), some (.inl w), some (.inl n), o4_9]) (st' := [.inl 0]) rfl ?_
          refine r_ret (rr := some (.inl 0)) (I := .ireturn) (pc0 := 83) (len := 1) rfl rfl ?_
          exact hQ hX_9 
        · show WV _ _ _ 37 _ _ _ _ _
          rw [if_pos h_34] at hQ
          refine r_ex 1 (pc' := 39) (lo' := [some (.inr (.inr (some 203))), some (.inl s), some (.inl w), some (.inl n), none]) (st' := [.inl (-3)]) rfl ?_
          refine r_ret (rr := some (.inl (-3))) (I := .ireturn) (pc0 := 39) (len := 1) rfl rfl ?_
          exact hQ hX_1 
      · show WV _ _ _ 30 _ _ _ _ _
        rw [if_pos h_27] at hQ
        refine r_ex 1 (pc' := 32) (lo' := [some (.inr (.inr (some 203))), some (.inl s), some (.inl w), some (.inl n), none]) (st' := [.inl (-2)]) rfl ?_
        refine r_ret (rr := some (.inl (-2))) (I := .ireturn) (pc0 := 32) (len := 1) rfl rfl ?_
        exact hQ hX_1 
    · show WV _ _ _ 21 _ _ _ _ _
      rw [if_neg h_18] at hQ
      refine r_ex 2 (pc' := 32) (lo' := [some (.inr (.inr (some 203))), some (.inl s), some (.inl w), some (.inl n), none]) (st' := [.inl (-2)]) rfl ?_
      refine r_ret (rr := some (.inl (-2))) (I := .ireturn) (pc0 := 32) (len := 1) rfl rfl ?_
      exact hQ hX_1 
  · show WV _ _ _ 9 _ _ _ _ _
    rw [if_neg h_6] at hQ
    refine r_ex 2 (pc' := 32) (lo' := [some (.inr (.inr (some 203))), some (.inl s), some (.inl w), some (.inl n), none]) (st' := [.inl (-2)]) rfl ?_
    refine r_ret (rr := some (.inl (-2))) (I := .ireturn) (pc0 := 32) (len := 1) rfl rfl ?_
    exact hQ hX_1 

theorem e_mo_row {X : PX} {d b : Nat} {v : VS} {s : Int} {w : Int} {n : Int} (hX : XI v) (hp_a : R32 s) (hp_b : R32 w) (hp_c : R32 n) : EvV X (d + 1 + 1) 200 [.inr (.inr (some 203)), .inl s, .inl w, .inl n] b v (some (.inl (mo_row v s w n).1)) b ((mo_row v s w n).2) := EvV.of (w_mo_row hX hp_a hp_b hp_c (fun _ => ⟨rfl, rfl, rfl⟩))

theorem i_mo_row {v : VS} {s : Int} {w : Int} {n : Int} (hX : XI v) (hp_a : R32 s) (hp_b : R32 w) (hp_c : R32 n) : XI ((mo_row v s w n).2) := by
  have q : WV (0, fun _ => 0, none) (0 + 1 + 1) 200 0 [some (.inr (.inr (some 203))), some (.inl s), some (.inl w), some (.inl n), none] [] 1 v (fun _ _ _ => XI ((mo_row v s w n).2)) := w_mo_row (X := (0, fun _ => 0, none)) (d := 0) (b := 1) hX hp_a hp_b hp_c (fun q => q)
  obtain ⟨_, _, _, _, _, _, _, q⟩ := q
  exact q

theorem o_mo_row {rk : Nat} {v : VS} {s : Int} {w : Int} {n : Int} (hk : (rk < 203 ∨ 206 < rk)) : (mo_row v s w n).2 rk = v rk := by
  unfold mo_row
  by_cases hc_ : 0 ≤ s ∧ s ≤ 3
  · rw [if_pos hc_] <;> clear hc_
    by_cases hc_ : (0 : Int) ≤ w ∧ w ≤ (3 : Int)
    · rw [if_pos hc_] <;> clear hc_
      by_cases hc_ : 60 < n
      · rw [if_pos hc_] <;> clear hc_
        all_goals (show (v2 v 203 0 0) rk = _)
        all_goals (rw [v2_row (by omega)])
      · rw [if_neg hc_] <;> clear hc_
        by_cases hc_ : n < 0
        · rw [if_pos hc_] <;> clear hc_
          all_goals (show (v2 v 203 0 0) rk = _)
          all_goals (rw [v2_row (by omega)])
        · rw [if_neg hc_] <;> clear hc_
          all_goals (show (mo_row_57 61 (v2 (v2 (v2 v 203 0 0) 204 ((s).toNat) w) 205 ((s).toNat) n) s n 0) rk = _)
          all_goals (rw [o_mo_row_57 (by omega), v2_row (by omega), v2_row (by omega), v2_row (by omega)])
    · rw [if_neg hc_] <;> clear hc_
      all_goals (show (v2 v 203 0 0) rk = _)
      all_goals (rw [v2_row (by omega)])
  · rw [if_neg hc_] <;> clear hc_
    all_goals (show (v2 v 203 0 0) rk = _)
    all_goals (rw [v2_row (by omega)])

noncomputable def mo_cutL (v : VS) (y : Int) (w : Int) : Int :=
  (if w = 0 then (w8 y) else (if w = 1 then (w16 y) else (if w = 2 then (w32 y) else y)))
theorem w_mo_cutL {X : PX} {d b : Nat} {v : VS} {y : Int} {w : Int} (hX : XI v) (hp_a : R64 y) (hp_b : R32 w) {Q : Option PV → Nat → VS → Prop} (hQ : (R64 (mo_cutL v y w)) → Q (some (.inr (.inl (mo_cutL v y w)))) b v) : WV X d 204 0 [some (.inr (.inl y)), none, some (.inl w)] [] b v Q := by
  rw [mo_cutL] at hQ
  refine r_ex 1 (pc' := 1) (lo' := [some (.inr (.inl y)), none, some (.inl w)]) (st' := [.inl w]) rfl ?_
  refine n_if_ne (pc0 := 1) (len := 3) (t := 11) rfl (by first | assumption | omega | (unfold R32 at *; omega) | (unfold R64 at *; omega) | (simp only [R32, R64] at *; omega)) (fun h_1 => ?_) (fun h_1 => ?_)
  · show WV _ _ _ 11 _ _ _ _ _
    rw [if_neg h_1] at hQ
    refine r_ex 2 (pc' := 13) (lo' := [some (.inr (.inl y)), none, some (.inl w)]) (st' := [.inl 1, .inl w]) rfl ?_
    refine n_ic_ne (pc0 := 13) (len := 3) (t := 23) rfl (by first | assumption | omega | (unfold R32 at *; omega) | (unfold R64 at *; omega) | (simp only [R32, R64] at *; omega)) (by first | assumption | omega | (unfold R32 at *; omega) | (unfold R64 at *; omega) | (simp only [R32, R64] at *; omega)) (fun h_13 => ?_) (fun h_13 => ?_)
    · show WV _ _ _ 23 _ _ _ _ _
      rw [if_neg h_13] at hQ
      refine r_ex 2 (pc' := 25) (lo' := [some (.inr (.inl y)), none, some (.inl w)]) (st' := [.inl 2, .inl w]) rfl ?_
      refine n_ic_ne (pc0 := 25) (len := 3) (t := 34) rfl (by first | assumption | omega | (unfold R32 at *; omega) | (unfold R64 at *; omega) | (simp only [R32, R64] at *; omega)) (by first | assumption | omega | (unfold R32 at *; omega) | (unfold R64 at *; omega) | (simp only [R32, R64] at *; omega)) (fun h_25 => ?_) (fun h_25 => ?_)
      · show WV _ _ _ 34 _ _ _ _ _
        rw [if_neg h_25] at hQ
        refine r_ex 1 (pc' := 35) (lo' := [some (.inr (.inl y)), none, some (.inl w)]) (st' := [.inr (.inl y)]) rfl ?_
        refine r_ret (rr := some (.inr (.inl y))) (I := .lreturn) (pc0 := 35) (len := 1) rfl rfl ?_
        exact hQ (by first | assumption | omega | (unfold R32 at *; omega) | (unfold R64 at *; omega) | (simp only [R32, R64] at *; omega))
      · show WV _ _ _ 28 _ _ _ _ _
        rw [if_pos h_25] at hQ
        refine r_ex 2 (pc' := 30) (lo' := [some (.inr (.inl y)), none, some (.inl w)]) (st' := [.inl y]) rfl ?_
        refine n_i2w (pc' := 31) (pc0 := 30) (len := 1) rfl rfl ?_
        have hb_1 := w32_in y
        refine r_ex 1 (pc' := 35) (lo' := [some (.inr (.inl y)), none, some (.inl w)]) (st' := [.inr (.inl (w32 y))]) rfl ?_
        refine r_ret (rr := some (.inr (.inl (w32 y)))) (I := .lreturn) (pc0 := 35) (len := 1) rfl rfl ?_
        exact hQ (by first | assumption | omega | (unfold R32 at *; omega) | (unfold R64 at *; omega) | (simp only [R32, R64] at *; omega))
    · show WV _ _ _ 16 _ _ _ _ _
      rw [if_pos h_13] at hQ
      refine r_ex 3 (pc' := 19) (lo' := [some (.inr (.inl y)), none, some (.inl w)]) (st' := [.inl (w16 y)]) rfl ?_
      have hb_2 := w16_in y
      refine n_i2l (pc' := 20) (pc0 := 19) (len := 1) rfl (by first | assumption | omega | (unfold R32 at *; omega) | (unfold R64 at *; omega) | (simp only [R32, R64] at *; omega)) rfl ?_
      refine r_ex 1 (pc' := 35) (lo' := [some (.inr (.inl y)), none, some (.inl w)]) (st' := [.inr (.inl (w16 y))]) rfl ?_
      refine r_ret (rr := some (.inr (.inl (w16 y)))) (I := .lreturn) (pc0 := 35) (len := 1) rfl rfl ?_
      exact hQ (by first | assumption | omega | (unfold R32 at *; omega) | (unfold R64 at *; omega) | (simp only [R32, R64] at *; omega))
  · show WV _ _ _ 4 _ _ _ _ _
    rw [if_pos h_1] at hQ
    refine r_ex 3 (pc' := 7) (lo' := [some (.inr (.inl y)), none, some (.inl w)]) (st' := [.inl (w8 y)]) rfl ?_
    have hb_3 := w8_in y
    refine n_i2l (pc' := 8) (pc0 := 7) (len := 1) rfl (by first | assumption | omega | (unfold R32 at *; omega) | (unfold R64 at *; omega) | (simp only [R32, R64] at *; omega)) rfl ?_
    refine r_ex 1 (pc' := 35) (lo' := [some (.inr (.inl y)), none, some (.inl w)]) (st' := [.inr (.inl (w8 y))]) rfl ?_
    refine r_ret (rr := some (.inr (.inl (w8 y)))) (I := .lreturn) (pc0 := 35) (len := 1) rfl rfl ?_
    exact hQ (by first | assumption | omega | (unfold R32 at *; omega) | (unfold R64 at *; omega) | (simp only [R32, R64] at *; omega))

theorem e_mo_cutL {X : PX} {d b : Nat} {v : VS} {y : Int} {w : Int} (hX : XI v) (hp_a : R64 y) (hp_b : R32 w) : EvV X d 204 [.inr (.inl y), .inl w] b v (some (.inr (.inl (mo_cutL v y w)))) b v := EvV.of (w_mo_cutL hX hp_a hp_b (fun _ => ⟨rfl, rfl, rfl⟩))

theorem n_mo_cutL {v : VS} {y : Int} {w : Int} (hX : XI v) (hp_a : R64 y) (hp_b : R32 w) : R64 (mo_cutL v y w) := by
  have q : WV (0, fun _ => 0, none) 0 204 0 [some (.inr (.inl y)), none, some (.inl w)] [] 1 v (fun _ _ _ => R64 (mo_cutL v y w)) := w_mo_cutL (X := (0, fun _ => 0, none)) (d := 0) (b := 1) hX hp_a hp_b (fun q => q)
  obtain ⟨_, _, _, _, _, _, _, q⟩ := q
  exact q

noncomputable def mo_write (v : VS) (s : Int) (i : Int) (y : Int) : Int × VS :=
  (if 0 ≤ s ∧ s ≤ 3 then (if (v 204 ((s).toNat)) = (-1) then ((-6), (v2 v 203 0 0)) else (if (0 : Int) ≤ i ∧ i ≤ ((v 205 ((s).toNat)) - 1) then (0, (v2 (v2 v 203 0 0) 206 ((((60 * s) + i)).toNat) (mo_cutL (v2 v 203 0 0) y (v 204 ((s).toNat))))) else ((-7), (v2 v 203 0 0)))) else ((-2), (v2 v 203 0 0)))
theorem w_mo_write {X : PX} {d b : Nat} {v : VS} {s : Int} {i : Int} {y : Int} (hX : XI v) (hp_a : R32 s) (hp_b : R32 i) (hp_c : R64 y) {Q : Option PV → Nat → VS → Prop} (hQ : XI (mo_write v s i y).2 → Q (some (.inl (mo_write v s i y).1)) b (mo_write v s i y).2) : WV X (d + 1 + 1) 203 0 [some (.inr (.inr (some 203))), some (.inl s), some (.inl i), some (.inr (.inl y)), none] [] b v Q := by
  rw [mo_write] at hQ
  refine r_ex 2 (pc' := 2) (lo' := [some (.inr (.inr (some 203))), some (.inl s), some (.inl i), some (.inr (.inl y)), none]) (st' := [.inl 0, .inr (.inr (some 203))]) rfl ?_
  refine r_puti2 (j := 0) (pc' := 5) (pc0 := 2) (len := 3) rfl (s_203 _) rfl rfl rfl (Or.inl rfl) rfl rfl ?_
  have hX_1 : XI (v2 v 203 0 0) := XI.put hX trivial
  refine r_ex 1 (pc' := 6) (lo' := [some (.inr (.inr (some 203))), some (.inl s), some (.inl i), some (.inr (.inl y)), none]) (st' := [.inl s]) rfl ?_
  have hp_2 : R32 s := (by first | assumption | omega | (unfold R32 at *; omega) | (unfold R64 at *; omega) | (simp only [R32, R64] at *; omega))
  refine r_callb (P := 0 ≤ s ∧ s ≤ 3) (m := 201) (args := [.inl s]) (n' := 203) (pc' := 9) (lo' := [some (.inr (.inr (some 203))), some (.inl s), some (.inl i), some (.inr (.inl y)), none]) (st' := []) (I := .invokestatic 201) (pc0 := 6) (len := 3) rfl rfl rfl (e_mo_isSlot hX_1 hp_2) (fun h_6 => ?_) (fun h_6 => ?_)
  · show WV _ _ _ 9 _ _ _ _ _
    rw [if_pos h_6] at hQ
    refine r_ex 4 (pc' := 20) (lo' := [some (.inr (.inr (some 203))), some (.inl s), some (.inl i), some (.inr (.inl y)), none]) (st' := [.inl s, .inr (.inr (some 204))]) rfl ?_
    refine r_iald2 (j := 0) (x := (v 204 ((s).toNat))) (pc' := 21) (pc0 := 20) (len := 1) rfl (s_204 _) (by first | assumption | omega | (unfold R32 at *; omega) | (unfold R64 at *; omega) | (simp only [R32, R64] at *; omega)) (by decide) rfl rfl ?_
    have hb_3 : -1 ≤ (v 204 ((s).toNat)) ∧ (v 204 ((s).toNat)) ≤ 3 := hX_1 204 ((s).toNat)
    refine r_ex 1 (pc' := 22) (lo' := [some (.inr (.inr (some 203))), some (.inl s), some (.inl i), some (.inr (.inl y)), none]) (st' := [.inl (-1), .inl (v 204 ((s).toNat))]) rfl ?_
    refine n_ic_ne (pc0 := 22) (len := 3) (t := 28) rfl (by first | assumption | omega | (unfold R32 at *; omega) | (unfold R64 at *; omega) | (simp only [R32, R64] at *; omega)) (by first | assumption | omega | (unfold R32 at *; omega) | (unfold R64 at *; omega) | (simp only [R32, R64] at *; omega)) (fun h_22 => ?_) (fun h_22 => ?_)
    · show WV _ _ _ 28 _ _ _ _ _
      rw [if_neg h_22] at hQ
      refine r_ex 1 (pc' := 29) (lo' := [some (.inr (.inr (some 203))), some (.inl s), some (.inl i), some (.inr (.inl y)), none]) (st' := [.inl i]) rfl ?_
      refine n_i2l (pc' := 30) (pc0 := 29) (len := 1) rfl (by first | assumption | omega | (unfold R32 at *; omega) | (unfold R64 at *; omega) | (simp only [R32, R64] at *; omega)) rfl ?_
      refine r_ex 4 (pc' := 36) (lo' := [some (.inr (.inr (some 203))), some (.inl s), some (.inl i), some (.inr (.inl y)), none]) (st' := [.inl s, .inr (.inr (some 205)), .inr (.inl 0), .inr (.inl i)]) rfl ?_
      refine r_iald2 (j := 0) (x := (v 205 ((s).toNat))) (pc' := 37) (pc0 := 36) (len := 1) rfl (s_205 _) (by first | assumption | omega | (unfold R32 at *; omega) | (unfold R64 at *; omega) | (simp only [R32, R64] at *; omega)) (by decide) rfl rfl ?_
      have hb_4 : 0 ≤ (v 205 ((s).toNat)) ∧ (v 205 ((s).toNat)) ≤ 60 := hX_1 205 ((s).toNat)
      refine r_ex 2 (pc' := 39) (lo' := [some (.inr (.inr (some 203))), some (.inl s), some (.inl i), some (.inr (.inl y)), none]) (st' := [.inl ((v 205 ((s).toNat)) - 1), .inr (.inl 0), .inr (.inl i)]) rfl ?_
      refine n_i2l (pc' := 40) (pc0 := 39) (len := 1) rfl (by first | assumption | omega | (unfold R32 at *; omega) | (unfold R64 at *; omega) | (simp only [R32, R64] at *; omega)) rfl ?_
      have hp_5 : R64 i := (by first | assumption | omega | (unfold R32 at *; omega) | (unfold R64 at *; omega) | (simp only [R32, R64] at *; omega))
      have hp_6 : R64 (0 : Int) := (by first | assumption | omega | (unfold R32 at *; omega) | (unfold R64 at *; omega) | (simp only [R32, R64] at *; omega))
      have hp_7 : R64 ((v 205 ((s).toNat)) - 1) := (by first | assumption | omega | (unfold R32 at *; omega) | (unfold R64 at *; omega) | (simp only [R32, R64] at *; omega))
      refine r_callb (P := (0 : Int) ≤ i ∧ i ≤ ((v 205 ((s).toNat)) - 1)) (m := 202) (args := [.inr (.inl i), .inr (.inl 0), .inr (.inl ((v 205 ((s).toNat)) - 1))]) (n' := 203) (pc' := 43) (lo' := [some (.inr (.inr (some 203))), some (.inl s), some (.inl i), some (.inr (.inl y)), none]) (st' := []) (I := .invokestatic 202) (pc0 := 40) (len := 3) rfl rfl rfl (e_mo_in hX_1 hp_5 hp_6 hp_7) (fun h_40 => ?_) (fun h_40 => ?_)
      · show WV _ _ _ 43 _ _ _ _ _
        rw [if_pos h_40] at hQ
        refine r_ex 12 (pc' := 65) (lo' := [some (.inr (.inr (some 203))), some (.inl s), some (.inl i), some (.inr (.inl y)), none]) (st' := [.inl s, .inr (.inr (some 204)), .inr (.inl y), .inl ((60 * s) + i), .inr (.inr (some 206))]) rfl ?_
        refine r_iald2 (j := 0) (x := (v 204 ((s).toNat))) (pc' := 66) (pc0 := 65) (len := 1) rfl (s_204 _) (by first | assumption | omega | (unfold R32 at *; omega) | (unfold R64 at *; omega) | (simp only [R32, R64] at *; omega)) (by decide) rfl rfl ?_
        have hp_8 : R64 y := (by first | assumption | omega | (unfold R32 at *; omega) | (unfold R64 at *; omega) | (simp only [R32, R64] at *; omega))
        have hp_9 : R32 (v 204 ((s).toNat)) := (by first | assumption | omega | (unfold R32 at *; omega) | (unfold R64 at *; omega) | (simp only [R32, R64] at *; omega))
        refine r_call (m := 204) (args := [.inr (.inl y), .inl (v 204 ((s).toNat))]) (n' := 203) (pc' := 69) (lo' := [some (.inr (.inr (some 203))), some (.inl s), some (.inl i), some (.inr (.inl y)), none]) (st' := [.inl ((60 * s) + i), .inr (.inr (some 206))]) (I := .invokestatic 204) (pc0 := 66) (len := 3) rfl rfl rfl (e_mo_cutL hX_1 hp_8 hp_9) ?_
        show WV _ _ _ 69 _ [.inr (.inl (mo_cutL (v2 v 203 0 0) y (v 204 ((s).toNat)))), .inl ((60 * s) + i), .inr (.inr (some 206))] _ _ _
        have hb_10 := n_mo_cutL (v := (v2 v 203 0 0)) (y := y) (w := (v 204 ((s).toNat))) hX_1 hp_8 hp_9
        refine r_last2 (pc' := 70) (pc0 := 69) (len := 1) rfl (s_206 _) (by first | assumption | omega | (unfold R32 at *; omega) | (unfold R64 at *; omega) | (simp only [R32, R64] at *; omega)) (by decide) rfl ?_
        have hX_11 : XI (v2 (v2 v 203 0 0) 206 ((((60 * s) + i)).toNat) (mo_cutL (v2 v 203 0 0) y (v 204 ((s).toNat)))) := XI.put hX_1 (show -9223372036854775808 ≤ (mo_cutL (v2 v 203 0 0) y (v 204 ((s).toNat))) ∧ (mo_cutL (v2 v 203 0 0) y (v 204 ((s).toNat))) ≤ 9223372036854775807 from (by first | assumption | omega | (unfold R32 at *; omega) | (unfold R64 at *; omega) | (simp only [R32, R64] at *; omega)))
        refine r_ex 1 (pc' := 71) (lo' := [some (.inr (.inr (some 203))), some (.inl s), some (.inl i), some (.inr (.inl y)), none]) (st' := [.inl 0]) rfl ?_
        refine r_ret (rr := some (.inl 0)) (I := .ireturn) (pc0 := 71) (len := 1) rfl rfl ?_
        exact hQ hX_11 
      · show WV _ _ _ 43 _ _ _ _ _
        rw [if_neg h_40] at hQ
        refine r_ex 2 (pc' := 48) (lo' := [some (.inr (.inr (some 203))), some (.inl s), some (.inl i), some (.inr (.inl y)), none]) (st' := [.inl (-7)]) rfl ?_
        refine r_ret (rr := some (.inl (-7))) (I := .ireturn) (pc0 := 48) (len := 1) rfl rfl ?_
        exact hQ hX_1 
    · show WV _ _ _ 25 _ _ _ _ _
      rw [if_pos h_22] at hQ
      refine r_ex 1 (pc' := 27) (lo' := [some (.inr (.inr (some 203))), some (.inl s), some (.inl i), some (.inr (.inl y)), none]) (st' := [.inl (-6)]) rfl ?_
      refine r_ret (rr := some (.inl (-6))) (I := .ireturn) (pc0 := 27) (len := 1) rfl rfl ?_
      exact hQ hX_1 
  · show WV _ _ _ 9 _ _ _ _ _
    rw [if_neg h_6] at hQ
    refine r_ex 2 (pc' := 14) (lo' := [some (.inr (.inr (some 203))), some (.inl s), some (.inl i), some (.inr (.inl y)), none]) (st' := [.inl (-2)]) rfl ?_
    refine r_ret (rr := some (.inl (-2))) (I := .ireturn) (pc0 := 14) (len := 1) rfl rfl ?_
    exact hQ hX_1 

theorem e_mo_write {X : PX} {d b : Nat} {v : VS} {s : Int} {i : Int} {y : Int} (hX : XI v) (hp_a : R32 s) (hp_b : R32 i) (hp_c : R64 y) : EvV X (d + 1 + 1) 203 [.inr (.inr (some 203)), .inl s, .inl i, .inr (.inl y)] b v (some (.inl (mo_write v s i y).1)) b ((mo_write v s i y).2) := EvV.of (w_mo_write hX hp_a hp_b hp_c (fun _ => ⟨rfl, rfl, rfl⟩))

theorem i_mo_write {v : VS} {s : Int} {i : Int} {y : Int} (hX : XI v) (hp_a : R32 s) (hp_b : R32 i) (hp_c : R64 y) : XI ((mo_write v s i y).2) := by
  have q : WV (0, fun _ => 0, none) (0 + 1 + 1) 203 0 [some (.inr (.inr (some 203))), some (.inl s), some (.inl i), some (.inr (.inl y)), none] [] 1 v (fun _ _ _ => XI ((mo_write v s i y).2)) := w_mo_write (X := (0, fun _ => 0, none)) (d := 0) (b := 1) hX hp_a hp_b hp_c (fun q => q)
  obtain ⟨_, _, _, _, _, _, _, q⟩ := q
  exact q

theorem o_mo_write {rk : Nat} {v : VS} {s : Int} {i : Int} {y : Int} (hk : (rk < 203 ∨ 203 < rk) ∧ (rk < 206 ∨ 206 < rk)) : (mo_write v s i y).2 rk = v rk := by
  unfold mo_write
  by_cases hc_ : 0 ≤ s ∧ s ≤ 3
  · rw [if_pos hc_] <;> clear hc_
    by_cases hc_ : (v 204 ((s).toNat)) = (-1)
    · rw [if_pos hc_] <;> clear hc_
      all_goals (show (v2 v 203 0 0) rk = _)
      all_goals (rw [v2_row (by omega)])
    · rw [if_neg hc_] <;> clear hc_
      by_cases hc_ : (0 : Int) ≤ i ∧ i ≤ ((v 205 ((s).toNat)) - 1)
      · rw [if_pos hc_] <;> clear hc_
        all_goals (show (v2 (v2 v 203 0 0) 206 ((((60 * s) + i)).toNat) (mo_cutL (v2 v 203 0 0) y (v 204 ((s).toNat)))) rk = _)
        all_goals (rw [v2_row (by omega), v2_row (by omega)])
      · rw [if_neg hc_] <;> clear hc_
        all_goals (show (v2 v 203 0 0) rk = _)
        all_goals (rw [v2_row (by omega)])
  · rw [if_neg hc_] <;> clear hc_
    all_goals (show (v2 v 203 0 0) rk = _)
    all_goals (rw [v2_row (by omega)])

noncomputable def mo_paste_118 : Nat → VS → Int → Int → Int → Int → Int → Int → VS
  | 0, v, s, i, o, k, n, x => v
  | f + 1, v, s, i, o, k, n, x => (if x < n then (mo_paste_118 f (v2 v 207 ((x).toNat) (v 206 (((((60 * s) + i) + x)).toNat))) s i o k n (x + 1)) else v)
noncomputable def mo_paste_155 : Nat → VS → Int → Int → Int → Int → VS
  | 0, v, o, k, n, x => v
  | f + 1, v, o, k, n, x => (if x < n then (mo_paste_155 f (v2 v 206 (((((60 * o) + k) + x)).toNat) (v 207 ((x).toNat))) o k n (x + 1)) else v)
noncomputable def mo_paste_152 (v : VS) (o : Int) (k : Int) (n : Int) : Int × VS :=
  (0, (mo_paste_155 61 v o k n 0))
noncomputable def mo_paste (v : VS) (s : Int) (i : Int) (o : Int) (k : Int) (n : Int) : Int × VS :=
  (if 0 ≤ s ∧ s ≤ 3 then (if 0 ≤ o ∧ o ≤ 3 then (if (v 204 ((s).toNat)) = (-1) then ((-6), (v2 v 203 0 0)) else (if (v 204 ((o).toNat)) = (-1) then ((-6), (v2 v 203 0 0)) else (if (v 204 ((s).toNat)) = (v 204 ((o).toNat)) then (if i < 0 then ((-7), (v2 v 203 0 0)) else (if k < 0 then ((-7), (v2 v 203 0 0)) else (if n < 0 then ((-7), (v2 v 203 0 0)) else (if (v 205 ((s).toNat)) < (i + n) then ((-7), (v2 v 203 0 0)) else (if (v 205 ((o).toNat)) < (k + n) then ((-7), (v2 v 203 0 0)) else (mo_paste_152  (mo_paste_118 61 (v2 v 203 0 0) s i o k n 0) o k n)))))) else ((-8), (v2 v 203 0 0))))) else ((-2), (v2 v 203 0 0))) else ((-2), (v2 v 203 0 0)))
theorem l_mo_paste_118 {X : PX} {d b : Nat} {Q : Option PV → Nat → VS → Prop}  : ∀ (f : Nat) (v : VS) (s : Int) (i : Int) (o : Int) (k : Int) (n : Int) (x : Int), XI v → (0 ≤ s ∧ s ≤ 3) → (0 ≤ o ∧ o ≤ 3) → (0 ≤ i ∧ i + n ≤ 60) → (0 ≤ k ∧ k + n ≤ 60) → (0 ≤ n ∧ n ≤ 60) → (0 ≤ x ∧ x ≤ 60) → (60 < x + f) → (∀ qx6 : Option PV, XI (mo_paste_118 f v s i o k n x) → WV X (d + 1 + 1) 205 152 [some (.inr (.inr (some 203))), some (.inl s), some (.inl i), some (.inl o), some (.inl k), some (.inl n), qx6] [] b (mo_paste_118 f v s i o k n x) Q) → WV X (d + 1 + 1) 205 118 [some (.inr (.inr (some 203))), some (.inl s), some (.inl i), some (.inl o), some (.inl k), some (.inl n), some (.inl x)] [] b v Q := by
  intro f
  induction f with
  | zero =>
    intro v s i o k n x hX hi_0 hi_1 hi_2 hi_3 hi_4 hi_5 hf hK
    exfalso
    omega
  | succ f ih =>
    intro v s i o k n x hX hi_0 hi_1 hi_2 hi_3 hi_4 hi_5 hf hK
    rw [mo_paste_118] at hK
    refine r_ex 2 (pc' := 122) (lo' := [some (.inr (.inr (some 203))), some (.inl s), some (.inl i), some (.inl o), some (.inl k), some (.inl n), some (.inl x)]) (st' := [.inl n, .inl x]) rfl ?_
    refine n_ic_ge (pc0 := 122) (len := 3) (t := 152) rfl (by first | assumption | omega | (unfold R32 at *; omega) | (unfold R64 at *; omega) | (simp only [R32, R64] at *; omega)) (by first | assumption | omega | (unfold R32 at *; omega) | (unfold R64 at *; omega) | (simp only [R32, R64] at *; omega)) (fun h_122 => ?_) (fun h_122 => ?_)
    · show WV _ _ _ 152 _ _ _ _ _
      rw [if_neg h_122] at hK
      exact hK _ hX 
    · show WV _ _ _ 125 _ _ _ _ _
      rw [if_pos h_122] at hK
      refine r_ex 12 (pc' := 144) (lo' := [some (.inr (.inr (some 203))), some (.inl s), some (.inl i), some (.inl o), some (.inl k), some (.inl n), some (.inl x)]) (st' := [.inl (((60 * s) + i) + x), .inr (.inr (some 206)), .inl x, .inr (.inr (some 207))]) rfl ?_
      refine r_lald2 (x := (v 206 (((((60 * s) + i) + x)).toNat))) (pc' := 145) (pc0 := 144) (len := 1) rfl (s_206 _) (by first | assumption | omega | (unfold R32 at *; omega) | (unfold R64 at *; omega) | (simp only [R32, R64] at *; omega)) (by decide) rfl rfl ?_
      have hb_8 : -9223372036854775808 ≤ (v 206 (((((60 * s) + i) + x)).toNat)) ∧ (v 206 (((((60 * s) + i) + x)).toNat)) ≤ 9223372036854775807 := hX 206 (((((60 * s) + i) + x)).toNat)
      refine r_last2 (pc' := 146) (pc0 := 145) (len := 1) rfl (s_207 _) (by first | assumption | omega | (unfold R32 at *; omega) | (unfold R64 at *; omega) | (simp only [R32, R64] at *; omega)) (by decide) rfl ?_
      have hX_9 : XI (v2 v 207 ((x).toNat) (v 206 (((((60 * s) + i) + x)).toNat))) := XI.put hX (show -9223372036854775808 ≤ (v 206 (((((60 * s) + i) + x)).toNat)) ∧ (v 206 (((((60 * s) + i) + x)).toNat)) ≤ 9223372036854775807 from (by first | assumption | omega | (unfold R32 at *; omega) | (unfold R64 at *; omega) | (simp only [R32, R64] at *; omega)))
      refine r_ex 2 (pc' := 118) (lo' := [some (.inr (.inr (some 203))), some (.inl s), some (.inl i), some (.inl o), some (.inl k), some (.inl n), some (.inl (x + 1))]) (st' := []) rfl ?_
      refine ih (v2 v 207 ((x).toNat) (v 206 (((((60 * s) + i) + x)).toNat))) s i o k n (x + 1)  hX_9 (by first | assumption | omega | (unfold R32 at *; omega) | (unfold R64 at *; omega) | (simp only [R32, R64] at *; omega)) (by first | assumption | omega | (unfold R32 at *; omega) | (unfold R64 at *; omega) | (simp only [R32, R64] at *; omega)) (by first | assumption | omega | (unfold R32 at *; omega) | (unfold R64 at *; omega) | (simp only [R32, R64] at *; omega)) (by first | assumption | omega | (unfold R32 at *; omega) | (unfold R64 at *; omega) | (simp only [R32, R64] at *; omega)) (by first | assumption | omega | (unfold R32 at *; omega) | (unfold R64 at *; omega) | (simp only [R32, R64] at *; omega)) (by first | assumption | omega | (unfold R32 at *; omega) | (unfold R64 at *; omega) | (simp only [R32, R64] at *; omega)) (by first | assumption | omega | (unfold R32 at *; omega) | (unfold R64 at *; omega) | (simp only [R32, R64] at *; omega)) hK

theorem of_mo_paste_118 {rk : Nat} (hk : (rk < 207 ∨ 207 < rk)) : ∀ (f : Nat) {v : VS} {s : Int} {i : Int} {o : Int} {k : Int} {n : Int} {x : Int}, (mo_paste_118 f v s i o k n x) rk = v rk := by
  intro f
  induction f with
  | zero => intro v s i o k n x; rfl
  | succ f ih =>
    intro v s i o k n x
    rw [mo_paste_118]
    by_cases hc_ : x < n
    · rw [if_pos hc_] <;> clear hc_
      all_goals (rw [ih, v2_row (by omega)])
    · rw [if_neg hc_] <;> clear hc_
      all_goals (show v rk = _)
      all_goals rfl
theorem o_mo_paste_118 {rk : Nat} {f : Nat} {v : VS} {s : Int} {i : Int} {o : Int} {k : Int} {n : Int} {x : Int} (hk : (rk < 207 ∨ 207 < rk)) : (mo_paste_118 f v s i o k n x) rk = v rk := of_mo_paste_118 hk f

theorem l_mo_paste_155 {X : PX} {d b : Nat} {Q : Option PV → Nat → VS → Prop}  : ∀ (f : Nat) (v : VS) (o : Int) (k : Int) (n : Int) (x : Int) (o1 : Option PV) (o2 : Option PV), XI v → (0 ≤ o ∧ o ≤ 3) → (0 ≤ k ∧ k + n ≤ 60) → (0 ≤ n ∧ n ≤ 60) → (0 ≤ x ∧ x ≤ 60) → (60 < x + f) → (∀ qx6 : Option PV, XI (mo_paste_155 f v o k n x) → WV X (d + 1 + 1) 205 190 [some (.inr (.inr (some 203))), o1, o2, some (.inl o), some (.inl k), some (.inl n), qx6] [] b (mo_paste_155 f v o k n x) Q) → WV X (d + 1 + 1) 205 155 [some (.inr (.inr (some 203))), o1, o2, some (.inl o), some (.inl k), some (.inl n), some (.inl x)] [] b v Q := by
  intro f
  induction f with
  | zero =>
    intro v o k n x o1 o2 hX hi_0 hi_1 hi_2 hi_3 hf hK
    exfalso
    omega
  | succ f ih =>
    intro v o k n x o1 o2 hX hi_0 hi_1 hi_2 hi_3 hf hK
    rw [mo_paste_155] at hK
    refine r_ex 2 (pc' := 159) (lo' := [some (.inr (.inr (some 203))), o1, o2, some (.inl o), some (.inl k), some (.inl n), some (.inl x)]) (st' := [.inl n, .inl x]) rfl ?_
    refine n_ic_ge (pc0 := 159) (len := 3) (t := 190) rfl (by first | assumption | omega | (unfold R32 at *; omega) | (unfold R64 at *; omega) | (simp only [R32, R64] at *; omega)) (by first | assumption | omega | (unfold R32 at *; omega) | (unfold R64 at *; omega) | (simp only [R32, R64] at *; omega)) (fun h_159 => ?_) (fun h_159 => ?_)
    · show WV _ _ _ 190 _ _ _ _ _
      rw [if_neg h_159] at hK
      exact hK _ hX 
    · show WV _ _ _ 162 _ _ _ _ _
      rw [if_pos h_159] at hK
      refine r_ex 12 (pc' := 182) (lo' := [some (.inr (.inr (some 203))), o1, o2, some (.inl o), some (.inl k), some (.inl n), some (.inl x)]) (st' := [.inl x, .inr (.inr (some 207)), .inl (((60 * o) + k) + x), .inr (.inr (some 206))]) rfl ?_
      refine r_lald2 (x := (v 207 ((x).toNat))) (pc' := 183) (pc0 := 182) (len := 1) rfl (s_207 _) (by first | assumption | omega | (unfold R32 at *; omega) | (unfold R64 at *; omega) | (simp only [R32, R64] at *; omega)) (by decide) rfl rfl ?_
      have hb_11 : -9223372036854775808 ≤ (v 207 ((x).toNat)) ∧ (v 207 ((x).toNat)) ≤ 9223372036854775807 := hX 207 ((x).toNat)
      refine r_last2 (pc' := 184) (pc0 := 183) (len := 1) rfl (s_206 _) (by first | assumption | omega | (unfold R32 at *; omega) | (unfold R64 at *; omega) | (simp only [R32, R64] at *; omega)) (by decide) rfl ?_
      have hX_12 : XI (v2 v 206 (((((60 * o) + k) + x)).toNat) (v 207 ((x).toNat))) := XI.put hX (show -9223372036854775808 ≤ (v 207 ((x).toNat)) ∧ (v 207 ((x).toNat)) ≤ 9223372036854775807 from (by first | assumption | omega | (unfold R32 at *; omega) | (unfold R64 at *; omega) | (simp only [R32, R64] at *; omega)))
      refine r_ex 2 (pc' := 155) (lo' := [some (.inr (.inr (some 203))), o1, o2, some (.inl o), some (.inl k), some (.inl n), some (.inl (x + 1))]) (st' := []) rfl ?_
      refine ih (v2 v 206 (((((60 * o) + k) + x)).toNat) (v 207 ((x).toNat))) o k n (x + 1) _ _ hX_12 (by first | assumption | omega | (unfold R32 at *; omega) | (unfold R64 at *; omega) | (simp only [R32, R64] at *; omega)) (by first | assumption | omega | (unfold R32 at *; omega) | (unfold R64 at *; omega) | (simp only [R32, R64] at *; omega)) (by first | assumption | omega | (unfold R32 at *; omega) | (unfold R64 at *; omega) | (simp only [R32, R64] at *; omega)) (by first | assumption | omega | (unfold R32 at *; omega) | (unfold R64 at *; omega) | (simp only [R32, R64] at *; omega)) (by first | assumption | omega | (unfold R32 at *; omega) | (unfold R64 at *; omega) | (simp only [R32, R64] at *; omega)) hK

theorem of_mo_paste_155 {rk : Nat} (hk : (rk < 206 ∨ 206 < rk)) : ∀ (f : Nat) {v : VS} {o : Int} {k : Int} {n : Int} {x : Int}, (mo_paste_155 f v o k n x) rk = v rk := by
  intro f
  induction f with
  | zero => intro v o k n x; rfl
  | succ f ih =>
    intro v o k n x
    rw [mo_paste_155]
    by_cases hc_ : x < n
    · rw [if_pos hc_] <;> clear hc_
      all_goals (rw [ih, v2_row (by omega)])
    · rw [if_neg hc_] <;> clear hc_
      all_goals (show v rk = _)
      all_goals rfl
theorem o_mo_paste_155 {rk : Nat} {f : Nat} {v : VS} {o : Int} {k : Int} {n : Int} {x : Int} (hk : (rk < 206 ∨ 206 < rk)) : (mo_paste_155 f v o k n x) rk = v rk := of_mo_paste_155 hk f

theorem l_mo_paste_152 {X : PX} {d b : Nat} {Q : Option PV → Nat → VS → Prop}  : ∀ (v : VS) (o : Int) (k : Int) (n : Int) (o1 : Option PV) (o2 : Option PV) (o6 : Option PV), XI v → (0 ≤ o ∧ o ≤ 3) → (0 ≤ k ∧ k + n ≤ 60) → (0 ≤ n ∧ n ≤ 60) → (XI (mo_paste_152 v o k n).2 → Q (some (.inl (mo_paste_152 v o k n).1)) b (mo_paste_152 v o k n).2) → WV X (d + 1 + 1) 205 152 [some (.inr (.inr (some 203))), o1, o2, some (.inl o), some (.inl k), some (.inl n), o6] [] b v Q := by
  intro v o k n o1 o2 o6 hX hi_0 hi_1 hi_2 hQ
  rw [mo_paste_152] at hQ
  refine r_ex 2 (pc' := 155) (lo' := [some (.inr (.inr (some 203))), o1, o2, some (.inl o), some (.inl k), some (.inl n), some (.inl 0)]) (st' := []) rfl ?_
  refine l_mo_paste_155 61 v o k n 0 _ _ hX (by first | assumption | omega | (unfold R32 at *; omega) | (unfold R64 at *; omega) | (simp only [R32, R64] at *; omega)) (by first | assumption | omega | (unfold R32 at *; omega) | (unfold R64 at *; omega) | (simp only [R32, R64] at *; omega)) (by first | assumption | omega | (unfold R32 at *; omega) | (unfold R64 at *; omega) | (simp only [R32, R64] at *; omega)) (by first | assumption | omega | (unfold R32 at *; omega) | (unfold R64 at *; omega) | (simp only [R32, R64] at *; omega)) (by first | assumption | omega | (unfold R32 at *; omega) | (unfold R64 at *; omega) | (simp only [R32, R64] at *; omega)) (fun o6_13 hX_13  => ?_)
  show WV _ _ _ 190 _ _ _ _ _
  refine r_ex 1 (pc' := 191) (lo' := [some (.inr (.inr (some 203))), o1, o2, some (.inl o), some (.inl k), some (.inl n), o6_13]) (st' := [.inl 0]) rfl ?_
  refine r_ret (rr := some (.inl 0)) (I := .ireturn) (pc0 := 191) (len := 1) rfl rfl ?_
  exact hQ hX_13 

theorem o_mo_paste_152 {rk : Nat} {v : VS} {o : Int} {k : Int} {n : Int} (hk : (rk < 206 ∨ 206 < rk)) : (mo_paste_152 v o k n).2 rk = v rk := by
  unfold mo_paste_152
  all_goals (show (mo_paste_155 61 v o k n 0) rk = _)
  all_goals (rw [o_mo_paste_155 (by omega)])

theorem w_mo_paste {X : PX} {d b : Nat} {v : VS} {s : Int} {i : Int} {o : Int} {k : Int} {n : Int} (hX : XI v) (hp_a : R32 s) (hp_b : R32 i) (hp_c : R32 o) (hp_d : R32 k) (hp_e : R32 n) {Q : Option PV → Nat → VS → Prop} (hQ : XI (mo_paste v s i o k n).2 → Q (some (.inl (mo_paste v s i o k n).1)) b (mo_paste v s i o k n).2) : WV X (d + 1 + 1) 205 0 [some (.inr (.inr (some 203))), some (.inl s), some (.inl i), some (.inl o), some (.inl k), some (.inl n), none] [] b v Q := by
  rw [mo_paste] at hQ
  refine r_ex 2 (pc' := 2) (lo' := [some (.inr (.inr (some 203))), some (.inl s), some (.inl i), some (.inl o), some (.inl k), some (.inl n), none]) (st' := [.inl 0, .inr (.inr (some 203))]) rfl ?_
  refine r_puti2 (j := 0) (pc' := 5) (pc0 := 2) (len := 3) rfl (s_203 _) rfl rfl rfl (Or.inl rfl) rfl rfl ?_
  have hX_1 : XI (v2 v 203 0 0) := XI.put hX trivial
  refine r_ex 1 (pc' := 6) (lo' := [some (.inr (.inr (some 203))), some (.inl s), some (.inl i), some (.inl o), some (.inl k), some (.inl n), none]) (st' := [.inl s]) rfl ?_
  have hp_2 : R32 s := (by first | assumption | omega | (unfold R32 at *; omega) | (unfold R64 at *; omega) | (simp only [R32, R64] at *; omega))
  refine r_callb (P := 0 ≤ s ∧ s ≤ 3) (m := 201) (args := [.inl s]) (n' := 205) (pc' := 9) (lo' := [some (.inr (.inr (some 203))), some (.inl s), some (.inl i), some (.inl o), some (.inl k), some (.inl n), none]) (st' := []) (I := .invokestatic 201) (pc0 := 6) (len := 3) rfl rfl rfl (e_mo_isSlot hX_1 hp_2) (fun h_6 => ?_) (fun h_6 => ?_)
  · show WV _ _ _ 9 _ _ _ _ _
    rw [if_pos h_6] at hQ
    refine r_ex 2 (pc' := 13) (lo' := [some (.inr (.inr (some 203))), some (.inl s), some (.inl i), some (.inl o), some (.inl k), some (.inl n), none]) (st' := [.inl o]) rfl ?_
    have hp_3 : R32 o := (by first | assumption | omega | (unfold R32 at *; omega) | (unfold R64 at *; omega) | (simp only [R32, R64] at *; omega))
    refine r_callb (P := 0 ≤ o ∧ o ≤ 3) (m := 201) (args := [.inl o]) (n' := 205) (pc' := 16) (lo' := [some (.inr (.inr (some 203))), some (.inl s), some (.inl i), some (.inl o), some (.inl k), some (.inl n), none]) (st' := []) (I := .invokestatic 201) (pc0 := 13) (len := 3) rfl rfl rfl (e_mo_isSlot hX_1 hp_3) (fun h_13 => ?_) (fun h_13 => ?_)
    · show WV _ _ _ 16 _ _ _ _ _
      rw [if_pos h_13] at hQ
      refine r_ex 4 (pc' := 27) (lo' := [some (.inr (.inr (some 203))), some (.inl s), some (.inl i), some (.inl o), some (.inl k), some (.inl n), none]) (st' := [.inl s, .inr (.inr (some 204))]) rfl ?_
      refine r_iald2 (j := 0) (x := (v 204 ((s).toNat))) (pc' := 28) (pc0 := 27) (len := 1) rfl (s_204 _) (by first | assumption | omega | (unfold R32 at *; omega) | (unfold R64 at *; omega) | (simp only [R32, R64] at *; omega)) (by decide) rfl rfl ?_
      have hb_4 : -1 ≤ (v 204 ((s).toNat)) ∧ (v 204 ((s).toNat)) ≤ 3 := hX_1 204 ((s).toNat)
      refine r_ex 1 (pc' := 29) (lo' := [some (.inr (.inr (some 203))), some (.inl s), some (.inl i), some (.inl o), some (.inl k), some (.inl n), none]) (st' := [.inl (-1), .inl (v 204 ((s).toNat))]) rfl ?_
      refine n_ic_eq (pc0 := 29) (len := 3) (t := 42) rfl (by first | assumption | omega | (unfold R32 at *; omega) | (unfold R64 at *; omega) | (simp only [R32, R64] at *; omega)) (by first | assumption | omega | (unfold R32 at *; omega) | (unfold R64 at *; omega) | (simp only [R32, R64] at *; omega)) (fun h_29 => ?_) (fun h_29 => ?_)
      · show WV _ _ _ 42 _ _ _ _ _
        rw [if_pos h_29] at hQ
        refine r_ex 1 (pc' := 44) (lo' := [some (.inr (.inr (some 203))), some (.inl s), some (.inl i), some (.inl o), some (.inl k), some (.inl n), none]) (st' := [.inl (-6)]) rfl ?_
        refine r_ret (rr := some (.inl (-6))) (I := .ireturn) (pc0 := 44) (len := 1) rfl rfl ?_
        exact hQ hX_1 
      · show WV _ _ _ 32 _ _ _ _ _
        rw [if_neg h_29] at hQ
        refine r_ex 3 (pc' := 37) (lo' := [some (.inr (.inr (some 203))), some (.inl s), some (.inl i), some (.inl o), some (.inl k), some (.inl n), none]) (st' := [.inl o, .inr (.inr (some 204))]) rfl ?_
        refine r_iald2 (j := 0) (x := (v 204 ((o).toNat))) (pc' := 38) (pc0 := 37) (len := 1) rfl (s_204 _) (by first | assumption | omega | (unfold R32 at *; omega) | (unfold R64 at *; omega) | (simp only [R32, R64] at *; omega)) (by decide) rfl rfl ?_
        have hb_5 : -1 ≤ (v 204 ((o).toNat)) ∧ (v 204 ((o).toNat)) ≤ 3 := hX_1 204 ((o).toNat)
        refine r_ex 1 (pc' := 39) (lo' := [some (.inr (.inr (some 203))), some (.inl s), some (.inl i), some (.inl o), some (.inl k), some (.inl n), none]) (st' := [.inl (-1), .inl (v 204 ((o).toNat))]) rfl ?_
        refine n_ic_ne (pc0 := 39) (len := 3) (t := 45) rfl (by first | assumption | omega | (unfold R32 at *; omega) | (unfold R64 at *; omega) | (simp only [R32, R64] at *; omega)) (by first | assumption | omega | (unfold R32 at *; omega) | (unfold R64 at *; omega) | (simp only [R32, R64] at *; omega)) (fun h_39 => ?_) (fun h_39 => ?_)
        · show WV _ _ _ 45 _ _ _ _ _
          rw [if_neg h_39] at hQ
          refine r_ex 3 (pc' := 50) (lo' := [some (.inr (.inr (some 203))), some (.inl s), some (.inl i), some (.inl o), some (.inl k), some (.inl n), none]) (st' := [.inl s, .inr (.inr (some 204))]) rfl ?_
          refine r_iald2 (j := 0) (x := (v 204 ((s).toNat))) (pc' := 51) (pc0 := 50) (len := 1) rfl (s_204 _) (by first | assumption | omega | (unfold R32 at *; omega) | (unfold R64 at *; omega) | (simp only [R32, R64] at *; omega)) (by decide) rfl rfl ?_
          refine r_ex 3 (pc' := 56) (lo' := [some (.inr (.inr (some 203))), some (.inl s), some (.inl i), some (.inl o), some (.inl k), some (.inl n), none]) (st' := [.inl o, .inr (.inr (some 204)), .inl (v 204 ((s).toNat))]) rfl ?_
          refine r_iald2 (j := 0) (x := (v 204 ((o).toNat))) (pc' := 57) (pc0 := 56) (len := 1) rfl (s_204 _) (by first | assumption | omega | (unfold R32 at *; omega) | (unfold R64 at *; omega) | (simp only [R32, R64] at *; omega)) (by decide) rfl rfl ?_
          refine n_ic_eq (pc0 := 57) (len := 3) (t := 63) rfl (by first | assumption | omega | (unfold R32 at *; omega) | (unfold R64 at *; omega) | (simp only [R32, R64] at *; omega)) (by first | assumption | omega | (unfold R32 at *; omega) | (unfold R64 at *; omega) | (simp only [R32, R64] at *; omega)) (fun h_57 => ?_) (fun h_57 => ?_)
          · show WV _ _ _ 63 _ _ _ _ _
            rw [if_pos h_57] at hQ
            refine r_ex 1 (pc' := 64) (lo' := [some (.inr (.inr (some 203))), some (.inl s), some (.inl i), some (.inl o), some (.inl k), some (.inl n), none]) (st' := [.inl i]) rfl ?_
            refine n_if_lt (pc0 := 64) (len := 3) (t := 112) rfl (by first | assumption | omega | (unfold R32 at *; omega) | (unfold R64 at *; omega) | (simp only [R32, R64] at *; omega)) (fun h_64 => ?_) (fun h_64 => ?_)
            · show WV _ _ _ 112 _ _ _ _ _
              rw [if_pos h_64] at hQ
              refine r_ex 1 (pc' := 114) (lo' := [some (.inr (.inr (some 203))), some (.inl s), some (.inl i), some (.inl o), some (.inl k), some (.inl n), none]) (st' := [.inl (-7)]) rfl ?_
              refine r_ret (rr := some (.inl (-7))) (I := .ireturn) (pc0 := 114) (len := 1) rfl rfl ?_
              exact hQ hX_1 
            · show WV _ _ _ 67 _ _ _ _ _
              rw [if_neg h_64] at hQ
              refine r_ex 1 (pc' := 69) (lo' := [some (.inr (.inr (some 203))), some (.inl s), some (.inl i), some (.inl o), some (.inl k), some (.inl n), none]) (st' := [.inl k]) rfl ?_
              refine n_if_lt (pc0 := 69) (len := 3) (t := 112) rfl (by first | assumption | omega | (unfold R32 at *; omega) | (unfold R64 at *; omega) | (simp only [R32, R64] at *; omega)) (fun h_69 => ?_) (fun h_69 => ?_)
              · show WV _ _ _ 112 _ _ _ _ _
                rw [if_pos h_69] at hQ
                refine r_ex 1 (pc' := 114) (lo' := [some (.inr (.inr (some 203))), some (.inl s), some (.inl i), some (.inl o), some (.inl k), some (.inl n), none]) (st' := [.inl (-7)]) rfl ?_
                refine r_ret (rr := some (.inl (-7))) (I := .ireturn) (pc0 := 114) (len := 1) rfl rfl ?_
                exact hQ hX_1 
              · show WV _ _ _ 72 _ _ _ _ _
                rw [if_neg h_69] at hQ
                refine r_ex 1 (pc' := 74) (lo' := [some (.inr (.inr (some 203))), some (.inl s), some (.inl i), some (.inl o), some (.inl k), some (.inl n), none]) (st' := [.inl n]) rfl ?_
                refine n_if_lt (pc0 := 74) (len := 3) (t := 112) rfl (by first | assumption | omega | (unfold R32 at *; omega) | (unfold R64 at *; omega) | (simp only [R32, R64] at *; omega)) (fun h_74 => ?_) (fun h_74 => ?_)
                · show WV _ _ _ 112 _ _ _ _ _
                  rw [if_pos h_74] at hQ
                  refine r_ex 1 (pc' := 114) (lo' := [some (.inr (.inr (some 203))), some (.inl s), some (.inl i), some (.inl o), some (.inl k), some (.inl n), none]) (st' := [.inl (-7)]) rfl ?_
                  refine r_ret (rr := some (.inl (-7))) (I := .ireturn) (pc0 := 114) (len := 1) rfl rfl ?_
                  exact hQ hX_1 
                · show WV _ _ _ 77 _ _ _ _ _
                  rw [if_neg h_74] at hQ
                  refine r_ex 1 (pc' := 78) (lo' := [some (.inr (.inr (some 203))), some (.inl s), some (.inl i), some (.inl o), some (.inl k), some (.inl n), none]) (st' := [.inl i]) rfl ?_
                  refine n_i2l (pc' := 79) (pc0 := 78) (len := 1) rfl (by first | assumption | omega | (unfold R32 at *; omega) | (unfold R64 at *; omega) | (simp only [R32, R64] at *; omega)) rfl ?_
                  refine r_ex 1 (pc' := 81) (lo' := [some (.inr (.inr (some 203))), some (.inl s), some (.inl i), some (.inl o), some (.inl k), some (.inl n), none]) (st' := [.inl n, .inr (.inl i)]) rfl ?_
                  refine n_i2l (pc' := 82) (pc0 := 81) (len := 1) rfl (by first | assumption | omega | (unfold R32 at *; omega) | (unfold R64 at *; omega) | (simp only [R32, R64] at *; omega)) rfl ?_
                  refine r_ex 4 (pc' := 88) (lo' := [some (.inr (.inr (some 203))), some (.inl s), some (.inl i), some (.inl o), some (.inl k), some (.inl n), none]) (st' := [.inl s, .inr (.inr (some 205)), .inr (.inl (i + n))]) rfl ?_
                  refine r_iald2 (j := 0) (x := (v 205 ((s).toNat))) (pc' := 89) (pc0 := 88) (len := 1) rfl (s_205 _) (by first | assumption | omega | (unfold R32 at *; omega) | (unfold R64 at *; omega) | (simp only [R32, R64] at *; omega)) (by decide) rfl rfl ?_
                  have hb_6 : 0 ≤ (v 205 ((s).toNat)) ∧ (v 205 ((s).toNat)) ≤ 60 := hX_1 205 ((s).toNat)
                  refine n_i2l (pc' := 90) (pc0 := 89) (len := 1) rfl (by first | assumption | omega | (unfold R32 at *; omega) | (unfold R64 at *; omega) | (simp only [R32, R64] at *; omega)) rfl ?_
                  refine n_lc_gt (pc0 := 90) (len := 1) (pc1 := 91) (pc2 := 91) (len2 := 3) (t := 112) rfl rfl rfl (by first | assumption | omega | (unfold R32 at *; omega) | (unfold R64 at *; omega) | (simp only [R32, R64] at *; omega)) (by first | assumption | omega | (unfold R32 at *; omega) | (unfold R64 at *; omega) | (simp only [R32, R64] at *; omega)) (fun h_90 => ?_) (fun h_90 => ?_)
                  · show WV _ _ _ 112 _ _ _ _ _
                    rw [if_pos h_90] at hQ
                    refine r_ex 1 (pc' := 114) (lo' := [some (.inr (.inr (some 203))), some (.inl s), some (.inl i), some (.inl o), some (.inl k), some (.inl n), none]) (st' := [.inl (-7)]) rfl ?_
                    refine r_ret (rr := some (.inl (-7))) (I := .ireturn) (pc0 := 114) (len := 1) rfl rfl ?_
                    exact hQ hX_1 
                  · show WV _ _ _ 94 _ _ _ _ _
                    rw [if_neg h_90] at hQ
                    refine r_ex 1 (pc' := 96) (lo' := [some (.inr (.inr (some 203))), some (.inl s), some (.inl i), some (.inl o), some (.inl k), some (.inl n), none]) (st' := [.inl k]) rfl ?_
                    refine n_i2l (pc' := 97) (pc0 := 96) (len := 1) rfl (by first | assumption | omega | (unfold R32 at *; omega) | (unfold R64 at *; omega) | (simp only [R32, R64] at *; omega)) rfl ?_
                    refine r_ex 1 (pc' := 99) (lo' := [some (.inr (.inr (some 203))), some (.inl s), some (.inl i), some (.inl o), some (.inl k), some (.inl n), none]) (st' := [.inl n, .inr (.inl k)]) rfl ?_
                    refine n_i2l (pc' := 100) (pc0 := 99) (len := 1) rfl (by first | assumption | omega | (unfold R32 at *; omega) | (unfold R64 at *; omega) | (simp only [R32, R64] at *; omega)) rfl ?_
                    refine r_ex 4 (pc' := 106) (lo' := [some (.inr (.inr (some 203))), some (.inl s), some (.inl i), some (.inl o), some (.inl k), some (.inl n), none]) (st' := [.inl o, .inr (.inr (some 205)), .inr (.inl (k + n))]) rfl ?_
                    refine r_iald2 (j := 0) (x := (v 205 ((o).toNat))) (pc' := 107) (pc0 := 106) (len := 1) rfl (s_205 _) (by first | assumption | omega | (unfold R32 at *; omega) | (unfold R64 at *; omega) | (simp only [R32, R64] at *; omega)) (by decide) rfl rfl ?_
                    have hb_7 : 0 ≤ (v 205 ((o).toNat)) ∧ (v 205 ((o).toNat)) ≤ 60 := hX_1 205 ((o).toNat)
                    refine n_i2l (pc' := 108) (pc0 := 107) (len := 1) rfl (by first | assumption | omega | (unfold R32 at *; omega) | (unfold R64 at *; omega) | (simp only [R32, R64] at *; omega)) rfl ?_
                    refine n_lc_le (pc0 := 108) (len := 1) (pc1 := 109) (pc2 := 109) (len2 := 3) (t := 115) rfl rfl rfl (by first | assumption | omega | (unfold R32 at *; omega) | (unfold R64 at *; omega) | (simp only [R32, R64] at *; omega)) (by first | assumption | omega | (unfold R32 at *; omega) | (unfold R64 at *; omega) | (simp only [R32, R64] at *; omega)) (fun h_108 => ?_) (fun h_108 => ?_)
                    · show WV _ _ _ 115 _ _ _ _ _
                      rw [if_neg h_108] at hQ
                      refine r_ex 2 (pc' := 118) (lo' := [some (.inr (.inr (some 203))), some (.inl s), some (.inl i), some (.inl o), some (.inl k), some (.inl n), some (.inl 0)]) (st' := []) rfl ?_
                      refine l_mo_paste_118 61 (v2 v 203 0 0) s i o k n 0  hX_1 (by first | assumption | omega | (unfold R32 at *; omega) | (unfold R64 at *; omega) | (simp only [R32, R64] at *; omega)) (by first | assumption | omega | (unfold R32 at *; omega) | (unfold R64 at *; omega) | (simp only [R32, R64] at *; omega)) (by first | assumption | omega | (unfold R32 at *; omega) | (unfold R64 at *; omega) | (simp only [R32, R64] at *; omega)) (by first | assumption | omega | (unfold R32 at *; omega) | (unfold R64 at *; omega) | (simp only [R32, R64] at *; omega)) (by first | assumption | omega | (unfold R32 at *; omega) | (unfold R64 at *; omega) | (simp only [R32, R64] at *; omega)) (by first | assumption | omega | (unfold R32 at *; omega) | (unfold R64 at *; omega) | (simp only [R32, R64] at *; omega)) (by first | assumption | omega | (unfold R32 at *; omega) | (unfold R64 at *; omega) | (simp only [R32, R64] at *; omega)) (fun o6_10 hX_10  => ?_)
                      show WV _ _ _ 152 _ _ _ _ _
                      exact l_mo_paste_152  (mo_paste_118 61 (v2 v 203 0 0) s i o k n 0) o k n _ _ _ hX_10 (by first | assumption | omega | (unfold R32 at *; omega) | (unfold R64 at *; omega) | (simp only [R32, R64] at *; omega)) (by first | assumption | omega | (unfold R32 at *; omega) | (unfold R64 at *; omega) | (simp only [R32, R64] at *; omega)) (by first | assumption | omega | (unfold R32 at *; omega) | (unfold R64 at *; omega) | (simp only [R32, R64] at *; omega)) hQ
                    · show WV _ _ _ 112 _ _ _ _ _
                      rw [if_pos h_108] at hQ
                      refine r_ex 1 (pc' := 114) (lo' := [some (.inr (.inr (some 203))), some (.inl s), some (.inl i), some (.inl o), some (.inl k), some (.inl n), none]) (st' := [.inl (-7)]) rfl ?_
                      refine r_ret (rr := some (.inl (-7))) (I := .ireturn) (pc0 := 114) (len := 1) rfl rfl ?_
                      exact hQ hX_1 
          · show WV _ _ _ 60 _ _ _ _ _
            rw [if_neg h_57] at hQ
            refine r_ex 1 (pc' := 62) (lo' := [some (.inr (.inr (some 203))), some (.inl s), some (.inl i), some (.inl o), some (.inl k), some (.inl n), none]) (st' := [.inl (-8)]) rfl ?_
            refine r_ret (rr := some (.inl (-8))) (I := .ireturn) (pc0 := 62) (len := 1) rfl rfl ?_
            exact hQ hX_1 
        · show WV _ _ _ 42 _ _ _ _ _
          rw [if_pos h_39] at hQ
          refine r_ex 1 (pc' := 44) (lo' := [some (.inr (.inr (some 203))), some (.inl s), some (.inl i), some (.inl o), some (.inl k), some (.inl n), none]) (st' := [.inl (-6)]) rfl ?_
          refine r_ret (rr := some (.inl (-6))) (I := .ireturn) (pc0 := 44) (len := 1) rfl rfl ?_
          exact hQ hX_1 
    · show WV _ _ _ 16 _ _ _ _ _
      rw [if_neg h_13] at hQ
      refine r_ex 2 (pc' := 21) (lo' := [some (.inr (.inr (some 203))), some (.inl s), some (.inl i), some (.inl o), some (.inl k), some (.inl n), none]) (st' := [.inl (-2)]) rfl ?_
      refine r_ret (rr := some (.inl (-2))) (I := .ireturn) (pc0 := 21) (len := 1) rfl rfl ?_
      exact hQ hX_1 
  · show WV _ _ _ 9 _ _ _ _ _
    rw [if_neg h_6] at hQ
    refine r_ex 2 (pc' := 21) (lo' := [some (.inr (.inr (some 203))), some (.inl s), some (.inl i), some (.inl o), some (.inl k), some (.inl n), none]) (st' := [.inl (-2)]) rfl ?_
    refine r_ret (rr := some (.inl (-2))) (I := .ireturn) (pc0 := 21) (len := 1) rfl rfl ?_
    exact hQ hX_1 

theorem e_mo_paste {X : PX} {d b : Nat} {v : VS} {s : Int} {i : Int} {o : Int} {k : Int} {n : Int} (hX : XI v) (hp_a : R32 s) (hp_b : R32 i) (hp_c : R32 o) (hp_d : R32 k) (hp_e : R32 n) : EvV X (d + 1 + 1) 205 [.inr (.inr (some 203)), .inl s, .inl i, .inl o, .inl k, .inl n] b v (some (.inl (mo_paste v s i o k n).1)) b ((mo_paste v s i o k n).2) := EvV.of (w_mo_paste hX hp_a hp_b hp_c hp_d hp_e (fun _ => ⟨rfl, rfl, rfl⟩))

theorem i_mo_paste {v : VS} {s : Int} {i : Int} {o : Int} {k : Int} {n : Int} (hX : XI v) (hp_a : R32 s) (hp_b : R32 i) (hp_c : R32 o) (hp_d : R32 k) (hp_e : R32 n) : XI ((mo_paste v s i o k n).2) := by
  have q : WV (0, fun _ => 0, none) (0 + 1 + 1) 205 0 [some (.inr (.inr (some 203))), some (.inl s), some (.inl i), some (.inl o), some (.inl k), some (.inl n), none] [] 1 v (fun _ _ _ => XI ((mo_paste v s i o k n).2)) := w_mo_paste (X := (0, fun _ => 0, none)) (d := 0) (b := 1) hX hp_a hp_b hp_c hp_d hp_e (fun q => q)
  obtain ⟨_, _, _, _, _, _, _, q⟩ := q
  exact q

theorem o_mo_paste {rk : Nat} {v : VS} {s : Int} {i : Int} {o : Int} {k : Int} {n : Int} (hk : (rk < 203 ∨ 203 < rk) ∧ (rk < 206 ∨ 207 < rk)) : (mo_paste v s i o k n).2 rk = v rk := by
  unfold mo_paste
  by_cases hc_ : 0 ≤ s ∧ s ≤ 3
  · rw [if_pos hc_] <;> clear hc_
    by_cases hc_ : 0 ≤ o ∧ o ≤ 3
    · rw [if_pos hc_] <;> clear hc_
      by_cases hc_ : (v 204 ((s).toNat)) = (-1)
      · rw [if_pos hc_] <;> clear hc_
        all_goals (show (v2 v 203 0 0) rk = _)
        all_goals (rw [v2_row (by omega)])
      · rw [if_neg hc_] <;> clear hc_
        by_cases hc_ : (v 204 ((o).toNat)) = (-1)
        · rw [if_pos hc_] <;> clear hc_
          all_goals (show (v2 v 203 0 0) rk = _)
          all_goals (rw [v2_row (by omega)])
        · rw [if_neg hc_] <;> clear hc_
          by_cases hc_ : (v 204 ((s).toNat)) = (v 204 ((o).toNat))
          · rw [if_pos hc_] <;> clear hc_
            by_cases hc_ : i < 0
            · rw [if_pos hc_] <;> clear hc_
              all_goals (show (v2 v 203 0 0) rk = _)
              all_goals (rw [v2_row (by omega)])
            · rw [if_neg hc_] <;> clear hc_
              by_cases hc_ : k < 0
              · rw [if_pos hc_] <;> clear hc_
                all_goals (show (v2 v 203 0 0) rk = _)
                all_goals (rw [v2_row (by omega)])
              · rw [if_neg hc_] <;> clear hc_
                by_cases hc_ : n < 0
                · rw [if_pos hc_] <;> clear hc_
                  all_goals (show (v2 v 203 0 0) rk = _)
                  all_goals (rw [v2_row (by omega)])
                · rw [if_neg hc_] <;> clear hc_
                  by_cases hc_ : (v 205 ((s).toNat)) < (i + n)
                  · rw [if_pos hc_] <;> clear hc_
                    all_goals (show (v2 v 203 0 0) rk = _)
                    all_goals (rw [v2_row (by omega)])
                  · rw [if_neg hc_] <;> clear hc_
                    by_cases hc_ : (v 205 ((o).toNat)) < (k + n)
                    · rw [if_pos hc_] <;> clear hc_
                      all_goals (show (v2 v 203 0 0) rk = _)
                      all_goals (rw [v2_row (by omega)])
                    · rw [if_neg hc_] <;> clear hc_
                      all_goals (rw [o_mo_paste_152 (by omega), o_mo_paste_118 (by omega), v2_row (by omega)])
          · rw [if_neg hc_] <;> clear hc_
            all_goals (show (v2 v 203 0 0) rk = _)
            all_goals (rw [v2_row (by omega)])
    · rw [if_neg hc_] <;> clear hc_
      all_goals (show (v2 v 203 0 0) rk = _)
      all_goals (rw [v2_row (by omega)])
  · rw [if_neg hc_] <;> clear hc_
    all_goals (show (v2 v 203 0 0) rk = _)
    all_goals (rw [v2_row (by omega)])
