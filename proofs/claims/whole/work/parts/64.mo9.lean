/-! the reference: what is asked, I -/
noncomputable def mo_run (v : VS) : VS := Classical.choose (⟨mo_goes v, rfl⟩ : ∃ u : VS, u = mo_goes v)
theorem mo_run_eq (v : VS) : mo_run v = mo_goes v := Classical.choose_spec (⟨mo_goes v, rfl⟩ : ∃ u : VS, u = mo_goes v)
theorem e_mo_run {X : PX} {d b : Nat} {v : VS} (hX : XI v) (hp_a : CF v) : EvV X (d + 1 + 1 + 1 + 1) 247 [.inr (.inr (some 203))] b v none b (mo_run v) := by
  rw [mo_run_eq]
  exact e_mo_goes hX hp_a
theorem i_mo_run {v : VS} (hX : XI v) (hp_a : CF v) : XI (mo_run v) := by
  rw [mo_run_eq]
  exact i_mo_goes hX hp_a
theorem o_mo_run {rk : Nat} {v : VS} (hk : (rk < 203 ∨ 203 < rk) ∧ (rk < 219 ∨ 231 < rk)) : mo_run v rk = v rk := by
  rw [mo_run_eq]
  exact o_mo_goes hk

noncomputable def mo_told (v : VS)  : VS :=
  (mo_run (mo_plainly v))
theorem w_mo_told {X : PX} {d b : Nat} {v : VS}  (hX : XI v) (hp_a : CF v) {Q : Option PV → Nat → VS → Prop} (hQ : XI (mo_told v) → Q none b (mo_told v)) : WV X (d + 1 + 1 + 1 + 1 + 1) 246 0 [some (.inr (.inr (some 203)))] [] b v Q := by
  rw [mo_told] at hQ
  refine r_ex 1 (pc' := 1) (lo' := [some (.inr (.inr (some 203)))]) (st' := [.inr (.inr (some 203))]) rfl ?_
  refine r_call (m := 241) (args := [.inr (.inr (some 203))]) (n' := 246) (pc' := 4) (lo' := [some (.inr (.inr (some 203)))]) (st' := []) (I := .invokevirtual 241) (pc0 := 1) (len := 3) rfl rfl rfl (e_mo_plainly hX) ?_
  show WV _ _ _ 4 _ [] _ (mo_plainly v) _
  have hX_1 : XI (mo_plainly v) := i_mo_plainly (v := v) hX
  refine r_ex 1 (pc' := 5) (lo' := [some (.inr (.inr (some 203)))]) (st' := [.inr (.inr (some 203))]) rfl ?_
  have hp_2 : CF (mo_plainly v) := show CF (mo_plainly v) from (show CF (mo_plainly v) from CF.of hp_a (fun k h1 h2 => by rw [o_mo_plainly (by omega)]))
  refine r_call (m := 247) (args := [.inr (.inr (some 203))]) (n' := 246) (pc' := 8) (lo' := [some (.inr (.inr (some 203)))]) (st' := []) (I := .invokevirtual 247) (pc0 := 5) (len := 3) rfl rfl rfl (e_mo_run hX_1 hp_2) ?_
  show WV _ _ _ 8 _ [] _ (mo_run (mo_plainly v)) _
  have hX_3 : XI (mo_run (mo_plainly v)) := i_mo_run (v := (mo_plainly v)) hX_1 hp_2
  refine r_ret (rr := none) (I := .return_) (pc0 := 8) (len := 1) rfl rfl ?_
  exact hQ hX_3 

theorem e_mo_told {X : PX} {d b : Nat} {v : VS}  (hX : XI v) (hp_a : CF v) : EvV X (d + 1 + 1 + 1 + 1 + 1) 246 [.inr (.inr (some 203))] b v none b (mo_told v) := EvV.of (w_mo_told hX hp_a (fun _ => ⟨rfl, rfl, rfl⟩))

theorem i_mo_told {v : VS}  (hX : XI v) (hp_a : CF v) : XI (mo_told v) := by
  have q : WV (0, fun _ => 0, none) (0 + 1 + 1 + 1 + 1 + 1) 246 0 [some (.inr (.inr (some 203)))] [] 1 v (fun _ _ _ => XI (mo_told v)) := w_mo_told (X := (0, fun _ => 0, none)) (d := 0) (b := 1) hX hp_a (fun q => q)
  obtain ⟨_, _, _, _, _, _, _, q⟩ := q
  exact q

theorem o_mo_told {rk : Nat} {v : VS}  (hk : (rk < 203 ∨ 203 < rk) ∧ (rk < 219 ∨ 231 < rk)) : (mo_told v ) rk = v rk := by
  unfold mo_told
  all_goals (show (mo_run (mo_plainly v)) rk = _)
  all_goals (rw [o_mo_run (by omega), o_mo_plainly (by omega)])

def SM (v : VS) : Prop := (∀ j : Nat, (j : Int) < v 203 37 → (-1 ≤ v 220 (5 * j + 3) ∧ v 220 (5 * j + 3) < j) ∧ (0 ≤ v 220 (5 * j + 1) ∧ v 220 (5 * j + 1) ≤ 8) ∧ (0 ≤ v 220 (5 * j) ∧ v 220 (5 * j) ≤ 299) ∧ (0 ≤ v 220 (5 * j + 2) ∧ v 220 (5 * j + 2) ≤ 99)) ∧ (∀ c : Nat, c < 9 → v 230 c < v 203 37)
theorem SM.by_ {v : VS} (h : SM v) {i : Int} (h0 : 0 ≤ i ∧ i < v 203 37) : -1 ≤ mo_at v i 3 ∧ mo_at v i 3 < i := by
  have q := (h.1 i.toNat (by omega)).1
  unfold mo_at
  rw [show (5 * i + 3).toNat = 5 * i.toNat + 3 by omega]
  omega
theorem SM.ch {v : VS} (h : SM v) {i : Int} (h0 : 0 ≤ i ∧ i < v 203 37) : 0 ≤ mo_at v i 1 ∧ mo_at v i 1 ≤ 8 := by
  have q := (h.1 i.toNat (by omega)).2.1
  unfold mo_at
  rw [show (5 * i + 1).toNat = 5 * i.toNat + 1 by omega]
  exact q
theorem SM.fs {v : VS} (h : SM v) {c : Int} (h0 : 0 ≤ c ∧ c ≤ 8) : v 230 c.toNat < v 203 37 := h.2 c.toNat (by omega)

noncomputable def mo_church (v : VS) (c : Int) (w : Int) : Int × VS :=
  (if 0 ≤ c ∧ c < (v 210 0) then (if (0 : Int) ≤ w ∧ w ≤ (3 : Int) then (if w < 3 then ((v 211 ((((3 * c) + w)).toNat)), (v2 v 203 0 0)) else ((bt (v 210 9) c), (v2 v 203 0 0))) else ((-2), (v2 v 203 0 0))) else ((-2), (v2 v 203 0 0)))
theorem w_mo_church {X : PX} {d b : Nat} {v : VS} {c : Int} {w : Int} (hX : XI v) (hp_a : R32 c) (hp_b : R32 w) {Q : Option PV → Nat → VS → Prop} (hQ : XI (mo_church v c w).2 → Q (some (.inl (mo_church v c w).1)) b (mo_church v c w).2) : WV X (d + 1 + 1) 235 0 [some (.inr (.inr (some 203))), some (.inl c), some (.inl w)] [] b v Q := by
  rw [mo_church] at hQ
  refine r_ex 2 (pc' := 2) (lo' := [some (.inr (.inr (some 203))), some (.inl c), some (.inl w)]) (st' := [.inl 0, .inr (.inr (some 203))]) rfl ?_
  refine r_puti2 (j := 0) (pc' := 5) (pc0 := 2) (len := 3) rfl (s_203 _) rfl rfl rfl (Or.inl rfl) rfl rfl ?_
  have hX_1 : XI (v2 v 203 0 0) := XI.put hX trivial
  refine r_ex 2 (pc' := 7) (lo' := [some (.inr (.inr (some 203))), some (.inl c), some (.inl w)]) (st' := [.inl c, .inr (.inr (some 203))]) rfl ?_
  refine n_i2l (pc' := 8) (pc0 := 7) (len := 1) rfl (by first | assumption | omega | (unfold R32 at *; omega) | (unfold R64 at *; omega) | (simp only [R32, R64] at *; omega)) rfl ?_
  have hp_2 : R64 c := (by first | assumption | omega | (unfold R32 at *; omega) | (unfold R64 at *; omega) | (simp only [R32, R64] at *; omega))
  have hb_3 : 0 ≤ (v 210 0) ∧ (v 210 0) ≤ 9 := hX_1 210 0
  refine r_callb (P := 0 ≤ c ∧ c < (v 210 0)) (m := 236) (args := [.inr (.inr (some 203)), .inr (.inl c)]) (n' := 235) (pc' := 11) (lo' := [some (.inr (.inr (some 203))), some (.inl c), some (.inl w)]) (st' := []) (I := .invokevirtual 236) (pc0 := 8) (len := 3) rfl rfl rfl (e_mo_isChurch hX_1 hp_2) (fun h_8 => ?_) (fun h_8 => ?_)
  · show WV _ _ _ 11 _ _ _ _ _
    rw [if_pos h_8] at hQ
    refine r_ex 2 (pc' := 15) (lo' := [some (.inr (.inr (some 203))), some (.inl c), some (.inl w)]) (st' := [.inl w]) rfl ?_
    refine n_i2l (pc' := 16) (pc0 := 15) (len := 1) rfl (by first | assumption | omega | (unfold R32 at *; omega) | (unfold R64 at *; omega) | (simp only [R32, R64] at *; omega)) rfl ?_
    refine r_ex 2 (pc' := 20) (lo' := [some (.inr (.inr (some 203))), some (.inl c), some (.inl w)]) (st' := [.inr (.inl 3), .inr (.inl 0), .inr (.inl w)]) rfl ?_
    have hp_4 : R64 w := (by first | assumption | omega | (unfold R32 at *; omega) | (unfold R64 at *; omega) | (simp only [R32, R64] at *; omega))
    have hp_5 : R64 (0 : Int) := (by first | assumption | omega | (unfold R32 at *; omega) | (unfold R64 at *; omega) | (simp only [R32, R64] at *; omega))
    have hp_6 : R64 (3 : Int) := (by first | assumption | omega | (unfold R32 at *; omega) | (unfold R64 at *; omega) | (simp only [R32, R64] at *; omega))
    refine r_callb (P := (0 : Int) ≤ w ∧ w ≤ (3 : Int)) (m := 202) (args := [.inr (.inl w), .inr (.inl 0), .inr (.inl 3)]) (n' := 235) (pc' := 23) (lo' := [some (.inr (.inr (some 203))), some (.inl c), some (.inl w)]) (st' := []) (I := .invokestatic 202) (pc0 := 20) (len := 3) rfl rfl rfl (e_mo_in hX_1 hp_4 hp_5 hp_6) (fun h_20 => ?_) (fun h_20 => ?_)
    · show WV _ _ _ 23 _ _ _ _ _
      rw [if_pos h_20] at hQ
      refine r_ex 3 (pc' := 28) (lo' := [some (.inr (.inr (some 203))), some (.inl c), some (.inl w)]) (st' := [.inl 3, .inl w]) rfl ?_
      refine n_ic_ge (pc0 := 28) (len := 3) (t := 44) rfl (by first | assumption | omega | (unfold R32 at *; omega) | (unfold R64 at *; omega) | (simp only [R32, R64] at *; omega)) (by first | assumption | omega | (unfold R32 at *; omega) | (unfold R64 at *; omega) | (simp only [R32, R64] at *; omega)) (fun h_28 => ?_) (fun h_28 => ?_)
      · show WV _ _ _ 44 _ _ _ _ _
        rw [if_neg h_28] at hQ
        refine r_ex 3 (pc' := 50) (lo' := [some (.inr (.inr (some 203))), some (.inl c), some (.inl w)]) (st' := [.inl 9, .inr (.inr (some 210))]) rfl ?_
        refine r_iald2 (j := 0) (x := (v 210 9)) (pc' := 51) (pc0 := 50) (len := 1) rfl (s_210 _) (by first | assumption | omega | (unfold R32 at *; omega) | (unfold R64 at *; omega) | (simp only [R32, R64] at *; omega)) (by decide) rfl rfl ?_
        have hb_7 : 0 ≤ (v 210 9) ∧ (v 210 9) ≤ 511 := hX_1 210 9
        refine r_ex 4 (pc' := 55) (lo' := [some (.inr (.inr (some 203))), some (.inl c), some (.inl w)]) (st' := [.inl (pm_and (pm_shr (v 210 9) c) 1)]) rfl ?_
        rw [bit_eq (x := (v 210 9)) (c := c) (by first | assumption | omega | (unfold R32 at *; omega) | (unfold R64 at *; omega) | (simp only [R32, R64] at *; omega)) (by first | assumption | omega | (unfold R32 at *; omega) | (unfold R64 at *; omega) | (simp only [R32, R64] at *; omega))]
        have hb_8 := bt01 (v 210 9) c
        refine r_ex 1 (pc' := 60) (lo' := [some (.inr (.inr (some 203))), some (.inl c), some (.inl w)]) (st' := [.inl (bt (v 210 9) c)]) rfl ?_
        refine r_ret (rr := some (.inl (bt (v 210 9) c))) (I := .ireturn) (pc0 := 60) (len := 1) rfl rfl ?_
        exact hQ hX_1 
      · show WV _ _ _ 31 _ _ _ _ _
        rw [if_pos h_28] at hQ
        refine r_ex 7 (pc' := 40) (lo' := [some (.inr (.inr (some 203))), some (.inl c), some (.inl w)]) (st' := [.inl ((3 * c) + w), .inr (.inr (some 211))]) rfl ?_
        refine r_iald2 (j := 0) (x := (v 211 ((((3 * c) + w)).toNat))) (pc' := 41) (pc0 := 40) (len := 1) rfl (s_211 _) (by first | assumption | omega | (unfold R32 at *; omega) | (unfold R64 at *; omega) | (simp only [R32, R64] at *; omega)) (by decide) rfl rfl ?_
        have hb_9 : 0 ≤ (v 211 ((((3 * c) + w)).toNat)) ∧ (v 211 ((((3 * c) + w)).toNat)) ≤ 99 := hX_1 211 ((((3 * c) + w)).toNat)
        refine r_ex 1 (pc' := 60) (lo' := [some (.inr (.inr (some 203))), some (.inl c), some (.inl w)]) (st' := [.inl (v 211 ((((3 * c) + w)).toNat))]) rfl ?_
        refine r_ret (rr := some (.inl (v 211 ((((3 * c) + w)).toNat)))) (I := .ireturn) (pc0 := 60) (len := 1) rfl rfl ?_
        exact hQ hX_1 
    · show WV _ _ _ 23 _ _ _ _ _
      rw [if_neg h_20] at hQ
      refine r_ex 2 (pc' := 60) (lo' := [some (.inr (.inr (some 203))), some (.inl c), some (.inl w)]) (st' := [.inl (-2)]) rfl ?_
      refine r_ret (rr := some (.inl (-2))) (I := .ireturn) (pc0 := 60) (len := 1) rfl rfl ?_
      exact hQ hX_1 
  · show WV _ _ _ 11 _ _ _ _ _
    rw [if_neg h_8] at hQ
    refine r_ex 2 (pc' := 60) (lo' := [some (.inr (.inr (some 203))), some (.inl c), some (.inl w)]) (st' := [.inl (-2)]) rfl ?_
    refine r_ret (rr := some (.inl (-2))) (I := .ireturn) (pc0 := 60) (len := 1) rfl rfl ?_
    exact hQ hX_1 

theorem e_mo_church {X : PX} {d b : Nat} {v : VS} {c : Int} {w : Int} (hX : XI v) (hp_a : R32 c) (hp_b : R32 w) : EvV X (d + 1 + 1) 235 [.inr (.inr (some 203)), .inl c, .inl w] b v (some (.inl (mo_church v c w).1)) b ((mo_church v c w).2) := EvV.of (w_mo_church hX hp_a hp_b (fun _ => ⟨rfl, rfl, rfl⟩))

theorem i_mo_church {v : VS} {c : Int} {w : Int} (hX : XI v) (hp_a : R32 c) (hp_b : R32 w) : XI ((mo_church v c w).2) := by
  have q : WV (0, fun _ => 0, none) (0 + 1 + 1) 235 0 [some (.inr (.inr (some 203))), some (.inl c), some (.inl w)] [] 1 v (fun _ _ _ => XI ((mo_church v c w).2)) := w_mo_church (X := (0, fun _ => 0, none)) (d := 0) (b := 1) hX hp_a hp_b (fun q => q)
  obtain ⟨_, _, _, _, _, _, _, q⟩ := q
  exact q

theorem o_mo_church {rk : Nat} {v : VS} {c : Int} {w : Int} (hk : (rk < 203 ∨ 203 < rk)) : (mo_church v c w).2 rk = v rk := by
  unfold mo_church
  by_cases hc_ : 0 ≤ c ∧ c < (v 210 0)
  · rw [if_pos hc_] <;> clear hc_
    by_cases hc_ : (0 : Int) ≤ w ∧ w ≤ (3 : Int)
    · rw [if_pos hc_] <;> clear hc_
      by_cases hc_ : w < 3
      · rw [if_pos hc_] <;> clear hc_
        all_goals (show (v2 v 203 0 0) rk = _)
        all_goals (rw [v2_row (by omega)])
      · rw [if_neg hc_] <;> clear hc_
        all_goals (show (v2 v 203 0 0) rk = _)
        all_goals (rw [v2_row (by omega)])
    · rw [if_neg hc_] <;> clear hc_
      all_goals (show (v2 v 203 0 0) rk = _)
      all_goals (rw [v2_row (by omega)])
  · rw [if_neg hc_] <;> clear hc_
    all_goals (show (v2 v 203 0 0) rk = _)
    all_goals (rw [v2_row (by omega)])

noncomputable def mo_ear (v : VS) (c : Int) (w : Int) : Int × VS :=
  (if 0 ≤ c ∧ c < (v 210 3) then (if (0 : Int) ≤ w ∧ w ≤ (4 : Int) then (if w < 4 then ((v 212 ((((4 * c) + w)).toNat)), (v2 v 203 0 0)) else ((bt (v 210 10) c), (v2 v 203 0 0))) else ((-2), (v2 v 203 0 0))) else ((-2), (v2 v 203 0 0)))
theorem w_mo_ear {X : PX} {d b : Nat} {v : VS} {c : Int} {w : Int} (hX : XI v) (hp_a : R32 c) (hp_b : R32 w) {Q : Option PV → Nat → VS → Prop} (hQ : XI (mo_ear v c w).2 → Q (some (.inl (mo_ear v c w).1)) b (mo_ear v c w).2) : WV X (d + 1 + 1) 237 0 [some (.inr (.inr (some 203))), some (.inl c), some (.inl w)] [] b v Q := by
  rw [mo_ear] at hQ
  refine r_ex 2 (pc' := 2) (lo' := [some (.inr (.inr (some 203))), some (.inl c), some (.inl w)]) (st' := [.inl 0, .inr (.inr (some 203))]) rfl ?_
  refine r_puti2 (j := 0) (pc' := 5) (pc0 := 2) (len := 3) rfl (s_203 _) rfl rfl rfl (Or.inl rfl) rfl rfl ?_
  have hX_1 : XI (v2 v 203 0 0) := XI.put hX trivial
  refine r_ex 2 (pc' := 7) (lo' := [some (.inr (.inr (some 203))), some (.inl c), some (.inl w)]) (st' := [.inl c, .inr (.inr (some 203))]) rfl ?_
  have hp_2 : R32 c := (by first | assumption | omega | (unfold R32 at *; omega) | (unfold R64 at *; omega) | (simp only [R32, R64] at *; omega))
  have hb_3 : 0 ≤ (v 210 3) ∧ (v 210 3) ≤ 12 := hX_1 210 3
  refine r_callb (P := 0 ≤ c ∧ c < (v 210 3)) (m := 238) (args := [.inr (.inr (some 203)), .inl c]) (n' := 237) (pc' := 10) (lo' := [some (.inr (.inr (some 203))), some (.inl c), some (.inl w)]) (st' := []) (I := .invokevirtual 238) (pc0 := 7) (len := 3) rfl rfl rfl (e_mo_isEar hX_1 hp_2) (fun h_7 => ?_) (fun h_7 => ?_)
  · show WV _ _ _ 10 _ _ _ _ _
    rw [if_pos h_7] at hQ
    refine r_ex 2 (pc' := 14) (lo' := [some (.inr (.inr (some 203))), some (.inl c), some (.inl w)]) (st' := [.inl w]) rfl ?_
    refine n_i2l (pc' := 15) (pc0 := 14) (len := 1) rfl (by first | assumption | omega | (unfold R32 at *; omega) | (unfold R64 at *; omega) | (simp only [R32, R64] at *; omega)) rfl ?_
    refine r_ex 2 (pc' := 19) (lo' := [some (.inr (.inr (some 203))), some (.inl c), some (.inl w)]) (st' := [.inr (.inl 4), .inr (.inl 0), .inr (.inl w)]) rfl ?_
    have hp_4 : R64 w := (by first | assumption | omega | (unfold R32 at *; omega) | (unfold R64 at *; omega) | (simp only [R32, R64] at *; omega))
    have hp_5 : R64 (0 : Int) := (by first | assumption | omega | (unfold R32 at *; omega) | (unfold R64 at *; omega) | (simp only [R32, R64] at *; omega))
    have hp_6 : R64 (4 : Int) := (by first | assumption | omega | (unfold R32 at *; omega) | (unfold R64 at *; omega) | (simp only [R32, R64] at *; omega))
    refine r_callb (P := (0 : Int) ≤ w ∧ w ≤ (4 : Int)) (m := 202) (args := [.inr (.inl w), .inr (.inl 0), .inr (.inl 4)]) (n' := 237) (pc' := 22) (lo' := [some (.inr (.inr (some 203))), some (.inl c), some (.inl w)]) (st' := []) (I := .invokestatic 202) (pc0 := 19) (len := 3) rfl rfl rfl (e_mo_in hX_1 hp_4 hp_5 hp_6) (fun h_19 => ?_) (fun h_19 => ?_)
    · show WV _ _ _ 22 _ _ _ _ _
      rw [if_pos h_19] at hQ
      refine r_ex 3 (pc' := 27) (lo' := [some (.inr (.inr (some 203))), some (.inl c), some (.inl w)]) (st' := [.inl 4, .inl w]) rfl ?_
      refine n_ic_ge (pc0 := 27) (len := 3) (t := 43) rfl (by first | assumption | omega | (unfold R32 at *; omega) | (unfold R64 at *; omega) | (simp only [R32, R64] at *; omega)) (by first | assumption | omega | (unfold R32 at *; omega) | (unfold R64 at *; omega) | (simp only [R32, R64] at *; omega)) (fun h_27 => ?_) (fun h_27 => ?_)
      · show WV _ _ _ 43 _ _ _ _ _
        rw [if_neg h_27] at hQ
        refine r_ex 3 (pc' := 49) (lo' := [some (.inr (.inr (some 203))), some (.inl c), some (.inl w)]) (st' := [.inl 10, .inr (.inr (some 210))]) rfl ?_
        refine r_iald2 (j := 0) (x := (v 210 10)) (pc' := 50) (pc0 := 49) (len := 1) rfl (s_210 _) (by first | assumption | omega | (unfold R32 at *; omega) | (unfold R64 at *; omega) | (simp only [R32, R64] at *; omega)) (by decide) rfl rfl ?_
        have hb_7 : 0 ≤ (v 210 10) ∧ (v 210 10) ≤ 4095 := hX_1 210 10
        refine r_ex 4 (pc' := 54) (lo' := [some (.inr (.inr (some 203))), some (.inl c), some (.inl w)]) (st' := [.inl (pm_and (pm_shr (v 210 10) c) 1)]) rfl ?_
        rw [bit_eq (x := (v 210 10)) (c := c) (by first | assumption | omega | (unfold R32 at *; omega) | (unfold R64 at *; omega) | (simp only [R32, R64] at *; omega)) (by first | assumption | omega | (unfold R32 at *; omega) | (unfold R64 at *; omega) | (simp only [R32, R64] at *; omega))]
        have hb_8 := bt01 (v 210 10) c
        refine r_ex 1 (pc' := 59) (lo' := [some (.inr (.inr (some 203))), some (.inl c), some (.inl w)]) (st' := [.inl (bt (v 210 10) c)]) rfl ?_
        refine r_ret (rr := some (.inl (bt (v 210 10) c))) (I := .ireturn) (pc0 := 59) (len := 1) rfl rfl ?_
        exact hQ hX_1 
      · show WV _ _ _ 30 _ _ _ _ _
        rw [if_pos h_27] at hQ
        refine r_ex 7 (pc' := 39) (lo' := [some (.inr (.inr (some 203))), some (.inl c), some (.inl w)]) (st' := [.inl ((4 * c) + w), .inr (.inr (some 212))]) rfl ?_
        refine r_iald2 (j := 0) (x := (v 212 ((((4 * c) + w)).toNat))) (pc' := 40) (pc0 := 39) (len := 1) rfl (s_212 _) (by first | assumption | omega | (unfold R32 at *; omega) | (unfold R64 at *; omega) | (simp only [R32, R64] at *; omega)) (by decide) rfl rfl ?_
        have hb_9 : 0 ≤ (v 212 ((((4 * c) + w)).toNat)) ∧ (v 212 ((((4 * c) + w)).toNat)) ≤ 60 := hX_1 212 ((((4 * c) + w)).toNat)
        refine r_ex 1 (pc' := 59) (lo' := [some (.inr (.inr (some 203))), some (.inl c), some (.inl w)]) (st' := [.inl (v 212 ((((4 * c) + w)).toNat))]) rfl ?_
        refine r_ret (rr := some (.inl (v 212 ((((4 * c) + w)).toNat)))) (I := .ireturn) (pc0 := 59) (len := 1) rfl rfl ?_
        exact hQ hX_1 
    · show WV _ _ _ 22 _ _ _ _ _
      rw [if_neg h_19] at hQ
      refine r_ex 2 (pc' := 59) (lo' := [some (.inr (.inr (some 203))), some (.inl c), some (.inl w)]) (st' := [.inl (-2)]) rfl ?_
      refine r_ret (rr := some (.inl (-2))) (I := .ireturn) (pc0 := 59) (len := 1) rfl rfl ?_
      exact hQ hX_1 
  · show WV _ _ _ 10 _ _ _ _ _
    rw [if_neg h_7] at hQ
    refine r_ex 2 (pc' := 59) (lo' := [some (.inr (.inr (some 203))), some (.inl c), some (.inl w)]) (st' := [.inl (-2)]) rfl ?_
    refine r_ret (rr := some (.inl (-2))) (I := .ireturn) (pc0 := 59) (len := 1) rfl rfl ?_
    exact hQ hX_1 

theorem e_mo_ear {X : PX} {d b : Nat} {v : VS} {c : Int} {w : Int} (hX : XI v) (hp_a : R32 c) (hp_b : R32 w) : EvV X (d + 1 + 1) 237 [.inr (.inr (some 203)), .inl c, .inl w] b v (some (.inl (mo_ear v c w).1)) b ((mo_ear v c w).2) := EvV.of (w_mo_ear hX hp_a hp_b (fun _ => ⟨rfl, rfl, rfl⟩))

theorem i_mo_ear {v : VS} {c : Int} {w : Int} (hX : XI v) (hp_a : R32 c) (hp_b : R32 w) : XI ((mo_ear v c w).2) := by
  have q : WV (0, fun _ => 0, none) (0 + 1 + 1) 237 0 [some (.inr (.inr (some 203))), some (.inl c), some (.inl w)] [] 1 v (fun _ _ _ => XI ((mo_ear v c w).2)) := w_mo_ear (X := (0, fun _ => 0, none)) (d := 0) (b := 1) hX hp_a hp_b (fun q => q)
  obtain ⟨_, _, _, _, _, _, _, q⟩ := q
  exact q

theorem o_mo_ear {rk : Nat} {v : VS} {c : Int} {w : Int} (hk : (rk < 203 ∨ 203 < rk)) : (mo_ear v c w).2 rk = v rk := by
  unfold mo_ear
  by_cases hc_ : 0 ≤ c ∧ c < (v 210 3)
  · rw [if_pos hc_] <;> clear hc_
    by_cases hc_ : (0 : Int) ≤ w ∧ w ≤ (4 : Int)
    · rw [if_pos hc_] <;> clear hc_
      by_cases hc_ : w < 4
      · rw [if_pos hc_] <;> clear hc_
        all_goals (show (v2 v 203 0 0) rk = _)
        all_goals (rw [v2_row (by omega)])
      · rw [if_neg hc_] <;> clear hc_
        all_goals (show (v2 v 203 0 0) rk = _)
        all_goals (rw [v2_row (by omega)])
    · rw [if_neg hc_] <;> clear hc_
      all_goals (show (v2 v 203 0 0) rk = _)
      all_goals (rw [v2_row (by omega)])
  · rw [if_neg hc_] <;> clear hc_
    all_goals (show (v2 v 203 0 0) rk = _)
    all_goals (rw [v2_row (by omega)])

noncomputable def mo_takes (v : VS) (c : Int) (s : Int) : Int × VS :=
  (if 0 ≤ c ∧ c < (v 210 3) then (if 0 ≤ s ∧ s < (v 210 1) then ((mo_takesOf (mo_laysWinds (mo_plainly (v2 v 203 0 0))) c s), (mo_laysWinds (mo_plainly (v2 v 203 0 0)))) else ((-2), (v2 v 203 0 0))) else ((-2), (v2 v 203 0 0)))
theorem w_mo_takes {X : PX} {d b : Nat} {v : VS} {c : Int} {s : Int} (hX : XI v) (hp_a : R32 c) (hp_b : R32 s) (hp_c : CF v) {Q : Option PV → Nat → VS → Prop} (hQ : XI (mo_takes v c s).2 → Q (some (.inl (mo_takes v c s).1)) b (mo_takes v c s).2) : WV X (d + 1 + 1) 239 0 [some (.inr (.inr (some 203))), some (.inl c), some (.inl s)] [] b v Q := by
  rw [mo_takes] at hQ
  refine r_ex 2 (pc' := 2) (lo' := [some (.inr (.inr (some 203))), some (.inl c), some (.inl s)]) (st' := [.inl 0, .inr (.inr (some 203))]) rfl ?_
  refine r_puti2 (j := 0) (pc' := 5) (pc0 := 2) (len := 3) rfl (s_203 _) rfl rfl rfl (Or.inl rfl) rfl rfl ?_
  have hX_1 : XI (v2 v 203 0 0) := XI.put hX trivial
  refine r_ex 2 (pc' := 7) (lo' := [some (.inr (.inr (some 203))), some (.inl c), some (.inl s)]) (st' := [.inl c, .inr (.inr (some 203))]) rfl ?_
  have hp_2 : R32 c := (by first | assumption | omega | (unfold R32 at *; omega) | (unfold R64 at *; omega) | (simp only [R32, R64] at *; omega))
  have hb_3 : 0 ≤ (v 210 3) ∧ (v 210 3) ≤ 12 := hX_1 210 3
  refine r_callb (P := 0 ≤ c ∧ c < (v 210 3)) (m := 238) (args := [.inr (.inr (some 203)), .inl c]) (n' := 239) (pc' := 10) (lo' := [some (.inr (.inr (some 203))), some (.inl c), some (.inl s)]) (st' := []) (I := .invokevirtual 238) (pc0 := 7) (len := 3) rfl rfl rfl (e_mo_isEar hX_1 hp_2) (fun h_7 => ?_) (fun h_7 => ?_)
  · show WV _ _ _ 10 _ _ _ _ _
    rw [if_pos h_7] at hQ
    refine r_ex 3 (pc' := 15) (lo' := [some (.inr (.inr (some 203))), some (.inl c), some (.inl s)]) (st' := [.inl s, .inr (.inr (some 203))]) rfl ?_
    refine n_i2l (pc' := 16) (pc0 := 15) (len := 1) rfl (by first | assumption | omega | (unfold R32 at *; omega) | (unfold R64 at *; omega) | (simp only [R32, R64] at *; omega)) rfl ?_
    have hp_4 : R64 s := (by first | assumption | omega | (unfold R32 at *; omega) | (unfold R64 at *; omega) | (simp only [R32, R64] at *; omega))
    have hb_5 : 0 ≤ (v 210 1) ∧ (v 210 1) ≤ 300 := hX_1 210 1
    refine r_callb (P := 0 ≤ s ∧ s < (v 210 1)) (m := 240) (args := [.inr (.inr (some 203)), .inr (.inl s)]) (n' := 239) (pc' := 19) (lo' := [some (.inr (.inr (some 203))), some (.inl c), some (.inl s)]) (st' := []) (I := .invokevirtual 240) (pc0 := 16) (len := 3) rfl rfl rfl (e_mo_isSecond hX_1 hp_4) (fun h_16 => ?_) (fun h_16 => ?_)
    · show WV _ _ _ 19 _ _ _ _ _
      rw [if_pos h_16] at hQ
      refine r_ex 2 (pc' := 26) (lo' := [some (.inr (.inr (some 203))), some (.inl c), some (.inl s)]) (st' := [.inr (.inr (some 203))]) rfl ?_
      refine r_call (m := 241) (args := [.inr (.inr (some 203))]) (n' := 239) (pc' := 29) (lo' := [some (.inr (.inr (some 203))), some (.inl c), some (.inl s)]) (st' := []) (I := .invokevirtual 241) (pc0 := 26) (len := 3) rfl rfl rfl (e_mo_plainly hX_1) ?_
      show WV _ _ _ 29 _ [] _ (mo_plainly (v2 v 203 0 0)) _
      have hX_6 : XI (mo_plainly (v2 v 203 0 0)) := i_mo_plainly (v := (v2 v 203 0 0)) hX_1
      refine r_ex 1 (pc' := 30) (lo' := [some (.inr (.inr (some 203))), some (.inl c), some (.inl s)]) (st' := [.inr (.inr (some 203))]) rfl ?_
      have hp_7 : CF (mo_plainly (v2 v 203 0 0)) := show CF (mo_plainly (v2 v 203 0 0)) from (show CF (mo_plainly (v2 v 203 0 0)) from CF.of hp_c (fun k h1 h2 => by rw [o_mo_plainly (by omega), v2_row (by omega)]))
      refine r_call (m := 242) (args := [.inr (.inr (some 203))]) (n' := 239) (pc' := 33) (lo' := [some (.inr (.inr (some 203))), some (.inl c), some (.inl s)]) (st' := []) (I := .invokevirtual 242) (pc0 := 30) (len := 3) rfl rfl rfl (e_mo_laysWinds hX_6 hp_7) ?_
      show WV _ _ _ 33 _ [] _ (mo_laysWinds (mo_plainly (v2 v 203 0 0))) _
      have hX_8 : XI (mo_laysWinds (mo_plainly (v2 v 203 0 0))) := i_mo_laysWinds (v := (mo_plainly (v2 v 203 0 0))) hX_6 hp_7
      refine r_ex 3 (pc' := 36) (lo' := [some (.inr (.inr (some 203))), some (.inl c), some (.inl s)]) (st' := [.inl s, .inl c, .inr (.inr (some 203))]) rfl ?_
      have hp_9 : 0 ≤ c ∧ c < 12 := (by first | assumption | omega | (unfold R32 at *; omega) | (unfold R64 at *; omega) | (simp only [R32, R64] at *; omega))
      have hp_10 : 0 ≤ s ∧ s < 300 := (by first | assumption | omega | (unfold R32 at *; omega) | (unfold R64 at *; omega) | (simp only [R32, R64] at *; omega))
      refine r_call (m := 243) (args := [.inr (.inr (some 203)), .inl c, .inl s]) (n' := 239) (pc' := 39) (lo' := [some (.inr (.inr (some 203))), some (.inl c), some (.inl s)]) (st' := []) (I := .invokevirtual 243) (pc0 := 36) (len := 3) rfl rfl rfl (e_mo_takesOf hX_8 hp_9 hp_10) ?_
      show WV _ _ _ 39 _ [.inl (mo_takesOf (mo_laysWinds (mo_plainly (v2 v 203 0 0))) c s)] _ _ _
      have hb_11 := n_mo_takesOf (v := (mo_laysWinds (mo_plainly (v2 v 203 0 0)))) (e := c) (t := s) hX_8 hp_9 hp_10
      refine r_ret (rr := some (.inl (mo_takesOf (mo_laysWinds (mo_plainly (v2 v 203 0 0))) c s))) (I := .ireturn) (pc0 := 39) (len := 1) rfl rfl ?_
      exact hQ hX_8 
    · show WV _ _ _ 19 _ _ _ _ _
      rw [if_neg h_16] at hQ
      refine r_ex 2 (pc' := 24) (lo' := [some (.inr (.inr (some 203))), some (.inl c), some (.inl s)]) (st' := [.inl (-2)]) rfl ?_
      refine r_ret (rr := some (.inl (-2))) (I := .ireturn) (pc0 := 24) (len := 1) rfl rfl ?_
      exact hQ hX_1 
  · show WV _ _ _ 10 _ _ _ _ _
    rw [if_neg h_7] at hQ
    refine r_ex 2 (pc' := 24) (lo' := [some (.inr (.inr (some 203))), some (.inl c), some (.inl s)]) (st' := [.inl (-2)]) rfl ?_
    refine r_ret (rr := some (.inl (-2))) (I := .ireturn) (pc0 := 24) (len := 1) rfl rfl ?_
    exact hQ hX_1 

theorem e_mo_takes {X : PX} {d b : Nat} {v : VS} {c : Int} {s : Int} (hX : XI v) (hp_a : R32 c) (hp_b : R32 s) (hp_c : CF v) : EvV X (d + 1 + 1) 239 [.inr (.inr (some 203)), .inl c, .inl s] b v (some (.inl (mo_takes v c s).1)) b ((mo_takes v c s).2) := EvV.of (w_mo_takes hX hp_a hp_b hp_c (fun _ => ⟨rfl, rfl, rfl⟩))

theorem i_mo_takes {v : VS} {c : Int} {s : Int} (hX : XI v) (hp_a : R32 c) (hp_b : R32 s) (hp_c : CF v) : XI ((mo_takes v c s).2) := by
  have q : WV (0, fun _ => 0, none) (0 + 1 + 1) 239 0 [some (.inr (.inr (some 203))), some (.inl c), some (.inl s)] [] 1 v (fun _ _ _ => XI ((mo_takes v c s).2)) := w_mo_takes (X := (0, fun _ => 0, none)) (d := 0) (b := 1) hX hp_a hp_b hp_c (fun q => q)
  obtain ⟨_, _, _, _, _, _, _, q⟩ := q
  exact q

theorem o_mo_takes {rk : Nat} {v : VS} {c : Int} {s : Int} (hk : (rk < 203 ∨ 203 < rk) ∧ (rk < 219 ∨ 219 < rk)) : (mo_takes v c s).2 rk = v rk := by
  unfold mo_takes
  by_cases hc_ : 0 ≤ c ∧ c < (v 210 3)
  · rw [if_pos hc_] <;> clear hc_
    by_cases hc_ : 0 ≤ s ∧ s < (v 210 1)
    · rw [if_pos hc_] <;> clear hc_
      all_goals (show (mo_laysWinds (mo_plainly (v2 v 203 0 0))) rk = _)
      all_goals (rw [o_mo_laysWinds (by omega), o_mo_plainly (by omega), v2_row (by omega)])
    · rw [if_neg hc_] <;> clear hc_
      all_goals (show (v2 v 203 0 0) rk = _)
      all_goals (rw [v2_row (by omega)])
  · rw [if_neg hc_] <;> clear hc_
    all_goals (show (v2 v 203 0 0) rk = _)
    all_goals (rw [v2_row (by omega)])

noncomputable def mo_strikes (v : VS)  : Int × VS :=
  (if 0 < (v 209 0) then (((mo_told (v2 v 203 0 0)) 203 37), (mo_told (v2 v 203 0 0))) else ((-2), (v2 v 203 0 0)))
theorem w_mo_strikes {X : PX} {d b : Nat} {v : VS}  (hX : XI v) (hp_a : CF v) {Q : Option PV → Nat → VS → Prop} (hQ : XI (mo_strikes v).2 → Q (some (.inl (mo_strikes v).1)) b (mo_strikes v).2) : WV X (d + 1 + 1 + 1 + 1 + 1 + 1) 244 0 [some (.inr (.inr (some 203)))] [] b v Q := by
  rw [mo_strikes] at hQ
  refine r_ex 2 (pc' := 2) (lo' := [some (.inr (.inr (some 203)))]) (st' := [.inl 0, .inr (.inr (some 203))]) rfl ?_
  refine r_puti2 (j := 0) (pc' := 5) (pc0 := 2) (len := 3) rfl (s_203 _) rfl rfl rfl (Or.inl rfl) rfl rfl ?_
  have hX_1 : XI (v2 v 203 0 0) := XI.put hX trivial
  refine r_ex 1 (pc' := 6) (lo' := [some (.inr (.inr (some 203)))]) (st' := [.inr (.inr (some 203))]) rfl ?_
  have hb_2 : 0 ≤ (v 209 0) ∧ (v 209 0) ≤ 2001 := hX_1 209 0
  refine r_callb (P := 0 < (v 209 0)) (m := 245) (args := [.inr (.inr (some 203))]) (n' := 244) (pc' := 9) (lo' := [some (.inr (.inr (some 203)))]) (st' := []) (I := .invokevirtual 245) (pc0 := 6) (len := 3) rfl rfl rfl (e_mo_isBay hX_1) (fun h_6 => ?_) (fun h_6 => ?_)
  · show WV _ _ _ 9 _ _ _ _ _
    rw [if_pos h_6] at hQ
    refine r_ex 2 (pc' := 16) (lo' := [some (.inr (.inr (some 203)))]) (st' := [.inr (.inr (some 203))]) rfl ?_
    have hp_3 : CF (v2 v 203 0 0) := show CF (v2 v 203 0 0) from (show CF (v2 v 203 0 0) from CF.of hp_a (fun k h1 h2 => by rw [v2_row (by omega)]))
    refine r_call (m := 246) (args := [.inr (.inr (some 203))]) (n' := 244) (pc' := 19) (lo' := [some (.inr (.inr (some 203)))]) (st' := []) (I := .invokevirtual 246) (pc0 := 16) (len := 3) rfl rfl rfl (e_mo_told hX_1 hp_3) ?_
    show WV _ _ _ 19 _ [] _ (mo_told (v2 v 203 0 0)) _
    have hX_4 : XI (mo_told (v2 v 203 0 0)) := i_mo_told (v := (v2 v 203 0 0)) hX_1 hp_3
    refine r_ex 2 (pc' := 23) (lo' := [some (.inr (.inr (some 203)))]) (st' := [.inl ((mo_told (v2 v 203 0 0)) 203 37)]) rfl ?_
    have hb_5 : 0 ≤ ((mo_told (v2 v 203 0 0)) 203 37) ∧ ((mo_told (v2 v 203 0 0)) 203 37) ≤ 300 := hX_4 203 37
    refine r_ret (rr := some (.inl ((mo_told (v2 v 203 0 0)) 203 37))) (I := .ireturn) (pc0 := 23) (len := 1) rfl rfl ?_
    exact hQ hX_4 
  · show WV _ _ _ 9 _ _ _ _ _
    rw [if_neg h_6] at hQ
    refine r_ex 2 (pc' := 14) (lo' := [some (.inr (.inr (some 203)))]) (st' := [.inl (-2)]) rfl ?_
    refine r_ret (rr := some (.inl (-2))) (I := .ireturn) (pc0 := 14) (len := 1) rfl rfl ?_
    exact hQ hX_1 

theorem e_mo_strikes {X : PX} {d b : Nat} {v : VS}  (hX : XI v) (hp_a : CF v) : EvV X (d + 1 + 1 + 1 + 1 + 1 + 1) 244 [.inr (.inr (some 203))] b v (some (.inl (mo_strikes v).1)) b ((mo_strikes v).2) := EvV.of (w_mo_strikes hX hp_a (fun _ => ⟨rfl, rfl, rfl⟩))

theorem i_mo_strikes {v : VS}  (hX : XI v) (hp_a : CF v) : XI ((mo_strikes v).2) := by
  have q : WV (0, fun _ => 0, none) (0 + 1 + 1 + 1 + 1 + 1 + 1) 244 0 [some (.inr (.inr (some 203)))] [] 1 v (fun _ _ _ => XI ((mo_strikes v).2)) := w_mo_strikes (X := (0, fun _ => 0, none)) (d := 0) (b := 1) hX hp_a (fun q => q)
  obtain ⟨_, _, _, _, _, _, _, q⟩ := q
  exact q

theorem o_mo_strikes {rk : Nat} {v : VS}  (hk : (rk < 203 ∨ 203 < rk) ∧ (rk < 219 ∨ 231 < rk)) : (mo_strikes v ).2 rk = v rk := by
  unfold mo_strikes
  by_cases hc_ : 0 < (v 209 0)
  · rw [if_pos hc_] <;> clear hc_
    all_goals (show (mo_told (v2 v 203 0 0)) rk = _)
    all_goals (rw [o_mo_told (by omega), v2_row (by omega)])
  · rw [if_neg hc_] <;> clear hc_
    all_goals (show (v2 v 203 0 0) rk = _)
    all_goals (rw [v2_row (by omega)])

noncomputable def mo_strike (v : VS) (i : Int) (w : Int) : Int × VS :=
  (if 0 < (v 209 0) then (if (0 : Int) ≤ w ∧ w ≤ (4 : Int) then (if (0 : Int) ≤ i ∧ i ≤ (((mo_told (v2 v 203 0 0)) 203 37) - 1) then ((mo_at (mo_told (v2 v 203 0 0)) i w), (mo_told (v2 v 203 0 0))) else ((-1), (mo_told (v2 v 203 0 0)))) else ((-2), (v2 v 203 0 0))) else ((-2), (v2 v 203 0 0)))
theorem w_mo_strike {X : PX} {d b : Nat} {v : VS} {i : Int} {w : Int} (hX : XI v) (hp_a : R32 i) (hp_b : R32 w) (hp_c : CF v) {Q : Option PV → Nat → VS → Prop} (hQ : XI (mo_strike v i w).2 → Q (some (.inl (mo_strike v i w).1)) b (mo_strike v i w).2) : WV X (d + 1 + 1 + 1 + 1 + 1 + 1) 253 0 [some (.inr (.inr (some 203))), some (.inl i), some (.inl w)] [] b v Q := by
  rw [mo_strike] at hQ
  refine r_ex 2 (pc' := 2) (lo' := [some (.inr (.inr (some 203))), some (.inl i), some (.inl w)]) (st' := [.inl 0, .inr (.inr (some 203))]) rfl ?_
  refine r_puti2 (j := 0) (pc' := 5) (pc0 := 2) (len := 3) rfl (s_203 _) rfl rfl rfl (Or.inl rfl) rfl rfl ?_
  have hX_1 : XI (v2 v 203 0 0) := XI.put hX trivial
  refine r_ex 1 (pc' := 6) (lo' := [some (.inr (.inr (some 203))), some (.inl i), some (.inl w)]) (st' := [.inr (.inr (some 203))]) rfl ?_
  have hb_2 : 0 ≤ (v 209 0) ∧ (v 209 0) ≤ 2001 := hX_1 209 0
  refine r_callb (P := 0 < (v 209 0)) (m := 245) (args := [.inr (.inr (some 203))]) (n' := 253) (pc' := 9) (lo' := [some (.inr (.inr (some 203))), some (.inl i), some (.inl w)]) (st' := []) (I := .invokevirtual 245) (pc0 := 6) (len := 3) rfl rfl rfl (e_mo_isBay hX_1) (fun h_6 => ?_) (fun h_6 => ?_)
  · show WV _ _ _ 9 _ _ _ _ _
    rw [if_pos h_6] at hQ
    refine r_ex 2 (pc' := 13) (lo' := [some (.inr (.inr (some 203))), some (.inl i), some (.inl w)]) (st' := [.inl w]) rfl ?_
    refine n_i2l (pc' := 14) (pc0 := 13) (len := 1) rfl (by first | assumption | omega | (unfold R32 at *; omega) | (unfold R64 at *; omega) | (simp only [R32, R64] at *; omega)) rfl ?_
    refine r_ex 2 (pc' := 18) (lo' := [some (.inr (.inr (some 203))), some (.inl i), some (.inl w)]) (st' := [.inr (.inl 4), .inr (.inl 0), .inr (.inl w)]) rfl ?_
    have hp_3 : R64 w := (by first | assumption | omega | (unfold R32 at *; omega) | (unfold R64 at *; omega) | (simp only [R32, R64] at *; omega))
    have hp_4 : R64 (0 : Int) := (by first | assumption | omega | (unfold R32 at *; omega) | (unfold R64 at *; omega) | (simp only [R32, R64] at *; omega))
    have hp_5 : R64 (4 : Int) := (by first | assumption | omega | (unfold R32 at *; omega) | (unfold R64 at *; omega) | (simp only [R32, R64] at *; omega))
    refine r_callb (P := (0 : Int) ≤ w ∧ w ≤ (4 : Int)) (m := 202) (args := [.inr (.inl w), .inr (.inl 0), .inr (.inl 4)]) (n' := 253) (pc' := 21) (lo' := [some (.inr (.inr (some 203))), some (.inl i), some (.inl w)]) (st' := []) (I := .invokestatic 202) (pc0 := 18) (len := 3) rfl rfl rfl (e_mo_in hX_1 hp_3 hp_4 hp_5) (fun h_18 => ?_) (fun h_18 => ?_)
    · show WV _ _ _ 21 _ _ _ _ _
      rw [if_pos h_18] at hQ
      refine r_ex 2 (pc' := 28) (lo' := [some (.inr (.inr (some 203))), some (.inl i), some (.inl w)]) (st' := [.inr (.inr (some 203))]) rfl ?_
      have hp_6 : CF (v2 v 203 0 0) := show CF (v2 v 203 0 0) from (show CF (v2 v 203 0 0) from CF.of hp_c (fun k h1 h2 => by rw [v2_row (by omega)]))
      refine r_call (m := 246) (args := [.inr (.inr (some 203))]) (n' := 253) (pc' := 31) (lo' := [some (.inr (.inr (some 203))), some (.inl i), some (.inl w)]) (st' := []) (I := .invokevirtual 246) (pc0 := 28) (len := 3) rfl rfl rfl (e_mo_told hX_1 hp_6) ?_
      show WV _ _ _ 31 _ [] _ (mo_told (v2 v 203 0 0)) _
      have hX_7 : XI (mo_told (v2 v 203 0 0)) := i_mo_told (v := (v2 v 203 0 0)) hX_1 hp_6
      refine r_ex 1 (pc' := 32) (lo' := [some (.inr (.inr (some 203))), some (.inl i), some (.inl w)]) (st' := [.inl i]) rfl ?_
      refine n_i2l (pc' := 33) (pc0 := 32) (len := 1) rfl (by first | assumption | omega | (unfold R32 at *; omega) | (unfold R64 at *; omega) | (simp only [R32, R64] at *; omega)) rfl ?_
      refine r_ex 5 (pc' := 40) (lo' := [some (.inr (.inr (some 203))), some (.inl i), some (.inl w)]) (st' := [.inl (((mo_told (v2 v 203 0 0)) 203 37) - 1), .inr (.inl 0), .inr (.inl i)]) rfl ?_
      have hb_8 : 0 ≤ ((mo_told (v2 v 203 0 0)) 203 37) ∧ ((mo_told (v2 v 203 0 0)) 203 37) ≤ 300 := hX_7 203 37
      refine n_i2l (pc' := 41) (pc0 := 40) (len := 1) rfl (by first | assumption | omega | (unfold R32 at *; omega) | (unfold R64 at *; omega) | (simp only [R32, R64] at *; omega)) rfl ?_
      have hp_9 : R64 i := (by first | assumption | omega | (unfold R32 at *; omega) | (unfold R64 at *; omega) | (simp only [R32, R64] at *; omega))
      have hp_10 : R64 (0 : Int) := (by first | assumption | omega | (unfold R32 at *; omega) | (unfold R64 at *; omega) | (simp only [R32, R64] at *; omega))
      have hp_11 : R64 (((mo_told (v2 v 203 0 0)) 203 37) - 1) := (by first | assumption | omega | (unfold R32 at *; omega) | (unfold R64 at *; omega) | (simp only [R32, R64] at *; omega))
      refine r_callb (P := (0 : Int) ≤ i ∧ i ≤ (((mo_told (v2 v 203 0 0)) 203 37) - 1)) (m := 202) (args := [.inr (.inl i), .inr (.inl 0), .inr (.inl (((mo_told (v2 v 203 0 0)) 203 37) - 1))]) (n' := 253) (pc' := 44) (lo' := [some (.inr (.inr (some 203))), some (.inl i), some (.inl w)]) (st' := []) (I := .invokestatic 202) (pc0 := 41) (len := 3) rfl rfl rfl (e_mo_in hX_7 hp_9 hp_10 hp_11) (fun h_41 => ?_) (fun h_41 => ?_)
      · show WV _ _ _ 44 _ _ _ _ _
        rw [if_pos h_41] at hQ
        refine r_ex 4 (pc' := 50) (lo' := [some (.inr (.inr (some 203))), some (.inl i), some (.inl w)]) (st' := [.inl w, .inl i, .inr (.inr (some 203))]) rfl ?_
        have hp_12 : 0 ≤ i ∧ i < 300 := (by first | assumption | omega | (unfold R32 at *; omega) | (unfold R64 at *; omega) | (simp only [R32, R64] at *; omega))
        have hp_13 : 0 ≤ w ∧ w < 5 := (by first | assumption | omega | (unfold R32 at *; omega) | (unfold R64 at *; omega) | (simp only [R32, R64] at *; omega))
        refine r_call (m := 254) (args := [.inr (.inr (some 203)), .inl i, .inl w]) (n' := 253) (pc' := 53) (lo' := [some (.inr (.inr (some 203))), some (.inl i), some (.inl w)]) (st' := []) (I := .invokevirtual 254) (pc0 := 50) (len := 3) rfl rfl rfl (e_mo_at hX_7 hp_12 hp_13) ?_
        show WV _ _ _ 53 _ [.inl (mo_at (mo_told (v2 v 203 0 0)) i w)] _ _ _
        have hb_14 := n_mo_at (v := (mo_told (v2 v 203 0 0))) (i := i) (w := w) hX_7 hp_12 hp_13
        refine r_ex 1 (pc' := 57) (lo' := [some (.inr (.inr (some 203))), some (.inl i), some (.inl w)]) (st' := [.inl (mo_at (mo_told (v2 v 203 0 0)) i w)]) rfl ?_
        refine r_ret (rr := some (.inl (mo_at (mo_told (v2 v 203 0 0)) i w))) (I := .ireturn) (pc0 := 57) (len := 1) rfl rfl ?_
        exact hQ hX_7 
      · show WV _ _ _ 44 _ _ _ _ _
        rw [if_neg h_41] at hQ
        refine r_ex 2 (pc' := 57) (lo' := [some (.inr (.inr (some 203))), some (.inl i), some (.inl w)]) (st' := [.inl (-1)]) rfl ?_
        refine r_ret (rr := some (.inl (-1))) (I := .ireturn) (pc0 := 57) (len := 1) rfl rfl ?_
        exact hQ hX_7 
    · show WV _ _ _ 21 _ _ _ _ _
      rw [if_neg h_18] at hQ
      refine r_ex 2 (pc' := 26) (lo' := [some (.inr (.inr (some 203))), some (.inl i), some (.inl w)]) (st' := [.inl (-2)]) rfl ?_
      refine r_ret (rr := some (.inl (-2))) (I := .ireturn) (pc0 := 26) (len := 1) rfl rfl ?_
      exact hQ hX_1 
  · show WV _ _ _ 9 _ _ _ _ _
    rw [if_neg h_6] at hQ
    refine r_ex 2 (pc' := 26) (lo' := [some (.inr (.inr (some 203))), some (.inl i), some (.inl w)]) (st' := [.inl (-2)]) rfl ?_
    refine r_ret (rr := some (.inl (-2))) (I := .ireturn) (pc0 := 26) (len := 1) rfl rfl ?_
    exact hQ hX_1 

theorem e_mo_strike {X : PX} {d b : Nat} {v : VS} {i : Int} {w : Int} (hX : XI v) (hp_a : R32 i) (hp_b : R32 w) (hp_c : CF v) : EvV X (d + 1 + 1 + 1 + 1 + 1 + 1) 253 [.inr (.inr (some 203)), .inl i, .inl w] b v (some (.inl (mo_strike v i w).1)) b ((mo_strike v i w).2) := EvV.of (w_mo_strike hX hp_a hp_b hp_c (fun _ => ⟨rfl, rfl, rfl⟩))

theorem i_mo_strike {v : VS} {i : Int} {w : Int} (hX : XI v) (hp_a : R32 i) (hp_b : R32 w) (hp_c : CF v) : XI ((mo_strike v i w).2) := by
  have q : WV (0, fun _ => 0, none) (0 + 1 + 1 + 1 + 1 + 1 + 1) 253 0 [some (.inr (.inr (some 203))), some (.inl i), some (.inl w)] [] 1 v (fun _ _ _ => XI ((mo_strike v i w).2)) := w_mo_strike (X := (0, fun _ => 0, none)) (d := 0) (b := 1) hX hp_a hp_b hp_c (fun q => q)
  obtain ⟨_, _, _, _, _, _, _, q⟩ := q
  exact q

theorem o_mo_strike {rk : Nat} {v : VS} {i : Int} {w : Int} (hk : (rk < 203 ∨ 203 < rk) ∧ (rk < 219 ∨ 231 < rk)) : (mo_strike v i w).2 rk = v rk := by
  unfold mo_strike
  by_cases hc_ : 0 < (v 209 0)
  · rw [if_pos hc_] <;> clear hc_
    by_cases hc_ : (0 : Int) ≤ w ∧ w ≤ (4 : Int)
    · rw [if_pos hc_] <;> clear hc_
      by_cases hc_ : (0 : Int) ≤ i ∧ i ≤ (((mo_told (v2 v 203 0 0)) 203 37) - 1)
      · rw [if_pos hc_] <;> clear hc_
        all_goals (show (mo_told (v2 v 203 0 0)) rk = _)
        all_goals (rw [o_mo_told (by omega), v2_row (by omega)])
      · rw [if_neg hc_] <;> clear hc_
        all_goals (show (mo_told (v2 v 203 0 0)) rk = _)
        all_goals (rw [o_mo_told (by omega), v2_row (by omega)])
    · rw [if_neg hc_] <;> clear hc_
      all_goals (show (v2 v 203 0 0) rk = _)
      all_goals (rw [v2_row (by omega)])
  · rw [if_neg hc_] <;> clear hc_
    all_goals (show (v2 v 203 0 0) rk = _)
    all_goals (rw [v2_row (by omega)])

noncomputable def mo_lost (v : VS) (w : Int) : Int × VS :=
  (if 0 < (v 209 0) then (if (0 : Int) ≤ w ∧ w ≤ (7 : Int) then (((mo_told (v2 v 203 0 0)) 221 ((w).toNat)), (mo_told (v2 v 203 0 0))) else ((-2), (v2 v 203 0 0))) else ((-2), (v2 v 203 0 0)))
theorem w_mo_lost {X : PX} {d b : Nat} {v : VS} {w : Int} (hX : XI v) (hp_a : R32 w) (hp_b : CF v) {Q : Option PV → Nat → VS → Prop} (hQ : XI (mo_lost v w).2 → Q (some (.inl (mo_lost v w).1)) b (mo_lost v w).2) : WV X (d + 1 + 1 + 1 + 1 + 1 + 1) 255 0 [some (.inr (.inr (some 203))), some (.inl w)] [] b v Q := by
  rw [mo_lost] at hQ
  refine r_ex 2 (pc' := 2) (lo' := [some (.inr (.inr (some 203))), some (.inl w)]) (st' := [.inl 0, .inr (.inr (some 203))]) rfl ?_
  refine r_puti2 (j := 0) (pc' := 5) (pc0 := 2) (len := 3) rfl (s_203 _) rfl rfl rfl (Or.inl rfl) rfl rfl ?_
  have hX_1 : XI (v2 v 203 0 0) := XI.put hX trivial
  refine r_ex 1 (pc' := 6) (lo' := [some (.inr (.inr (some 203))), some (.inl w)]) (st' := [.inr (.inr (some 203))]) rfl ?_
  have hb_2 : 0 ≤ (v 209 0) ∧ (v 209 0) ≤ 2001 := hX_1 209 0
  refine r_callb (P := 0 < (v 209 0)) (m := 245) (args := [.inr (.inr (some 203))]) (n' := 255) (pc' := 9) (lo' := [some (.inr (.inr (some 203))), some (.inl w)]) (st' := []) (I := .invokevirtual 245) (pc0 := 6) (len := 3) rfl rfl rfl (e_mo_isBay hX_1) (fun h_6 => ?_) (fun h_6 => ?_)
  · show WV _ _ _ 9 _ _ _ _ _
    rw [if_pos h_6] at hQ
    refine r_ex 2 (pc' := 13) (lo' := [some (.inr (.inr (some 203))), some (.inl w)]) (st' := [.inl w]) rfl ?_
    refine n_i2l (pc' := 14) (pc0 := 13) (len := 1) rfl (by first | assumption | omega | (unfold R32 at *; omega) | (unfold R64 at *; omega) | (simp only [R32, R64] at *; omega)) rfl ?_
    refine r_ex 2 (pc' := 18) (lo' := [some (.inr (.inr (some 203))), some (.inl w)]) (st' := [.inr (.inl 7), .inr (.inl 0), .inr (.inl w)]) rfl ?_
    have hp_3 : R64 w := (by first | assumption | omega | (unfold R32 at *; omega) | (unfold R64 at *; omega) | (simp only [R32, R64] at *; omega))
    have hp_4 : R64 (0 : Int) := (by first | assumption | omega | (unfold R32 at *; omega) | (unfold R64 at *; omega) | (simp only [R32, R64] at *; omega))
    have hp_5 : R64 (7 : Int) := (by first | assumption | omega | (unfold R32 at *; omega) | (unfold R64 at *; omega) | (simp only [R32, R64] at *; omega))
    refine r_callb (P := (0 : Int) ≤ w ∧ w ≤ (7 : Int)) (m := 202) (args := [.inr (.inl w), .inr (.inl 0), .inr (.inl 7)]) (n' := 255) (pc' := 21) (lo' := [some (.inr (.inr (some 203))), some (.inl w)]) (st' := []) (I := .invokestatic 202) (pc0 := 18) (len := 3) rfl rfl rfl (e_mo_in hX_1 hp_3 hp_4 hp_5) (fun h_18 => ?_) (fun h_18 => ?_)
    · show WV _ _ _ 21 _ _ _ _ _
      rw [if_pos h_18] at hQ
      refine r_ex 2 (pc' := 28) (lo' := [some (.inr (.inr (some 203))), some (.inl w)]) (st' := [.inr (.inr (some 203))]) rfl ?_
      have hp_6 : CF (v2 v 203 0 0) := show CF (v2 v 203 0 0) from (show CF (v2 v 203 0 0) from CF.of hp_b (fun k h1 h2 => by rw [v2_row (by omega)]))
      refine r_call (m := 246) (args := [.inr (.inr (some 203))]) (n' := 255) (pc' := 31) (lo' := [some (.inr (.inr (some 203))), some (.inl w)]) (st' := []) (I := .invokevirtual 246) (pc0 := 28) (len := 3) rfl rfl rfl (e_mo_told hX_1 hp_6) ?_
      show WV _ _ _ 31 _ [] _ (mo_told (v2 v 203 0 0)) _
      have hX_7 : XI (mo_told (v2 v 203 0 0)) := i_mo_told (v := (v2 v 203 0 0)) hX_1 hp_6
      refine r_ex 3 (pc' := 36) (lo' := [some (.inr (.inr (some 203))), some (.inl w)]) (st' := [.inl w, .inr (.inr (some 221))]) rfl ?_
      refine r_iald2 (j := 0) (x := ((mo_told (v2 v 203 0 0)) 221 ((w).toNat))) (pc' := 37) (pc0 := 36) (len := 1) rfl (s_221 _) (by first | assumption | omega | (unfold R32 at *; omega) | (unfold R64 at *; omega) | (simp only [R32, R64] at *; omega)) (by decide) rfl rfl ?_
      refine r_ret (rr := some (.inl ((mo_told (v2 v 203 0 0)) 221 ((w).toNat)))) (I := .ireturn) (pc0 := 37) (len := 1) rfl rfl ?_
      exact hQ hX_7 
    · show WV _ _ _ 21 _ _ _ _ _
      rw [if_neg h_18] at hQ
      refine r_ex 2 (pc' := 26) (lo' := [some (.inr (.inr (some 203))), some (.inl w)]) (st' := [.inl (-2)]) rfl ?_
      refine r_ret (rr := some (.inl (-2))) (I := .ireturn) (pc0 := 26) (len := 1) rfl rfl ?_
      exact hQ hX_1 
  · show WV _ _ _ 9 _ _ _ _ _
    rw [if_neg h_6] at hQ
    refine r_ex 2 (pc' := 26) (lo' := [some (.inr (.inr (some 203))), some (.inl w)]) (st' := [.inl (-2)]) rfl ?_
    refine r_ret (rr := some (.inl (-2))) (I := .ireturn) (pc0 := 26) (len := 1) rfl rfl ?_
    exact hQ hX_1 

theorem e_mo_lost {X : PX} {d b : Nat} {v : VS} {w : Int} (hX : XI v) (hp_a : R32 w) (hp_b : CF v) : EvV X (d + 1 + 1 + 1 + 1 + 1 + 1) 255 [.inr (.inr (some 203)), .inl w] b v (some (.inl (mo_lost v w).1)) b ((mo_lost v w).2) := EvV.of (w_mo_lost hX hp_a hp_b (fun _ => ⟨rfl, rfl, rfl⟩))

theorem i_mo_lost {v : VS} {w : Int} (hX : XI v) (hp_a : R32 w) (hp_b : CF v) : XI ((mo_lost v w).2) := by
  have q : WV (0, fun _ => 0, none) (0 + 1 + 1 + 1 + 1 + 1 + 1) 255 0 [some (.inr (.inr (some 203))), some (.inl w)] [] 1 v (fun _ _ _ => XI ((mo_lost v w).2)) := w_mo_lost (X := (0, fun _ => 0, none)) (d := 0) (b := 1) hX hp_a hp_b (fun q => q)
  obtain ⟨_, _, _, _, _, _, _, q⟩ := q
  exact q

theorem o_mo_lost {rk : Nat} {v : VS} {w : Int} (hk : (rk < 203 ∨ 203 < rk) ∧ (rk < 219 ∨ 231 < rk)) : (mo_lost v w).2 rk = v rk := by
  unfold mo_lost
  by_cases hc_ : 0 < (v 209 0)
  · rw [if_pos hc_] <;> clear hc_
    by_cases hc_ : (0 : Int) ≤ w ∧ w ≤ (7 : Int)
    · rw [if_pos hc_] <;> clear hc_
      all_goals (show (mo_told (v2 v 203 0 0)) rk = _)
      all_goals (rw [o_mo_told (by omega), v2_row (by omega)])
    · rw [if_neg hc_] <;> clear hc_
      all_goals (show (v2 v 203 0 0) rk = _)
      all_goals (rw [v2_row (by omega)])
  · rw [if_neg hc_] <;> clear hc_
    all_goals (show (v2 v 203 0 0) rk = _)
    all_goals (rw [v2_row (by omega)])

noncomputable def mo_hourOf_5 : Nat → VS → Int → Int → Int → Int → Int
  | 0, v, c, t, h, i => 0
  | f + 1, v, c, t, h, i => (if i < (v 203 37) then (if (mo_at v i 1) = c then (if t < (mo_at v i 0) then (mo_hourOf_5 f v c t h (i + 1)) else (mo_hourOf_5 f v c t (mo_at v i 2) (i + 1))) else (mo_hourOf_5 f v c t h (i + 1))) else h)
noncomputable def mo_hourOf (v : VS) (c : Int) (t : Int) : Int :=
  (mo_hourOf_5 301 v c t 0 0)
theorem l_mo_hourOf_5 {X : PX} {d b : Nat} {Q : Option PV → Nat → VS → Prop}  : ∀ (f : Nat) (v : VS) (c : Int) (t : Int) (h : Int) (i : Int), XI v → (0 ≤ i ∧ i ≤ 300) → (R32 c) → (R32 t) → (-1 ≤ h ∧ h ≤ 3699) → (300 < i + f) → (∀ qx0 : Option PV, ∀ qx1 : Option PV, ∀ qx2 : Option PV, ∀ qx4 : Option PV, (-1 ≤ (mo_hourOf_5 f v c t h i) ∧ (mo_hourOf_5 f v c t h i) ≤ 3699) → WV X (d + 1) 257 50 [qx0, qx1, qx2, some (.inl (mo_hourOf_5 f v c t h i)), qx4] [] b v Q) → WV X (d + 1) 257 5 [some (.inr (.inr (some 203))), some (.inl c), some (.inl t), some (.inl h), some (.inl i)] [] b v Q := by
  intro f
  induction f with
  | zero =>
    intro v c t h i hX hi_0 hi_1 hi_2 hi_3 hf hK
    exfalso
    omega
  | succ f ih =>
    intro v c t h i hX hi_0 hi_1 hi_2 hi_3 hf hK
    rw [mo_hourOf_5] at hK
    refine r_ex 3 (pc' := 11) (lo' := [some (.inr (.inr (some 203))), some (.inl c), some (.inl t), some (.inl h), some (.inl i)]) (st' := [.inl (v 203 37), .inl i]) rfl ?_
    have hb_1 : 0 ≤ (v 203 37) ∧ (v 203 37) ≤ 300 := hX 203 37
    refine n_ic_ge (pc0 := 11) (len := 3) (t := 50) rfl (by first | assumption | omega | (unfold R32 at *; omega) | (unfold R64 at *; omega) | (simp only [R32, R64] at *; omega)) (by first | assumption | omega | (unfold R32 at *; omega) | (unfold R64 at *; omega) | (simp only [R32, R64] at *; omega)) (fun h_11 => ?_) (fun h_11 => ?_)
    · show WV _ _ _ 50 _ _ _ _ _
      rw [if_neg h_11] at hK
      exact hK _ _ _ _  (by first | assumption | omega | (unfold R32 at *; omega) | (unfold R64 at *; omega) | (simp only [R32, R64] at *; omega))
    · show WV _ _ _ 14 _ _ _ _ _
      rw [if_pos h_11] at hK
      refine r_ex 3 (pc' := 18) (lo' := [some (.inr (.inr (some 203))), some (.inl c), some (.inl t), some (.inl h), some (.inl i)]) (st' := [.inl 1, .inl i, .inr (.inr (some 203))]) rfl ?_
      have hp_2 : 0 ≤ i ∧ i < 300 := (by first | assumption | omega | (unfold R32 at *; omega) | (unfold R64 at *; omega) | (simp only [R32, R64] at *; omega))
      have hp_3 : 0 ≤ (1 : Int) ∧ (1 : Int) < 5 := (by first | assumption | omega | (unfold R32 at *; omega) | (unfold R64 at *; omega) | (simp only [R32, R64] at *; omega))
      refine r_call (m := 254) (args := [.inr (.inr (some 203)), .inl i, .inl 1]) (n' := 257) (pc' := 21) (lo' := [some (.inr (.inr (some 203))), some (.inl c), some (.inl t), some (.inl h), some (.inl i)]) (st' := []) (I := .invokevirtual 254) (pc0 := 18) (len := 3) rfl rfl rfl (e_mo_at hX hp_2 hp_3) ?_
      show WV _ _ _ 21 _ [.inl (mo_at v i 1)] _ _ _
      have hb_4 := n_mo_at (v := v) (i := i) (w := 1) hX hp_2 hp_3
      refine r_ex 1 (pc' := 22) (lo' := [some (.inr (.inr (some 203))), some (.inl c), some (.inl t), some (.inl h), some (.inl i)]) (st' := [.inl c, .inl (mo_at v i 1)]) rfl ?_
      refine n_ic_ne (pc0 := 22) (len := 3) (t := 44) rfl (by first | assumption | omega | (unfold R32 at *; omega) | (unfold R64 at *; omega) | (simp only [R32, R64] at *; omega)) (by first | assumption | omega | (unfold R32 at *; omega) | (unfold R64 at *; omega) | (simp only [R32, R64] at *; omega)) (fun h_22 => ?_) (fun h_22 => ?_)
      · show WV _ _ _ 44 _ _ _ _ _
        rw [if_neg h_22] at hK
        refine r_ex 2 (pc' := 5) (lo' := [some (.inr (.inr (some 203))), some (.inl c), some (.inl t), some (.inl h), some (.inl (i + 1))]) (st' := []) rfl ?_
        refine ih v c t h (i + 1)  hX (by first | assumption | omega | (unfold R32 at *; omega) | (unfold R64 at *; omega) | (simp only [R32, R64] at *; omega)) (by first | assumption | omega | (unfold R32 at *; omega) | (unfold R64 at *; omega) | (simp only [R32, R64] at *; omega)) (by first | assumption | omega | (unfold R32 at *; omega) | (unfold R64 at *; omega) | (simp only [R32, R64] at *; omega)) (by first | assumption | omega | (unfold R32 at *; omega) | (unfold R64 at *; omega) | (simp only [R32, R64] at *; omega)) (by first | assumption | omega | (unfold R32 at *; omega) | (unfold R64 at *; omega) | (simp only [R32, R64] at *; omega)) hK
      · show WV _ _ _ 25 _ _ _ _ _
        rw [if_pos h_22] at hK
        refine r_ex 3 (pc' := 29) (lo' := [some (.inr (.inr (some 203))), some (.inl c), some (.inl t), some (.inl h), some (.inl i)]) (st' := [.inl 0, .inl i, .inr (.inr (some 203))]) rfl ?_
        have hp_5 : 0 ≤ i ∧ i < 300 := (by first | assumption | omega | (unfold R32 at *; omega) | (unfold R64 at *; omega) | (simp only [R32, R64] at *; omega))
        have hp_6 : 0 ≤ (0 : Int) ∧ (0 : Int) < 5 := (by first | assumption | omega | (unfold R32 at *; omega) | (unfold R64 at *; omega) | (simp only [R32, R64] at *; omega))
        refine r_call (m := 254) (args := [.inr (.inr (some 203)), .inl i, .inl 0]) (n' := 257) (pc' := 32) (lo' := [some (.inr (.inr (some 203))), some (.inl c), some (.inl t), some (.inl h), some (.inl i)]) (st' := []) (I := .invokevirtual 254) (pc0 := 29) (len := 3) rfl rfl rfl (e_mo_at hX hp_5 hp_6) ?_
        show WV _ _ _ 32 _ [.inl (mo_at v i 0)] _ _ _
        have hb_7 := n_mo_at (v := v) (i := i) (w := 0) hX hp_5 hp_6
        refine r_ex 1 (pc' := 33) (lo' := [some (.inr (.inr (some 203))), some (.inl c), some (.inl t), some (.inl h), some (.inl i)]) (st' := [.inl t, .inl (mo_at v i 0)]) rfl ?_
        refine n_ic_gt (pc0 := 33) (len := 3) (t := 44) rfl (by first | assumption | omega | (unfold R32 at *; omega) | (unfold R64 at *; omega) | (simp only [R32, R64] at *; omega)) (by first | assumption | omega | (unfold R32 at *; omega) | (unfold R64 at *; omega) | (simp only [R32, R64] at *; omega)) (fun h_33 => ?_) (fun h_33 => ?_)
        · show WV _ _ _ 44 _ _ _ _ _
          rw [if_pos h_33] at hK
          refine r_ex 2 (pc' := 5) (lo' := [some (.inr (.inr (some 203))), some (.inl c), some (.inl t), some (.inl h), some (.inl (i + 1))]) (st' := []) rfl ?_
          refine ih v c t h (i + 1)  hX (by first | assumption | omega | (unfold R32 at *; omega) | (unfold R64 at *; omega) | (simp only [R32, R64] at *; omega)) (by first | assumption | omega | (unfold R32 at *; omega) | (unfold R64 at *; omega) | (simp only [R32, R64] at *; omega)) (by first | assumption | omega | (unfold R32 at *; omega) | (unfold R64 at *; omega) | (simp only [R32, R64] at *; omega)) (by first | assumption | omega | (unfold R32 at *; omega) | (unfold R64 at *; omega) | (simp only [R32, R64] at *; omega)) (by first | assumption | omega | (unfold R32 at *; omega) | (unfold R64 at *; omega) | (simp only [R32, R64] at *; omega)) hK
        · show WV _ _ _ 36 _ _ _ _ _
          rw [if_neg h_33] at hK
          refine r_ex 3 (pc' := 40) (lo' := [some (.inr (.inr (some 203))), some (.inl c), some (.inl t), some (.inl h), some (.inl i)]) (st' := [.inl 2, .inl i, .inr (.inr (some 203))]) rfl ?_
          have hp_8 : 0 ≤ i ∧ i < 300 := (by first | assumption | omega | (unfold R32 at *; omega) | (unfold R64 at *; omega) | (simp only [R32, R64] at *; omega))
          have hp_9 : 0 ≤ (2 : Int) ∧ (2 : Int) < 5 := (by first | assumption | omega | (unfold R32 at *; omega) | (unfold R64 at *; omega) | (simp only [R32, R64] at *; omega))
          refine r_call (m := 254) (args := [.inr (.inr (some 203)), .inl i, .inl 2]) (n' := 257) (pc' := 43) (lo' := [some (.inr (.inr (some 203))), some (.inl c), some (.inl t), some (.inl h), some (.inl i)]) (st' := []) (I := .invokevirtual 254) (pc0 := 40) (len := 3) rfl rfl rfl (e_mo_at hX hp_8 hp_9) ?_
          show WV _ _ _ 43 _ [.inl (mo_at v i 2)] _ _ _
          have hb_10 := n_mo_at (v := v) (i := i) (w := 2) hX hp_8 hp_9
          refine r_ex 3 (pc' := 5) (lo' := [some (.inr (.inr (some 203))), some (.inl c), some (.inl t), some (.inl (mo_at v i 2)), some (.inl (i + 1))]) (st' := []) rfl ?_
          refine ih v c t (mo_at v i 2) (i + 1)  hX (by first | assumption | omega | (unfold R32 at *; omega) | (unfold R64 at *; omega) | (simp only [R32, R64] at *; omega)) (by first | assumption | omega | (unfold R32 at *; omega) | (unfold R64 at *; omega) | (simp only [R32, R64] at *; omega)) (by first | assumption | omega | (unfold R32 at *; omega) | (unfold R64 at *; omega) | (simp only [R32, R64] at *; omega)) (by first | assumption | omega | (unfold R32 at *; omega) | (unfold R64 at *; omega) | (simp only [R32, R64] at *; omega)) (by first | assumption | omega | (unfold R32 at *; omega) | (unfold R64 at *; omega) | (simp only [R32, R64] at *; omega)) hK

theorem w_mo_hourOf {X : PX} {d b : Nat} {v : VS} {c : Int} {t : Int} (hX : XI v) (hp_a : R32 c) (hp_b : R32 t) {Q : Option PV → Nat → VS → Prop} (hQ : (-1 ≤ (mo_hourOf v c t) ∧ (mo_hourOf v c t) ≤ 3699) → Q (some (.inl (mo_hourOf v c t))) b v) : WV X (d + 1) 257 0 [some (.inr (.inr (some 203))), some (.inl c), some (.inl t), none, none] [] b v Q := by
  rw [mo_hourOf] at hQ
  refine r_ex 4 (pc' := 5) (lo' := [some (.inr (.inr (some 203))), some (.inl c), some (.inl t), some (.inl 0), some (.inl 0)]) (st' := []) rfl ?_
  refine l_mo_hourOf_5 301 v c t 0 0  hX (by first | assumption | omega | (unfold R32 at *; omega) | (unfold R64 at *; omega) | (simp only [R32, R64] at *; omega)) (by first | assumption | omega | (unfold R32 at *; omega) | (unfold R64 at *; omega) | (simp only [R32, R64] at *; omega)) (by first | assumption | omega | (unfold R32 at *; omega) | (unfold R64 at *; omega) | (simp only [R32, R64] at *; omega)) (by first | assumption | omega | (unfold R32 at *; omega) | (unfold R64 at *; omega) | (simp only [R32, R64] at *; omega)) (by first | assumption | omega | (unfold R32 at *; omega) | (unfold R64 at *; omega) | (simp only [R32, R64] at *; omega)) (fun o0_11 o1_11 o2_11 o4_11  hv_11_0 => ?_)
  show WV _ _ _ 50 _ _ _ _ _
  refine r_ex 1 (pc' := 51) (lo' := [o0_11, o1_11, o2_11, some (.inl (mo_hourOf_5 301 v c t 0 0)), o4_11]) (st' := [.inl (mo_hourOf_5 301 v c t 0 0)]) rfl ?_
  refine r_ret (rr := some (.inl (mo_hourOf_5 301 v c t 0 0))) (I := .ireturn) (pc0 := 51) (len := 1) rfl rfl ?_
  exact hQ (by first | assumption | omega | (unfold R32 at *; omega) | (unfold R64 at *; omega) | (simp only [R32, R64] at *; omega))

theorem e_mo_hourOf {X : PX} {d b : Nat} {v : VS} {c : Int} {t : Int} (hX : XI v) (hp_a : R32 c) (hp_b : R32 t) : EvV X (d + 1) 257 [.inr (.inr (some 203)), .inl c, .inl t] b v (some (.inl (mo_hourOf v c t))) b v := EvV.of (w_mo_hourOf hX hp_a hp_b (fun _ => ⟨rfl, rfl, rfl⟩))

theorem n_mo_hourOf {v : VS} {c : Int} {t : Int} (hX : XI v) (hp_a : R32 c) (hp_b : R32 t) : -1 ≤ (mo_hourOf v c t) ∧ (mo_hourOf v c t) ≤ 3699 := by
  have q : WV (0, fun _ => 0, none) (0 + 1) 257 0 [some (.inr (.inr (some 203))), some (.inl c), some (.inl t), none, none] [] 1 v (fun _ _ _ => -1 ≤ (mo_hourOf v c t) ∧ (mo_hourOf v c t) ≤ 3699) := w_mo_hourOf (X := (0, fun _ => 0, none)) (d := 0) (b := 1) hX hp_a hp_b (fun q => q)
  obtain ⟨_, _, _, _, _, _, _, q⟩ := q
  exact q

noncomputable def mo_hour (v : VS) (c : Int) (s : Int) : Int × VS :=
  (if 0 ≤ c ∧ c < (v 210 0) then (if 0 ≤ s ∧ s < (v 210 1) then ((mo_hourOf (mo_told (v2 v 203 0 0)) c s), (mo_told (v2 v 203 0 0))) else ((-2), (v2 v 203 0 0))) else ((-2), (v2 v 203 0 0)))
theorem w_mo_hour {X : PX} {d b : Nat} {v : VS} {c : Int} {s : Int} (hX : XI v) (hp_a : R32 c) (hp_b : R32 s) (hp_c : CF v) {Q : Option PV → Nat → VS → Prop} (hQ : XI (mo_hour v c s).2 → Q (some (.inl (mo_hour v c s).1)) b (mo_hour v c s).2) : WV X (d + 1 + 1 + 1 + 1 + 1 + 1) 256 0 [some (.inr (.inr (some 203))), some (.inl c), some (.inl s)] [] b v Q := by
  rw [mo_hour] at hQ
  refine r_ex 2 (pc' := 2) (lo' := [some (.inr (.inr (some 203))), some (.inl c), some (.inl s)]) (st' := [.inl 0, .inr (.inr (some 203))]) rfl ?_
  refine r_puti2 (j := 0) (pc' := 5) (pc0 := 2) (len := 3) rfl (s_203 _) rfl rfl rfl (Or.inl rfl) rfl rfl ?_
  have hX_1 : XI (v2 v 203 0 0) := XI.put hX trivial
  refine r_ex 2 (pc' := 7) (lo' := [some (.inr (.inr (some 203))), some (.inl c), some (.inl s)]) (st' := [.inl c, .inr (.inr (some 203))]) rfl ?_
  refine n_i2l (pc' := 8) (pc0 := 7) (len := 1) rfl (by first | assumption | omega | (unfold R32 at *; omega) | (unfold R64 at *; omega) | (simp only [R32, R64] at *; omega)) rfl ?_
  have hp_2 : R64 c := (by first | assumption | omega | (unfold R32 at *; omega) | (unfold R64 at *; omega) | (simp only [R32, R64] at *; omega))
  have hb_3 : 0 ≤ (v 210 0) ∧ (v 210 0) ≤ 9 := hX_1 210 0
  refine r_callb (P := 0 ≤ c ∧ c < (v 210 0)) (m := 236) (args := [.inr (.inr (some 203)), .inr (.inl c)]) (n' := 256) (pc' := 11) (lo' := [some (.inr (.inr (some 203))), some (.inl c), some (.inl s)]) (st' := []) (I := .invokevirtual 236) (pc0 := 8) (len := 3) rfl rfl rfl (e_mo_isChurch hX_1 hp_2) (fun h_8 => ?_) (fun h_8 => ?_)
  · show WV _ _ _ 11 _ _ _ _ _
    rw [if_pos h_8] at hQ
    refine r_ex 3 (pc' := 16) (lo' := [some (.inr (.inr (some 203))), some (.inl c), some (.inl s)]) (st' := [.inl s, .inr (.inr (some 203))]) rfl ?_
    refine n_i2l (pc' := 17) (pc0 := 16) (len := 1) rfl (by first | assumption | omega | (unfold R32 at *; omega) | (unfold R64 at *; omega) | (simp only [R32, R64] at *; omega)) rfl ?_
    have hp_4 : R64 s := (by first | assumption | omega | (unfold R32 at *; omega) | (unfold R64 at *; omega) | (simp only [R32, R64] at *; omega))
    have hb_5 : 0 ≤ (v 210 1) ∧ (v 210 1) ≤ 300 := hX_1 210 1
    refine r_callb (P := 0 ≤ s ∧ s < (v 210 1)) (m := 240) (args := [.inr (.inr (some 203)), .inr (.inl s)]) (n' := 256) (pc' := 20) (lo' := [some (.inr (.inr (some 203))), some (.inl c), some (.inl s)]) (st' := []) (I := .invokevirtual 240) (pc0 := 17) (len := 3) rfl rfl rfl (e_mo_isSecond hX_1 hp_4) (fun h_17 => ?_) (fun h_17 => ?_)
    · show WV _ _ _ 20 _ _ _ _ _
      rw [if_pos h_17] at hQ
      refine r_ex 2 (pc' := 27) (lo' := [some (.inr (.inr (some 203))), some (.inl c), some (.inl s)]) (st' := [.inr (.inr (some 203))]) rfl ?_
      have hp_6 : CF (v2 v 203 0 0) := show CF (v2 v 203 0 0) from (show CF (v2 v 203 0 0) from CF.of hp_c (fun k h1 h2 => by rw [v2_row (by omega)]))
      refine r_call (m := 246) (args := [.inr (.inr (some 203))]) (n' := 256) (pc' := 30) (lo' := [some (.inr (.inr (some 203))), some (.inl c), some (.inl s)]) (st' := []) (I := .invokevirtual 246) (pc0 := 27) (len := 3) rfl rfl rfl (e_mo_told hX_1 hp_6) ?_
      show WV _ _ _ 30 _ [] _ (mo_told (v2 v 203 0 0)) _
      have hX_7 : XI (mo_told (v2 v 203 0 0)) := i_mo_told (v := (v2 v 203 0 0)) hX_1 hp_6
      refine r_ex 3 (pc' := 33) (lo' := [some (.inr (.inr (some 203))), some (.inl c), some (.inl s)]) (st' := [.inl s, .inl c, .inr (.inr (some 203))]) rfl ?_
      have hp_8 : R32 c := (by first | assumption | omega | (unfold R32 at *; omega) | (unfold R64 at *; omega) | (simp only [R32, R64] at *; omega))
      have hp_9 : R32 s := (by first | assumption | omega | (unfold R32 at *; omega) | (unfold R64 at *; omega) | (simp only [R32, R64] at *; omega))
      refine r_call (m := 257) (args := [.inr (.inr (some 203)), .inl c, .inl s]) (n' := 256) (pc' := 36) (lo' := [some (.inr (.inr (some 203))), some (.inl c), some (.inl s)]) (st' := []) (I := .invokevirtual 257) (pc0 := 33) (len := 3) rfl rfl rfl (e_mo_hourOf hX_7 hp_8 hp_9) ?_
      show WV _ _ _ 36 _ [.inl (mo_hourOf (mo_told (v2 v 203 0 0)) c s)] _ _ _
      have hb_10 := n_mo_hourOf (v := (mo_told (v2 v 203 0 0))) (c := c) (t := s) hX_7 hp_8 hp_9
      refine r_ret (rr := some (.inl (mo_hourOf (mo_told (v2 v 203 0 0)) c s))) (I := .ireturn) (pc0 := 36) (len := 1) rfl rfl ?_
      exact hQ hX_7 
    · show WV _ _ _ 20 _ _ _ _ _
      rw [if_neg h_17] at hQ
      refine r_ex 2 (pc' := 25) (lo' := [some (.inr (.inr (some 203))), some (.inl c), some (.inl s)]) (st' := [.inl (-2)]) rfl ?_
      refine r_ret (rr := some (.inl (-2))) (I := .ireturn) (pc0 := 25) (len := 1) rfl rfl ?_
      exact hQ hX_1 
  · show WV _ _ _ 11 _ _ _ _ _
    rw [if_neg h_8] at hQ
    refine r_ex 2 (pc' := 25) (lo' := [some (.inr (.inr (some 203))), some (.inl c), some (.inl s)]) (st' := [.inl (-2)]) rfl ?_
    refine r_ret (rr := some (.inl (-2))) (I := .ireturn) (pc0 := 25) (len := 1) rfl rfl ?_
    exact hQ hX_1 

theorem e_mo_hour {X : PX} {d b : Nat} {v : VS} {c : Int} {s : Int} (hX : XI v) (hp_a : R32 c) (hp_b : R32 s) (hp_c : CF v) : EvV X (d + 1 + 1 + 1 + 1 + 1 + 1) 256 [.inr (.inr (some 203)), .inl c, .inl s] b v (some (.inl (mo_hour v c s).1)) b ((mo_hour v c s).2) := EvV.of (w_mo_hour hX hp_a hp_b hp_c (fun _ => ⟨rfl, rfl, rfl⟩))

theorem i_mo_hour {v : VS} {c : Int} {s : Int} (hX : XI v) (hp_a : R32 c) (hp_b : R32 s) (hp_c : CF v) : XI ((mo_hour v c s).2) := by
  have q : WV (0, fun _ => 0, none) (0 + 1 + 1 + 1 + 1 + 1 + 1) 256 0 [some (.inr (.inr (some 203))), some (.inl c), some (.inl s)] [] 1 v (fun _ _ _ => XI ((mo_hour v c s).2)) := w_mo_hour (X := (0, fun _ => 0, none)) (d := 0) (b := 1) hX hp_a hp_b hp_c (fun q => q)
  obtain ⟨_, _, _, _, _, _, _, q⟩ := q
  exact q

theorem o_mo_hour {rk : Nat} {v : VS} {c : Int} {s : Int} (hk : (rk < 203 ∨ 203 < rk) ∧ (rk < 219 ∨ 231 < rk)) : (mo_hour v c s).2 rk = v rk := by
  unfold mo_hour
  by_cases hc_ : 0 ≤ c ∧ c < (v 210 0)
  · rw [if_pos hc_] <;> clear hc_
    by_cases hc_ : 0 ≤ s ∧ s < (v 210 1)
    · rw [if_pos hc_] <;> clear hc_
      all_goals (show (mo_told (v2 v 203 0 0)) rk = _)
      all_goals (rw [o_mo_told (by omega), v2_row (by omega)])
    · rw [if_neg hc_] <;> clear hc_
      all_goals (show (v2 v 203 0 0) rk = _)
      all_goals (rw [v2_row (by omega)])
  · rw [if_neg hc_] <;> clear hc_
    all_goals (show (v2 v 203 0 0) rk = _)
    all_goals (rw [v2_row (by omega)])

noncomputable def mo_many (v : VS) (c : Int) : Int × VS :=
  (if 0 ≤ c ∧ c < (v 210 0) then (((mo_told (v2 v 203 0 0)) 231 ((c).toNat)), (mo_told (v2 v 203 0 0))) else ((-2), (v2 v 203 0 0)))
theorem w_mo_many {X : PX} {d b : Nat} {v : VS} {c : Int} (hX : XI v) (hp_a : R32 c) (hp_b : CF v) {Q : Option PV → Nat → VS → Prop} (hQ : XI (mo_many v c).2 → Q (some (.inl (mo_many v c).1)) b (mo_many v c).2) : WV X (d + 1 + 1 + 1 + 1 + 1 + 1) 258 0 [some (.inr (.inr (some 203))), some (.inl c)] [] b v Q := by
  rw [mo_many] at hQ
  refine r_ex 2 (pc' := 2) (lo' := [some (.inr (.inr (some 203))), some (.inl c)]) (st' := [.inl 0, .inr (.inr (some 203))]) rfl ?_
  refine r_puti2 (j := 0) (pc' := 5) (pc0 := 2) (len := 3) rfl (s_203 _) rfl rfl rfl (Or.inl rfl) rfl rfl ?_
  have hX_1 : XI (v2 v 203 0 0) := XI.put hX trivial
  refine r_ex 2 (pc' := 7) (lo' := [some (.inr (.inr (some 203))), some (.inl c)]) (st' := [.inl c, .inr (.inr (some 203))]) rfl ?_
  refine n_i2l (pc' := 8) (pc0 := 7) (len := 1) rfl (by first | assumption | omega | (unfold R32 at *; omega) | (unfold R64 at *; omega) | (simp only [R32, R64] at *; omega)) rfl ?_
  have hp_2 : R64 c := (by first | assumption | omega | (unfold R32 at *; omega) | (unfold R64 at *; omega) | (simp only [R32, R64] at *; omega))
  have hb_3 : 0 ≤ (v 210 0) ∧ (v 210 0) ≤ 9 := hX_1 210 0
  refine r_callb (P := 0 ≤ c ∧ c < (v 210 0)) (m := 236) (args := [.inr (.inr (some 203)), .inr (.inl c)]) (n' := 258) (pc' := 11) (lo' := [some (.inr (.inr (some 203))), some (.inl c)]) (st' := []) (I := .invokevirtual 236) (pc0 := 8) (len := 3) rfl rfl rfl (e_mo_isChurch hX_1 hp_2) (fun h_8 => ?_) (fun h_8 => ?_)
  · show WV _ _ _ 11 _ _ _ _ _
    rw [if_pos h_8] at hQ
    refine r_ex 2 (pc' := 18) (lo' := [some (.inr (.inr (some 203))), some (.inl c)]) (st' := [.inr (.inr (some 203))]) rfl ?_
    have hp_4 : CF (v2 v 203 0 0) := show CF (v2 v 203 0 0) from (show CF (v2 v 203 0 0) from CF.of hp_b (fun k h1 h2 => by rw [v2_row (by omega)]))
    refine r_call (m := 246) (args := [.inr (.inr (some 203))]) (n' := 258) (pc' := 21) (lo' := [some (.inr (.inr (some 203))), some (.inl c)]) (st' := []) (I := .invokevirtual 246) (pc0 := 18) (len := 3) rfl rfl rfl (e_mo_told hX_1 hp_4) ?_
    show WV _ _ _ 21 _ [] _ (mo_told (v2 v 203 0 0)) _
    have hX_5 : XI (mo_told (v2 v 203 0 0)) := i_mo_told (v := (v2 v 203 0 0)) hX_1 hp_4
    refine r_ex 3 (pc' := 26) (lo' := [some (.inr (.inr (some 203))), some (.inl c)]) (st' := [.inl c, .inr (.inr (some 231))]) rfl ?_
    refine r_iald2 (j := 0) (x := ((mo_told (v2 v 203 0 0)) 231 ((c).toNat))) (pc' := 27) (pc0 := 26) (len := 1) rfl (s_231 _) (by first | assumption | omega | (unfold R32 at *; omega) | (unfold R64 at *; omega) | (simp only [R32, R64] at *; omega)) (by decide) rfl rfl ?_
    refine r_ret (rr := some (.inl ((mo_told (v2 v 203 0 0)) 231 ((c).toNat)))) (I := .ireturn) (pc0 := 27) (len := 1) rfl rfl ?_
    exact hQ hX_5 
  · show WV _ _ _ 11 _ _ _ _ _
    rw [if_neg h_8] at hQ
    refine r_ex 2 (pc' := 16) (lo' := [some (.inr (.inr (some 203))), some (.inl c)]) (st' := [.inl (-2)]) rfl ?_
    refine r_ret (rr := some (.inl (-2))) (I := .ireturn) (pc0 := 16) (len := 1) rfl rfl ?_
    exact hQ hX_1 

theorem e_mo_many {X : PX} {d b : Nat} {v : VS} {c : Int} (hX : XI v) (hp_a : R32 c) (hp_b : CF v) : EvV X (d + 1 + 1 + 1 + 1 + 1 + 1) 258 [.inr (.inr (some 203)), .inl c] b v (some (.inl (mo_many v c).1)) b ((mo_many v c).2) := EvV.of (w_mo_many hX hp_a hp_b (fun _ => ⟨rfl, rfl, rfl⟩))

theorem i_mo_many {v : VS} {c : Int} (hX : XI v) (hp_a : R32 c) (hp_b : CF v) : XI ((mo_many v c).2) := by
  have q : WV (0, fun _ => 0, none) (0 + 1 + 1 + 1 + 1 + 1 + 1) 258 0 [some (.inr (.inr (some 203))), some (.inl c)] [] 1 v (fun _ _ _ => XI ((mo_many v c).2)) := w_mo_many (X := (0, fun _ => 0, none)) (d := 0) (b := 1) hX hp_a hp_b (fun q => q)
  obtain ⟨_, _, _, _, _, _, _, q⟩ := q
  exact q

theorem o_mo_many {rk : Nat} {v : VS} {c : Int} (hk : (rk < 203 ∨ 203 < rk) ∧ (rk < 219 ∨ 231 < rk)) : (mo_many v c).2 rk = v rk := by
  unfold mo_many
  by_cases hc_ : 0 ≤ c ∧ c < (v 210 0)
  · rw [if_pos hc_] <;> clear hc_
    all_goals (show (mo_told (v2 v 203 0 0)) rk = _)
    all_goals (rw [o_mo_told (by omega), v2_row (by omega)])
  · rw [if_neg hc_] <;> clear hc_
    all_goals (show (v2 v 203 0 0) rk = _)
    all_goals (rw [v2_row (by omega)])

noncomputable def mo_firstAt (v : VS) (c : Int) : Int :=
  (if (v 230 ((c).toNat)) = (-1) then (-1) else (mo_at v (v 230 ((c).toNat)) 0))
theorem w_mo_firstAt {X : PX} {d b : Nat} {v : VS} {c : Int} (hX : XI v) (hp_a : 0 ≤ c ∧ c ≤ 8) {Q : Option PV → Nat → VS → Prop} (hQ : (-1 ≤ (mo_firstAt v c) ∧ (mo_firstAt v c) ≤ 3699) → Q (some (.inl (mo_firstAt v c))) b v) : WV X (d + 1) 260 0 [some (.inr (.inr (some 203))), some (.inl c)] [] b v Q := by
  rw [mo_firstAt] at hQ
  refine r_ex 3 (pc' := 5) (lo' := [some (.inr (.inr (some 203))), some (.inl c)]) (st' := [.inl c, .inr (.inr (some 230))]) rfl ?_
  refine r_iald2 (j := 0) (x := (v 230 ((c).toNat))) (pc' := 6) (pc0 := 5) (len := 1) rfl (s_230 _) (by first | assumption | omega | (unfold R32 at *; omega) | (unfold R64 at *; omega) | (simp only [R32, R64] at *; omega)) (by decide) rfl rfl ?_
  have hb_1 : -1 ≤ (v 230 ((c).toNat)) ∧ (v 230 ((c).toNat)) ≤ 299 := hX 230 ((c).toNat)
  refine r_ex 1 (pc' := 7) (lo' := [some (.inr (.inr (some 203))), some (.inl c)]) (st' := [.inl (-1), .inl (v 230 ((c).toNat))]) rfl ?_
  refine n_ic_ne (pc0 := 7) (len := 3) (t := 14) rfl (by first | assumption | omega | (unfold R32 at *; omega) | (unfold R64 at *; omega) | (simp only [R32, R64] at *; omega)) (by first | assumption | omega | (unfold R32 at *; omega) | (unfold R64 at *; omega) | (simp only [R32, R64] at *; omega)) (fun h_7 => ?_) (fun h_7 => ?_)
  · show WV _ _ _ 14 _ _ _ _ _
    rw [if_neg h_7] at hQ
    refine r_ex 4 (pc' := 20) (lo' := [some (.inr (.inr (some 203))), some (.inl c)]) (st' := [.inl c, .inr (.inr (some 230)), .inr (.inr (some 203))]) rfl ?_
    refine r_iald2 (j := 0) (x := (v 230 ((c).toNat))) (pc' := 21) (pc0 := 20) (len := 1) rfl (s_230 _) (by first | assumption | omega | (unfold R32 at *; omega) | (unfold R64 at *; omega) | (simp only [R32, R64] at *; omega)) (by decide) rfl rfl ?_
    refine r_ex 1 (pc' := 22) (lo' := [some (.inr (.inr (some 203))), some (.inl c)]) (st' := [.inl 0, .inl (v 230 ((c).toNat)), .inr (.inr (some 203))]) rfl ?_
    have hp_2 : 0 ≤ (v 230 ((c).toNat)) ∧ (v 230 ((c).toNat)) < 300 := (by first | assumption | omega | (unfold R32 at *; omega) | (unfold R64 at *; omega) | (simp only [R32, R64] at *; omega))
    have hp_3 : 0 ≤ (0 : Int) ∧ (0 : Int) < 5 := (by first | assumption | omega | (unfold R32 at *; omega) | (unfold R64 at *; omega) | (simp only [R32, R64] at *; omega))
    refine r_call (m := 254) (args := [.inr (.inr (some 203)), .inl (v 230 ((c).toNat)), .inl 0]) (n' := 260) (pc' := 25) (lo' := [some (.inr (.inr (some 203))), some (.inl c)]) (st' := []) (I := .invokevirtual 254) (pc0 := 22) (len := 3) rfl rfl rfl (e_mo_at hX hp_2 hp_3) ?_
    show WV _ _ _ 25 _ [.inl (mo_at v (v 230 ((c).toNat)) 0)] _ _ _
    have hb_4 := n_mo_at (v := v) (i := (v 230 ((c).toNat))) (w := 0) hX hp_2 hp_3
    refine r_ret (rr := some (.inl (mo_at v (v 230 ((c).toNat)) 0))) (I := .ireturn) (pc0 := 25) (len := 1) rfl rfl ?_
    exact hQ (by first | assumption | omega | (unfold R32 at *; omega) | (unfold R64 at *; omega) | (simp only [R32, R64] at *; omega))
  · show WV _ _ _ 10 _ _ _ _ _
    rw [if_pos h_7] at hQ
    refine r_ex 2 (pc' := 25) (lo' := [some (.inr (.inr (some 203))), some (.inl c)]) (st' := [.inl (-1)]) rfl ?_
    refine r_ret (rr := some (.inl (-1))) (I := .ireturn) (pc0 := 25) (len := 1) rfl rfl ?_
    exact hQ (by first | assumption | omega | (unfold R32 at *; omega) | (unfold R64 at *; omega) | (simp only [R32, R64] at *; omega))

theorem e_mo_firstAt {X : PX} {d b : Nat} {v : VS} {c : Int} (hX : XI v) (hp_a : 0 ≤ c ∧ c ≤ 8) : EvV X (d + 1) 260 [.inr (.inr (some 203)), .inl c] b v (some (.inl (mo_firstAt v c))) b v := EvV.of (w_mo_firstAt hX hp_a (fun _ => ⟨rfl, rfl, rfl⟩))

theorem n_mo_firstAt {v : VS} {c : Int} (hX : XI v) (hp_a : 0 ≤ c ∧ c ≤ 8) : -1 ≤ (mo_firstAt v c) ∧ (mo_firstAt v c) ≤ 3699 := by
  have q : WV (0, fun _ => 0, none) (0 + 1) 260 0 [some (.inr (.inr (some 203))), some (.inl c)] [] 1 v (fun _ _ _ => -1 ≤ (mo_firstAt v c) ∧ (mo_firstAt v c) ≤ 3699) := w_mo_firstAt (X := (0, fun _ => 0, none)) (d := 0) (b := 1) hX hp_a (fun q => q)
  obtain ⟨_, _, _, _, _, _, _, q⟩ := q
  exact q

noncomputable def mo_when_57 : Nat → VS → Int → Int → Int × VS
  | 0, v, c, i => (0, v)
  | f + 1, v, c, i => (if i < (v 203 37) then (if (mo_at v i 1) = c then (if (v 230 ((c).toNat)) < i then (((mo_at v i 0) - (mo_firstAt v c)), v) else (mo_when_57 f v c (i + 1))) else (mo_when_57 f v c (i + 1))) else ((-1), v))
noncomputable def mo_when (v : VS) (c : Int) (w : Int) : Int × VS :=
  (if 0 ≤ c ∧ c < (v 210 0) then (if (0 : Int) ≤ w ∧ w ≤ (2 : Int) then (if w = 0 then ((mo_firstAt (mo_told (v2 v 203 0 0)) c), (mo_told (v2 v 203 0 0))) else (if w = 1 then (((mo_told (v2 v 203 0 0)) 228 ((c).toNat)), (mo_told (v2 v 203 0 0))) else (mo_when_57 301 (mo_told (v2 v 203 0 0)) c 0))) else ((-2), (v2 v 203 0 0))) else ((-2), (v2 v 203 0 0)))
theorem l_mo_when_57 {X : PX} {d b : Nat} {Q : Option PV → Nat → VS → Prop}  : ∀ (f : Nat) (v : VS) (c : Int) (i : Int) (z2 : Int), XI v → (0 ≤ i ∧ i ≤ 300) → (0 ≤ c ∧ c ≤ 8) → (300 < i + f) → (XI (mo_when_57 f v c i).2 → Q (some (.inl (mo_when_57 f v c i).1)) b (mo_when_57 f v c i).2) → WV X (d + 1 + 1 + 1 + 1 + 1 + 1) 259 57 [some (.inr (.inr (some 203))), some (.inl c), some (.inl z2), some (.inl i)] [] b v Q := by
  intro f
  induction f with
  | zero =>
    intro v c i z2 hX hi_0 hi_1 hf hQ
    exfalso
    omega
  | succ f ih =>
    intro v c i z2 hX hi_0 hi_1 hf hQ
    rw [mo_when_57] at hQ
    refine r_ex 3 (pc' := 62) (lo' := [some (.inr (.inr (some 203))), some (.inl c), some (.inl z2), some (.inl i)]) (st' := [.inl (v 203 37), .inl i]) rfl ?_
    have hb_9 : 0 ≤ (v 203 37) ∧ (v 203 37) ≤ 300 := hX 203 37
    refine n_ic_ge (pc0 := 62) (len := 3) (t := 104) rfl (by first | assumption | omega | (unfold R32 at *; omega) | (unfold R64 at *; omega) | (simp only [R32, R64] at *; omega)) (by first | assumption | omega | (unfold R32 at *; omega) | (unfold R64 at *; omega) | (simp only [R32, R64] at *; omega)) (fun h_62 => ?_) (fun h_62 => ?_)
    · show WV _ _ _ 104 _ _ _ _ _
      rw [if_neg h_62] at hQ
      refine r_ex 1 (pc' := 105) (lo' := [some (.inr (.inr (some 203))), some (.inl c), some (.inl z2), some (.inl i)]) (st' := [.inl (-1)]) rfl ?_
      refine r_ret (rr := some (.inl (-1))) (I := .ireturn) (pc0 := 105) (len := 1) rfl rfl ?_
      exact hQ hX 
    · show WV _ _ _ 65 _ _ _ _ _
      rw [if_pos h_62] at hQ
      refine r_ex 3 (pc' := 68) (lo' := [some (.inr (.inr (some 203))), some (.inl c), some (.inl z2), some (.inl i)]) (st' := [.inl 1, .inl i, .inr (.inr (some 203))]) rfl ?_
      have hp_10 : 0 ≤ i ∧ i < 300 := (by first | assumption | omega | (unfold R32 at *; omega) | (unfold R64 at *; omega) | (simp only [R32, R64] at *; omega))
      have hp_11 : 0 ≤ (1 : Int) ∧ (1 : Int) < 5 := (by first | assumption | omega | (unfold R32 at *; omega) | (unfold R64 at *; omega) | (simp only [R32, R64] at *; omega))
      refine r_call (m := 254) (args := [.inr (.inr (some 203)), .inl i, .inl 1]) (n' := 259) (pc' := 71) (lo' := [some (.inr (.inr (some 203))), some (.inl c), some (.inl z2), some (.inl i)]) (st' := []) (I := .invokevirtual 254) (pc0 := 68) (len := 3) rfl rfl rfl (e_mo_at hX hp_10 hp_11) ?_
      show WV _ _ _ 71 _ [.inl (mo_at v i 1)] _ _ _
      have hb_12 := n_mo_at (v := v) (i := i) (w := 1) hX hp_10 hp_11
      refine r_ex 1 (pc' := 72) (lo' := [some (.inr (.inr (some 203))), some (.inl c), some (.inl z2), some (.inl i)]) (st' := [.inl c, .inl (mo_at v i 1)]) rfl ?_
      refine n_ic_ne (pc0 := 72) (len := 3) (t := 98) rfl (by first | assumption | omega | (unfold R32 at *; omega) | (unfold R64 at *; omega) | (simp only [R32, R64] at *; omega)) (by first | assumption | omega | (unfold R32 at *; omega) | (unfold R64 at *; omega) | (simp only [R32, R64] at *; omega)) (fun h_72 => ?_) (fun h_72 => ?_)
      · show WV _ _ _ 98 _ _ _ _ _
        rw [if_neg h_72] at hQ
        refine r_ex 2 (pc' := 57) (lo' := [some (.inr (.inr (some 203))), some (.inl c), some (.inl z2), some (.inl (i + 1))]) (st' := []) rfl ?_
        refine ih v c (i + 1) _ hX (by first | assumption | omega | (unfold R32 at *; omega) | (unfold R64 at *; omega) | (simp only [R32, R64] at *; omega)) (by first | assumption | omega | (unfold R32 at *; omega) | (unfold R64 at *; omega) | (simp only [R32, R64] at *; omega)) (by first | assumption | omega | (unfold R32 at *; omega) | (unfold R64 at *; omega) | (simp only [R32, R64] at *; omega)) hQ
      · show WV _ _ _ 75 _ _ _ _ _
        rw [if_pos h_72] at hQ
        refine r_ex 4 (pc' := 81) (lo' := [some (.inr (.inr (some 203))), some (.inl c), some (.inl z2), some (.inl i)]) (st' := [.inl c, .inr (.inr (some 230)), .inl i]) rfl ?_
        refine r_iald2 (j := 0) (x := (v 230 ((c).toNat))) (pc' := 82) (pc0 := 81) (len := 1) rfl (s_230 _) (by first | assumption | omega | (unfold R32 at *; omega) | (unfold R64 at *; omega) | (simp only [R32, R64] at *; omega)) (by decide) rfl rfl ?_
        have hb_13 : -1 ≤ (v 230 ((c).toNat)) ∧ (v 230 ((c).toNat)) ≤ 299 := hX 230 ((c).toNat)
        refine n_ic_le (pc0 := 82) (len := 3) (t := 98) rfl (by first | assumption | omega | (unfold R32 at *; omega) | (unfold R64 at *; omega) | (simp only [R32, R64] at *; omega)) (by first | assumption | omega | (unfold R32 at *; omega) | (unfold R64 at *; omega) | (simp only [R32, R64] at *; omega)) (fun h_82 => ?_) (fun h_82 => ?_)
        · show WV _ _ _ 98 _ _ _ _ _
          rw [if_neg h_82] at hQ
          refine r_ex 2 (pc' := 57) (lo' := [some (.inr (.inr (some 203))), some (.inl c), some (.inl z2), some (.inl (i + 1))]) (st' := []) rfl ?_
          refine ih v c (i + 1) _ hX (by first | assumption | omega | (unfold R32 at *; omega) | (unfold R64 at *; omega) | (simp only [R32, R64] at *; omega)) (by first | assumption | omega | (unfold R32 at *; omega) | (unfold R64 at *; omega) | (simp only [R32, R64] at *; omega)) (by first | assumption | omega | (unfold R32 at *; omega) | (unfold R64 at *; omega) | (simp only [R32, R64] at *; omega)) hQ
        · show WV _ _ _ 85 _ _ _ _ _
          rw [if_pos h_82] at hQ
          refine r_ex 3 (pc' := 88) (lo' := [some (.inr (.inr (some 203))), some (.inl c), some (.inl z2), some (.inl i)]) (st' := [.inl 0, .inl i, .inr (.inr (some 203))]) rfl ?_
          have hp_14 : 0 ≤ i ∧ i < 300 := (by first | assumption | omega | (unfold R32 at *; omega) | (unfold R64 at *; omega) | (simp only [R32, R64] at *; omega))
          have hp_15 : 0 ≤ (0 : Int) ∧ (0 : Int) < 5 := (by first | assumption | omega | (unfold R32 at *; omega) | (unfold R64 at *; omega) | (simp only [R32, R64] at *; omega))
          refine r_call (m := 254) (args := [.inr (.inr (some 203)), .inl i, .inl 0]) (n' := 259) (pc' := 91) (lo' := [some (.inr (.inr (some 203))), some (.inl c), some (.inl z2), some (.inl i)]) (st' := []) (I := .invokevirtual 254) (pc0 := 88) (len := 3) rfl rfl rfl (e_mo_at hX hp_14 hp_15) ?_
          show WV _ _ _ 91 _ [.inl (mo_at v i 0)] _ _ _
          have hb_16 := n_mo_at (v := v) (i := i) (w := 0) hX hp_14 hp_15
          refine r_ex 2 (pc' := 93) (lo' := [some (.inr (.inr (some 203))), some (.inl c), some (.inl z2), some (.inl i)]) (st' := [.inl c, .inr (.inr (some 203)), .inl (mo_at v i 0)]) rfl ?_
          have hp_17 : 0 ≤ c ∧ c ≤ 8 := (by first | assumption | omega | (unfold R32 at *; omega) | (unfold R64 at *; omega) | (simp only [R32, R64] at *; omega))
          refine r_call (m := 260) (args := [.inr (.inr (some 203)), .inl c]) (n' := 259) (pc' := 96) (lo' := [some (.inr (.inr (some 203))), some (.inl c), some (.inl z2), some (.inl i)]) (st' := [.inl (mo_at v i 0)]) (I := .invokevirtual 260) (pc0 := 93) (len := 3) rfl rfl rfl (e_mo_firstAt hX hp_17) ?_
          show WV _ _ _ 96 _ [.inl (mo_firstAt v c), .inl (mo_at v i 0)] _ _ _
          have hb_18 := n_mo_firstAt (v := v) (c := c) hX hp_17
          refine r_ex 1 (pc' := 97) (lo' := [some (.inr (.inr (some 203))), some (.inl c), some (.inl z2), some (.inl i)]) (st' := [.inl ((mo_at v i 0) - (mo_firstAt v c))]) rfl ?_
          refine r_ret (rr := some (.inl ((mo_at v i 0) - (mo_firstAt v c)))) (I := .ireturn) (pc0 := 97) (len := 1) rfl rfl ?_
          exact hQ hX 

theorem of_mo_when_57 {rk : Nat}  : ∀ (f : Nat) {v : VS} {c : Int} {i : Int}, (mo_when_57 f v c i).2 rk = v rk := by
  intro f
  induction f with
  | zero => intro v c i; rfl
  | succ f ih =>
    intro v c i
    rw [mo_when_57]
    by_cases hc_ : i < (v 203 37)
    · rw [if_pos hc_] <;> clear hc_
      by_cases hc_ : (mo_at v i 1) = c
      · rw [if_pos hc_] <;> clear hc_
        by_cases hc_ : (v 230 ((c).toNat)) < i
        · rw [if_pos hc_] <;> clear hc_
          all_goals (show v rk = _)
          all_goals rfl
        · rw [if_neg hc_] <;> clear hc_
          all_goals (rw [ih])
      · rw [if_neg hc_] <;> clear hc_
        all_goals (rw [ih])
    · rw [if_neg hc_] <;> clear hc_
      all_goals (show v rk = _)
      all_goals rfl
theorem o_mo_when_57 {rk : Nat} {f : Nat} {v : VS} {c : Int} {i : Int}  : (mo_when_57 f v c i).2 rk = v rk := of_mo_when_57  f

theorem w_mo_when {X : PX} {d b : Nat} {v : VS} {c : Int} {w : Int} (hX : XI v) (hp_a : R32 c) (hp_b : R32 w) (hp_c : CF v) {Q : Option PV → Nat → VS → Prop} (hQ : XI (mo_when v c w).2 → Q (some (.inl (mo_when v c w).1)) b (mo_when v c w).2) : WV X (d + 1 + 1 + 1 + 1 + 1 + 1) 259 0 [some (.inr (.inr (some 203))), some (.inl c), some (.inl w), none] [] b v Q := by
  rw [mo_when] at hQ
  refine r_ex 2 (pc' := 2) (lo' := [some (.inr (.inr (some 203))), some (.inl c), some (.inl w), none]) (st' := [.inl 0, .inr (.inr (some 203))]) rfl ?_
  refine r_puti2 (j := 0) (pc' := 5) (pc0 := 2) (len := 3) rfl (s_203 _) rfl rfl rfl (Or.inl rfl) rfl rfl ?_
  have hX_1 : XI (v2 v 203 0 0) := XI.put hX trivial
  refine r_ex 2 (pc' := 7) (lo' := [some (.inr (.inr (some 203))), some (.inl c), some (.inl w), none]) (st' := [.inl c, .inr (.inr (some 203))]) rfl ?_
  refine n_i2l (pc' := 8) (pc0 := 7) (len := 1) rfl (by first | assumption | omega | (unfold R32 at *; omega) | (unfold R64 at *; omega) | (simp only [R32, R64] at *; omega)) rfl ?_
  have hp_2 : R64 c := (by first | assumption | omega | (unfold R32 at *; omega) | (unfold R64 at *; omega) | (simp only [R32, R64] at *; omega))
  have hb_3 : 0 ≤ (v 210 0) ∧ (v 210 0) ≤ 9 := hX_1 210 0
  refine r_callb (P := 0 ≤ c ∧ c < (v 210 0)) (m := 236) (args := [.inr (.inr (some 203)), .inr (.inl c)]) (n' := 259) (pc' := 11) (lo' := [some (.inr (.inr (some 203))), some (.inl c), some (.inl w), none]) (st' := []) (I := .invokevirtual 236) (pc0 := 8) (len := 3) rfl rfl rfl (e_mo_isChurch hX_1 hp_2) (fun h_8 => ?_) (fun h_8 => ?_)
  · show WV _ _ _ 11 _ _ _ _ _
    rw [if_pos h_8] at hQ
    refine r_ex 2 (pc' := 15) (lo' := [some (.inr (.inr (some 203))), some (.inl c), some (.inl w), none]) (st' := [.inl w]) rfl ?_
    refine n_i2l (pc' := 16) (pc0 := 15) (len := 1) rfl (by first | assumption | omega | (unfold R32 at *; omega) | (unfold R64 at *; omega) | (simp only [R32, R64] at *; omega)) rfl ?_
    refine r_ex 2 (pc' := 20) (lo' := [some (.inr (.inr (some 203))), some (.inl c), some (.inl w), none]) (st' := [.inr (.inl 2), .inr (.inl 0), .inr (.inl w)]) rfl ?_
    have hp_4 : R64 w := (by first | assumption | omega | (unfold R32 at *; omega) | (unfold R64 at *; omega) | (simp only [R32, R64] at *; omega))
    have hp_5 : R64 (0 : Int) := (by first | assumption | omega | (unfold R32 at *; omega) | (unfold R64 at *; omega) | (simp only [R32, R64] at *; omega))
    have hp_6 : R64 (2 : Int) := (by first | assumption | omega | (unfold R32 at *; omega) | (unfold R64 at *; omega) | (simp only [R32, R64] at *; omega))
    refine r_callb (P := (0 : Int) ≤ w ∧ w ≤ (2 : Int)) (m := 202) (args := [.inr (.inl w), .inr (.inl 0), .inr (.inl 2)]) (n' := 259) (pc' := 23) (lo' := [some (.inr (.inr (some 203))), some (.inl c), some (.inl w), none]) (st' := []) (I := .invokestatic 202) (pc0 := 20) (len := 3) rfl rfl rfl (e_mo_in hX_1 hp_4 hp_5 hp_6) (fun h_20 => ?_) (fun h_20 => ?_)
    · show WV _ _ _ 23 _ _ _ _ _
      rw [if_pos h_20] at hQ
      refine r_ex 2 (pc' := 30) (lo' := [some (.inr (.inr (some 203))), some (.inl c), some (.inl w), none]) (st' := [.inr (.inr (some 203))]) rfl ?_
      have hp_7 : CF (v2 v 203 0 0) := show CF (v2 v 203 0 0) from (show CF (v2 v 203 0 0) from CF.of hp_c (fun k h1 h2 => by rw [v2_row (by omega)]))
      refine r_call (m := 246) (args := [.inr (.inr (some 203))]) (n' := 259) (pc' := 33) (lo' := [some (.inr (.inr (some 203))), some (.inl c), some (.inl w), none]) (st' := []) (I := .invokevirtual 246) (pc0 := 30) (len := 3) rfl rfl rfl (e_mo_told hX_1 hp_7) ?_
      show WV _ _ _ 33 _ [] _ (mo_told (v2 v 203 0 0)) _
      have hX_8 : XI (mo_told (v2 v 203 0 0)) := i_mo_told (v := (v2 v 203 0 0)) hX_1 hp_7
      refine r_ex 1 (pc' := 34) (lo' := [some (.inr (.inr (some 203))), some (.inl c), some (.inl w), none]) (st' := [.inl w]) rfl ?_
      refine n_if_ne (pc0 := 34) (len := 3) (t := 43) rfl (by first | assumption | omega | (unfold R32 at *; omega) | (unfold R64 at *; omega) | (simp only [R32, R64] at *; omega)) (fun h_34 => ?_) (fun h_34 => ?_)
      · show WV _ _ _ 43 _ _ _ _ _
        rw [if_neg h_34] at hQ
        refine r_ex 2 (pc' := 45) (lo' := [some (.inr (.inr (some 203))), some (.inl c), some (.inl w), none]) (st' := [.inl 1, .inl w]) rfl ?_
        refine n_ic_ne (pc0 := 45) (len := 3) (t := 55) rfl (by first | assumption | omega | (unfold R32 at *; omega) | (unfold R64 at *; omega) | (simp only [R32, R64] at *; omega)) (by first | assumption | omega | (unfold R32 at *; omega) | (unfold R64 at *; omega) | (simp only [R32, R64] at *; omega)) (fun h_45 => ?_) (fun h_45 => ?_)
        · show WV _ _ _ 55 _ _ _ _ _
          rw [if_neg h_45] at hQ
          refine r_ex 2 (pc' := 57) (lo' := [some (.inr (.inr (some 203))), some (.inl c), some (.inl w), some (.inl 0)]) (st' := []) rfl ?_
          exact l_mo_when_57 301 (mo_told (v2 v 203 0 0)) c 0 _ hX_8 (by first | assumption | omega | (unfold R32 at *; omega) | (unfold R64 at *; omega) | (simp only [R32, R64] at *; omega)) (by first | assumption | omega | (unfold R32 at *; omega) | (unfold R64 at *; omega) | (simp only [R32, R64] at *; omega)) (by first | assumption | omega | (unfold R32 at *; omega) | (unfold R64 at *; omega) | (simp only [R32, R64] at *; omega)) hQ
        · show WV _ _ _ 48 _ _ _ _ _
          rw [if_pos h_45] at hQ
          refine r_ex 3 (pc' := 53) (lo' := [some (.inr (.inr (some 203))), some (.inl c), some (.inl w), none]) (st' := [.inl c, .inr (.inr (some 228))]) rfl ?_
          refine r_iald2 (j := 0) (x := ((mo_told (v2 v 203 0 0)) 228 ((c).toNat))) (pc' := 54) (pc0 := 53) (len := 1) rfl (s_228 _) (by first | assumption | omega | (unfold R32 at *; omega) | (unfold R64 at *; omega) | (simp only [R32, R64] at *; omega)) (by decide) rfl rfl ?_
          have hb_19 : -1 ≤ ((mo_told (v2 v 203 0 0)) 228 ((c).toNat)) ∧ ((mo_told (v2 v 203 0 0)) 228 ((c).toNat)) ≤ 299 := hX_8 228 ((c).toNat)
          refine r_ret (rr := some (.inl ((mo_told (v2 v 203 0 0)) 228 ((c).toNat)))) (I := .ireturn) (pc0 := 54) (len := 1) rfl rfl ?_
          exact hQ hX_8 
      · show WV _ _ _ 37 _ _ _ _ _
        rw [if_pos h_34] at hQ
        refine r_ex 2 (pc' := 39) (lo' := [some (.inr (.inr (some 203))), some (.inl c), some (.inl w), none]) (st' := [.inl c, .inr (.inr (some 203))]) rfl ?_
        have hp_20 : 0 ≤ c ∧ c ≤ 8 := (by first | assumption | omega | (unfold R32 at *; omega) | (unfold R64 at *; omega) | (simp only [R32, R64] at *; omega))
        refine r_call (m := 260) (args := [.inr (.inr (some 203)), .inl c]) (n' := 259) (pc' := 42) (lo' := [some (.inr (.inr (some 203))), some (.inl c), some (.inl w), none]) (st' := []) (I := .invokevirtual 260) (pc0 := 39) (len := 3) rfl rfl rfl (e_mo_firstAt hX_8 hp_20) ?_
        show WV _ _ _ 42 _ [.inl (mo_firstAt (mo_told (v2 v 203 0 0)) c)] _ _ _
        have hb_21 := n_mo_firstAt (v := (mo_told (v2 v 203 0 0))) (c := c) hX_8 hp_20
        refine r_ret (rr := some (.inl (mo_firstAt (mo_told (v2 v 203 0 0)) c))) (I := .ireturn) (pc0 := 42) (len := 1) rfl rfl ?_
        exact hQ hX_8 
    · show WV _ _ _ 23 _ _ _ _ _
      rw [if_neg h_20] at hQ
      refine r_ex 2 (pc' := 28) (lo' := [some (.inr (.inr (some 203))), some (.inl c), some (.inl w), none]) (st' := [.inl (-2)]) rfl ?_
      refine r_ret (rr := some (.inl (-2))) (I := .ireturn) (pc0 := 28) (len := 1) rfl rfl ?_
      exact hQ hX_1 
  · show WV _ _ _ 11 _ _ _ _ _
    rw [if_neg h_8] at hQ
    refine r_ex 2 (pc' := 28) (lo' := [some (.inr (.inr (some 203))), some (.inl c), some (.inl w), none]) (st' := [.inl (-2)]) rfl ?_
    refine r_ret (rr := some (.inl (-2))) (I := .ireturn) (pc0 := 28) (len := 1) rfl rfl ?_
    exact hQ hX_1 

theorem e_mo_when {X : PX} {d b : Nat} {v : VS} {c : Int} {w : Int} (hX : XI v) (hp_a : R32 c) (hp_b : R32 w) (hp_c : CF v) : EvV X (d + 1 + 1 + 1 + 1 + 1 + 1) 259 [.inr (.inr (some 203)), .inl c, .inl w] b v (some (.inl (mo_when v c w).1)) b ((mo_when v c w).2) := EvV.of (w_mo_when hX hp_a hp_b hp_c (fun _ => ⟨rfl, rfl, rfl⟩))

theorem i_mo_when {v : VS} {c : Int} {w : Int} (hX : XI v) (hp_a : R32 c) (hp_b : R32 w) (hp_c : CF v) : XI ((mo_when v c w).2) := by
  have q : WV (0, fun _ => 0, none) (0 + 1 + 1 + 1 + 1 + 1 + 1) 259 0 [some (.inr (.inr (some 203))), some (.inl c), some (.inl w), none] [] 1 v (fun _ _ _ => XI ((mo_when v c w).2)) := w_mo_when (X := (0, fun _ => 0, none)) (d := 0) (b := 1) hX hp_a hp_b hp_c (fun q => q)
  obtain ⟨_, _, _, _, _, _, _, q⟩ := q
  exact q

theorem o_mo_when {rk : Nat} {v : VS} {c : Int} {w : Int} (hk : (rk < 203 ∨ 203 < rk) ∧ (rk < 219 ∨ 231 < rk)) : (mo_when v c w).2 rk = v rk := by
  unfold mo_when
  by_cases hc_ : 0 ≤ c ∧ c < (v 210 0)
  · rw [if_pos hc_] <;> clear hc_
    by_cases hc_ : (0 : Int) ≤ w ∧ w ≤ (2 : Int)
    · rw [if_pos hc_] <;> clear hc_
      by_cases hc_ : w = 0
      · rw [if_pos hc_] <;> clear hc_
        all_goals (show (mo_told (v2 v 203 0 0)) rk = _)
        all_goals (rw [o_mo_told (by omega), v2_row (by omega)])
      · rw [if_neg hc_] <;> clear hc_
        by_cases hc_ : w = 1
        · rw [if_pos hc_] <;> clear hc_
          all_goals (show (mo_told (v2 v 203 0 0)) rk = _)
          all_goals (rw [o_mo_told (by omega), v2_row (by omega)])
        · rw [if_neg hc_] <;> clear hc_
          all_goals (rw [o_mo_when_57, o_mo_told (by omega), v2_row (by omega)])
    · rw [if_neg hc_] <;> clear hc_
      all_goals (show (v2 v 203 0 0) rk = _)
      all_goals (rw [v2_row (by omega)])
  · rw [if_neg hc_] <;> clear hc_
    all_goals (show (v2 v 203 0 0) rk = _)
    all_goals (rw [v2_row (by omega)])

noncomputable def mo_led_37 : Nat → VS → Int → Int → Int → Int
  | 0, v, k, a, s => 0
  | f + 1, v, k, a, s => (if s < k then (if a = (-1) then a else (mo_led_37 f v k (mo_at v a 3) (s + 1))) else a)
noncomputable def mo_led (v : VS) (c : Int) (k : Int) : Int × VS :=
  (if 0 ≤ c ∧ c < (v 210 0) then (if k < 0 then ((-1), (mo_told (v2 v 203 0 0))) else ((mo_led_37 (k.toNat + 1) (mo_told (v2 v 203 0 0)) k ((mo_told (v2 v 203 0 0)) 230 ((c).toNat)) 0), (mo_told (v2 v 203 0 0)))) else ((-2), (v2 v 203 0 0)))
set_option maxRecDepth 100000 in
theorem l_mo_led_37 {X : PX} {d b : Nat} {Q : Option PV → Nat → VS → Prop}  : ∀ (f : Nat) (v : VS) (k : Int) (a : Int) (s : Int) (o1 : Option PV), XI v → (R32 k) → (0 ≤ k) → (-1 ≤ a ∧ a < (v 203 37)) → (0 ≤ s ∧ s ≤ k) → (SM v) → (k < s + f) → (∀ qx0 : Option PV, ∀ qx1 : Option PV, ∀ qx2 : Option PV, ∀ qx4 : Option PV, (-1 ≤ (mo_led_37 f v k a s) ∧ (mo_led_37 f v k a s) ≤ 299) → WV X (d + 1 + 1 + 1 + 1 + 1 + 1) 261 61 [qx0, qx1, qx2, some (.inl (mo_led_37 f v k a s)), qx4] [] b v Q) → WV X (d + 1 + 1 + 1 + 1 + 1 + 1) 261 37 [some (.inr (.inr (some 203))), o1, some (.inl k), some (.inl a), some (.inl s)] [] b v Q := by
  intro f
  induction f with
  | zero =>
    intro v k a s o1 hX hi_0 hi_1 hi_2 hi_3 hi_4 hf hK
    have hz37 : 0 ≤ v 203 37 ∧ v 203 37 ≤ 300 := hX 203 37
    exfalso
    omega
  | succ f ih =>
    intro v k a s o1 hX hi_0 hi_1 hi_2 hi_3 hi_4 hf hK
    rw [mo_led_37] at hK
    have hz37 : 0 ≤ v 203 37 ∧ v 203 37 ≤ 300 := hX 203 37
    refine r_ex 2 (pc' := 40) (lo' := [some (.inr (.inr (some 203))), o1, some (.inl k), some (.inl a), some (.inl s)]) (st' := [.inl k, .inl s]) rfl ?_
    refine n_ic_ge (pc0 := 40) (len := 3) (t := 61) rfl (by first | assumption | omega | (unfold R32 at *; omega) | (unfold R64 at *; omega) | (simp only [R32, R64] at *; omega)) (by first | assumption | omega | (unfold R32 at *; omega) | (unfold R64 at *; omega) | (simp only [R32, R64] at *; omega)) (fun h_40 => ?_) (fun h_40 => ?_)
    · show WV _ _ _ 61 _ _ _ _ _
      rw [if_neg h_40] at hK
      exact hK _ _ _ _  (by first | assumption | omega | (unfold R32 at *; omega) | (unfold R64 at *; omega) | (simp only [R32, R64] at *; omega))
    · show WV _ _ _ 43 _ _ _ _ _
      rw [if_pos h_40] at hK
      refine r_ex 2 (pc' := 45) (lo' := [some (.inr (.inr (some 203))), o1, some (.inl k), some (.inl a), some (.inl s)]) (st' := [.inl (-1), .inl a]) rfl ?_
      refine n_ic_eq (pc0 := 45) (len := 3) (t := 61) rfl (by first | assumption | omega | (unfold R32 at *; omega) | (unfold R64 at *; omega) | (simp only [R32, R64] at *; omega)) (by first | assumption | omega | (unfold R32 at *; omega) | (unfold R64 at *; omega) | (simp only [R32, R64] at *; omega)) (fun h_45 => ?_) (fun h_45 => ?_)
      · show WV _ _ _ 61 _ _ _ _ _
        rw [if_pos h_45] at hK
        exact hK _ _ _ _  (by first | assumption | omega | (unfold R32 at *; omega) | (unfold R64 at *; omega) | (simp only [R32, R64] at *; omega))
      · show WV _ _ _ 48 _ _ _ _ _
        rw [if_neg h_45] at hK
        refine r_ex 3 (pc' := 51) (lo' := [some (.inr (.inr (some 203))), o1, some (.inl k), some (.inl a), some (.inl s)]) (st' := [.inl 3, .inl a, .inr (.inr (some 203))]) rfl ?_
        have hp_7 : 0 ≤ a ∧ a < 300 := (by first | assumption | omega | (unfold R32 at *; omega) | (unfold R64 at *; omega) | (simp only [R32, R64] at *; omega))
        have hp_8 : 0 ≤ (3 : Int) ∧ (3 : Int) < 5 := (by first | assumption | omega | (unfold R32 at *; omega) | (unfold R64 at *; omega) | (simp only [R32, R64] at *; omega))
        refine r_call (m := 254) (args := [.inr (.inr (some 203)), .inl a, .inl 3]) (n' := 261) (pc' := 54) (lo' := [some (.inr (.inr (some 203))), o1, some (.inl k), some (.inl a), some (.inl s)]) (st' := []) (I := .invokevirtual 254) (pc0 := 51) (len := 3) rfl rfl rfl (e_mo_at hX hp_7 hp_8) ?_
        show WV _ _ _ 54 _ [.inl (mo_at v a 3)] _ _ _
        have hb_9 := n_mo_at (v := v) (i := a) (w := 3) hX hp_7 hp_8
        have hby := hi_4.by_ (i := a) (by omega)
        refine r_ex 3 (pc' := 37) (lo' := [some (.inr (.inr (some 203))), o1, some (.inl k), some (.inl (mo_at v a 3)), some (.inl (s + 1))]) (st' := []) rfl ?_
        refine ih v k (mo_at v a 3) (s + 1) _ hX (by first | assumption | omega | (unfold R32 at *; omega) | (unfold R64 at *; omega) | (simp only [R32, R64] at *; omega)) (by first | assumption | omega | (unfold R32 at *; omega) | (unfold R64 at *; omega) | (simp only [R32, R64] at *; omega)) (show -1 ≤ (mo_at v a 3) ∧ (mo_at v a 3) < (v 203 37) from (by first | assumption | omega | (unfold R32 at *; omega) | (unfold R64 at *; omega) | (simp only [R32, R64] at *; omega))) (by first | assumption | omega | (unfold R32 at *; omega) | (unfold R64 at *; omega) | (simp only [R32, R64] at *; omega)) (by first | assumption | omega | (unfold R32 at *; omega) | (unfold R64 at *; omega) | (simp only [R32, R64] at *; omega)) (by first | assumption | omega | (unfold R32 at *; omega) | (unfold R64 at *; omega) | (simp only [R32, R64] at *; omega)) hK

set_option maxRecDepth 100000 in
theorem w_mo_led {X : PX} {d b : Nat} {v : VS} {c : Int} {k : Int} (hX : XI v) (hp_a : R32 c) (hp_b : R32 k) (hp_c : CF v) (hp_d : SM (mo_told (v2 v 203 0 0))) {Q : Option PV → Nat → VS → Prop} (hQ : XI (mo_led v c k).2 → Q (some (.inl (mo_led v c k).1)) b (mo_led v c k).2) : WV X (d + 1 + 1 + 1 + 1 + 1 + 1) 261 0 [some (.inr (.inr (some 203))), some (.inl c), some (.inl k), none, none] [] b v Q := by
  rw [mo_led] at hQ
  refine r_ex 2 (pc' := 2) (lo' := [some (.inr (.inr (some 203))), some (.inl c), some (.inl k), none, none]) (st' := [.inl 0, .inr (.inr (some 203))]) rfl ?_
  refine r_puti2 (j := 0) (pc' := 5) (pc0 := 2) (len := 3) rfl (s_203 _) rfl rfl rfl (Or.inl rfl) rfl rfl ?_
  have hX_1 : XI (v2 v 203 0 0) := XI.put hX trivial
  refine r_ex 2 (pc' := 7) (lo' := [some (.inr (.inr (some 203))), some (.inl c), some (.inl k), none, none]) (st' := [.inl c, .inr (.inr (some 203))]) rfl ?_
  refine n_i2l (pc' := 8) (pc0 := 7) (len := 1) rfl (by first | assumption | omega | (unfold R32 at *; omega) | (unfold R64 at *; omega) | (simp only [R32, R64] at *; omega)) rfl ?_
  have hp_2 : R64 c := (by first | assumption | omega | (unfold R32 at *; omega) | (unfold R64 at *; omega) | (simp only [R32, R64] at *; omega))
  have hb_3 : 0 ≤ (v 210 0) ∧ (v 210 0) ≤ 9 := hX_1 210 0
  refine r_callb (P := 0 ≤ c ∧ c < (v 210 0)) (m := 236) (args := [.inr (.inr (some 203)), .inr (.inl c)]) (n' := 261) (pc' := 11) (lo' := [some (.inr (.inr (some 203))), some (.inl c), some (.inl k), none, none]) (st' := []) (I := .invokevirtual 236) (pc0 := 8) (len := 3) rfl rfl rfl (e_mo_isChurch hX_1 hp_2) (fun h_8 => ?_) (fun h_8 => ?_)
  · show WV _ _ _ 11 _ _ _ _ _
    rw [if_pos h_8] at hQ
    refine r_ex 2 (pc' := 18) (lo' := [some (.inr (.inr (some 203))), some (.inl c), some (.inl k), none, none]) (st' := [.inr (.inr (some 203))]) rfl ?_
    have hp_4 : CF (v2 v 203 0 0) := show CF (v2 v 203 0 0) from (show CF (v2 v 203 0 0) from CF.of hp_c (fun k h1 h2 => by rw [v2_row (by omega)]))
    refine r_call (m := 246) (args := [.inr (.inr (some 203))]) (n' := 261) (pc' := 21) (lo' := [some (.inr (.inr (some 203))), some (.inl c), some (.inl k), none, none]) (st' := []) (I := .invokevirtual 246) (pc0 := 18) (len := 3) rfl rfl rfl (e_mo_told hX_1 hp_4) ?_
    show WV _ _ _ 21 _ [] _ (mo_told (v2 v 203 0 0)) _
    have hX_5 : XI (mo_told (v2 v 203 0 0)) := i_mo_told (v := (v2 v 203 0 0)) hX_1 hp_4
    refine r_ex 1 (pc' := 22) (lo' := [some (.inr (.inr (some 203))), some (.inl c), some (.inl k), none, none]) (st' := [.inl k]) rfl ?_
    refine n_if_ge (pc0 := 22) (len := 3) (t := 27) rfl (by first | assumption | omega | (unfold R32 at *; omega) | (unfold R64 at *; omega) | (simp only [R32, R64] at *; omega)) (fun h_22 => ?_) (fun h_22 => ?_)
    · show WV _ _ _ 27 _ _ _ _ _
      rw [if_neg h_22] at hQ
      refine r_ex 3 (pc' := 32) (lo' := [some (.inr (.inr (some 203))), some (.inl c), some (.inl k), none, none]) (st' := [.inl c, .inr (.inr (some 230))]) rfl ?_
      refine r_iald2 (j := 0) (x := ((mo_told (v2 v 203 0 0)) 230 ((c).toNat))) (pc' := 33) (pc0 := 32) (len := 1) rfl (s_230 _) (by first | assumption | omega | (unfold R32 at *; omega) | (unfold R64 at *; omega) | (simp only [R32, R64] at *; omega)) (by decide) rfl rfl ?_
      have hb_6 : -1 ≤ ((mo_told (v2 v 203 0 0)) 230 ((c).toNat)) ∧ ((mo_told (v2 v 203 0 0)) 230 ((c).toNat)) ≤ 299 := hX_5 230 ((c).toNat)
      have hfs := hp_d.fs (c := c) (by omega)
      refine r_ex 3 (pc' := 37) (lo' := [some (.inr (.inr (some 203))), some (.inl c), some (.inl k), some (.inl ((mo_told (v2 v 203 0 0)) 230 ((c).toNat))), some (.inl 0)]) (st' := []) rfl ?_
      refine l_mo_led_37 (k.toNat + 1) (mo_told (v2 v 203 0 0)) k ((mo_told (v2 v 203 0 0)) 230 ((c).toNat)) 0 _ hX_5 (by first | assumption | omega | (unfold R32 at *; omega) | (unfold R64 at *; omega) | (simp only [R32, R64] at *; omega)) (by first | assumption | omega | (unfold R32 at *; omega) | (unfold R64 at *; omega) | (simp only [R32, R64] at *; omega)) (show -1 ≤ ((mo_told (v2 v 203 0 0)) 230 ((c).toNat)) ∧ ((mo_told (v2 v 203 0 0)) 230 ((c).toNat)) < ((mo_told (v2 v 203 0 0)) 203 37) from (by first | assumption | omega | (unfold R32 at *; omega) | (unfold R64 at *; omega) | (simp only [R32, R64] at *; omega))) (by first | assumption | omega | (unfold R32 at *; omega) | (unfold R64 at *; omega) | (simp only [R32, R64] at *; omega)) (by first | assumption | omega | (unfold R32 at *; omega) | (unfold R64 at *; omega) | (simp only [R32, R64] at *; omega)) (by first | assumption | omega | (unfold R32 at *; omega) | (unfold R64 at *; omega) | (simp only [R32, R64] at *; omega)) (fun o0_10 o1_10 o2_10 o4_10  hv_10_0 => ?_)
      show WV _ _ _ 61 _ _ _ _ _
      refine r_ex 1 (pc' := 62) (lo' := [o0_10, o1_10, o2_10, some (.inl (mo_led_37 (k.toNat + 1) (mo_told (v2 v 203 0 0)) k ((mo_told (v2 v 203 0 0)) 230 ((c).toNat)) 0)), o4_10]) (st' := [.inl (mo_led_37 (k.toNat + 1) (mo_told (v2 v 203 0 0)) k ((mo_told (v2 v 203 0 0)) 230 ((c).toNat)) 0)]) rfl ?_
      refine r_ret (rr := some (.inl (mo_led_37 (k.toNat + 1) (mo_told (v2 v 203 0 0)) k ((mo_told (v2 v 203 0 0)) 230 ((c).toNat)) 0))) (I := .ireturn) (pc0 := 62) (len := 1) rfl rfl ?_
      exact hQ hX_5 
    · show WV _ _ _ 25 _ _ _ _ _
      rw [if_pos h_22] at hQ
      refine r_ex 1 (pc' := 26) (lo' := [some (.inr (.inr (some 203))), some (.inl c), some (.inl k), none, none]) (st' := [.inl (-1)]) rfl ?_
      refine r_ret (rr := some (.inl (-1))) (I := .ireturn) (pc0 := 26) (len := 1) rfl rfl ?_
      exact hQ hX_5 
  · show WV _ _ _ 11 _ _ _ _ _
    rw [if_neg h_8] at hQ
    refine r_ex 2 (pc' := 16) (lo' := [some (.inr (.inr (some 203))), some (.inl c), some (.inl k), none, none]) (st' := [.inl (-2)]) rfl ?_
    refine r_ret (rr := some (.inl (-2))) (I := .ireturn) (pc0 := 16) (len := 1) rfl rfl ?_
    exact hQ hX_1 

theorem e_mo_led {X : PX} {d b : Nat} {v : VS} {c : Int} {k : Int} (hX : XI v) (hp_a : R32 c) (hp_b : R32 k) (hp_c : CF v) (hp_d : SM (mo_told (v2 v 203 0 0))) : EvV X (d + 1 + 1 + 1 + 1 + 1 + 1) 261 [.inr (.inr (some 203)), .inl c, .inl k] b v (some (.inl (mo_led v c k).1)) b ((mo_led v c k).2) := EvV.of (w_mo_led hX hp_a hp_b hp_c hp_d (fun _ => ⟨rfl, rfl, rfl⟩))

theorem i_mo_led {v : VS} {c : Int} {k : Int} (hX : XI v) (hp_a : R32 c) (hp_b : R32 k) (hp_c : CF v) (hp_d : SM (mo_told (v2 v 203 0 0))) : XI ((mo_led v c k).2) := by
  have q : WV (0, fun _ => 0, none) (0 + 1 + 1 + 1 + 1 + 1 + 1) 261 0 [some (.inr (.inr (some 203))), some (.inl c), some (.inl k), none, none] [] 1 v (fun _ _ _ => XI ((mo_led v c k).2)) := w_mo_led (X := (0, fun _ => 0, none)) (d := 0) (b := 1) hX hp_a hp_b hp_c hp_d (fun q => q)
  obtain ⟨_, _, _, _, _, _, _, q⟩ := q
  exact q

theorem o_mo_led {rk : Nat} {v : VS} {c : Int} {k : Int} (hk : (rk < 203 ∨ 203 < rk) ∧ (rk < 219 ∨ 231 < rk)) : (mo_led v c k).2 rk = v rk := by
  unfold mo_led
  by_cases hc_ : 0 ≤ c ∧ c < (v 210 0)
  · rw [if_pos hc_] <;> clear hc_
    by_cases hc_ : k < 0
    · rw [if_pos hc_] <;> clear hc_
      all_goals (show (mo_told (v2 v 203 0 0)) rk = _)
      all_goals (rw [o_mo_told (by omega), v2_row (by omega)])
    · rw [if_neg hc_] <;> clear hc_
      all_goals (show (mo_told (v2 v 203 0 0)) rk = _)
      all_goals (rw [o_mo_told (by omega), v2_row (by omega)])
  · rw [if_neg hc_] <;> clear hc_
    all_goals (show (v2 v 203 0 0) rk = _)
    all_goals (rw [v2_row (by omega)])
