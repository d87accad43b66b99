/-! what is asked of the run, I -/
def cl_fault (v : VS) (w : Int) : Int :=
  (if w = 0 then (v 2 1) else (if w = 1 then (v 2 2) else (-1)))
theorem w_cl_fault {X : PX} {d b : Nat} {v : VS} {w : Int} (hX : XI v) (hp_a : R32 w) {Q : Option PV → Nat → VS → Prop} (hQ : Q (some (.inl (cl_fault v w))) b v) : WV X d 60 0 [some (.inr (.inr (some 0))), some (.inl w)] [] b v Q := by
  rw [cl_fault] at hQ
  refine r_ex 1 (pc' := 1) (lo' := [some (.inr (.inr (some 0))), some (.inl w)]) (st' := [.inl w]) rfl ?_
  refine n_if_ne (pc0 := 1) (len := 3) (t := 12) rfl (by first | assumption | omega | (unfold R32 at *; omega) | (unfold R64 at *; omega) | (simp only [R32, R64] at *; omega)) (fun h_1 => ?_) (fun h_1 => ?_)
  · show WV _ _ _ 12 _ _ _ _ _
    rw [if_neg h_1] at hQ
    refine r_ex 2 (pc' := 14) (lo' := [some (.inr (.inr (some 0))), some (.inl w)]) (st' := [.inl 1, .inl w]) rfl ?_
    refine n_ic_ne (pc0 := 14) (len := 3) (t := 27) rfl (by first | assumption | omega | (unfold R32 at *; omega) | (unfold R64 at *; omega) | (simp only [R32, R64] at *; omega)) (by first | assumption | omega | (unfold R32 at *; omega) | (unfold R64 at *; omega) | (simp only [R32, R64] at *; omega)) (fun h_14 => ?_) (fun h_14 => ?_)
    · show WV _ _ _ 27 _ _ _ _ _
      rw [if_neg h_14] at hQ
      refine r_ex 1 (pc' := 28) (lo' := [some (.inr (.inr (some 0))), some (.inl w)]) (st' := [.inl (-1)]) rfl ?_
      refine r_ret (rr := some (.inl (-1))) (I := .ireturn) (pc0 := 28) (len := 1) rfl rfl ?_
      exact hQ 
    · show WV _ _ _ 17 _ _ _ _ _
      rw [if_pos h_14] at hQ
      refine r_ex 4 (pc' := 28) (lo' := [some (.inr (.inr (some 0))), some (.inl w)]) (st' := [.inl (v 2 2)]) rfl ?_
      have hb_1 : -1 ≤ (v 2 2) ∧ (v 2 2) ≤ 2000 := hX 2 2
      refine r_ret (rr := some (.inl (v 2 2))) (I := .ireturn) (pc0 := 28) (len := 1) rfl rfl ?_
      exact hQ 
  · show WV _ _ _ 4 _ _ _ _ _
    rw [if_pos h_1] at hQ
    refine r_ex 3 (pc' := 11) (lo' := [some (.inr (.inr (some 0))), some (.inl w)]) (st' := [.inl (v 2 1)]) rfl ?_
    have hb_2 : 0 ≤ (v 2 1) ∧ (v 2 1) ≤ 3 := hX 2 1
    refine r_ret (rr := some (.inl (v 2 1))) (I := .ireturn) (pc0 := 11) (len := 1) rfl rfl ?_
    exact hQ 

theorem e_cl_fault {X : PX} {d b : Nat} {v : VS} {w : Int} (hX : XI v) (hp_a : R32 w) : EvV X d 60 [.inr (.inr (some 0)), .inl w] b v (some (.inl (cl_fault v w))) b v := EvV.of (w_cl_fault hX hp_a (⟨rfl, rfl, rfl⟩))

def cl_church (v : VS) (c : Int) (w : Int) : Int :=
  (if 0 ≤ c ∧ c < v 33 0 then (if w = 0 then (v 34 ((c).toNat)) else (if w = 1 then (v 35 ((c).toNat)) else (if w = 2 then (v 36 ((c).toNat)) else (if w = 3 then (cl_bit v (v 33 4) c) else (-2))))) else (-2))
theorem w_cl_church {X : PX} {d b : Nat} {v : VS} {c : Int} {w : Int} (hX : XI v) (hp_a : R32 c) (hp_b : R32 w) {Q : Option PV → Nat → VS → Prop} (hQ : Q (some (.inl (cl_church v c w))) b v) : WV X (d + 1) 61 0 [some (.inr (.inr (some 0))), some (.inl c), some (.inl w)] [] b v Q := by
  rw [cl_church] at hQ
  refine r_ex 2 (pc' := 2) (lo' := [some (.inr (.inr (some 0))), some (.inl c), some (.inl w)]) (st' := [.inl c, .inr (.inr (some 0))]) rfl ?_
  have hp_1 : R32 c := (by first | assumption | omega | (unfold R32 at *; omega) | (unfold R64 at *; omega) | (simp only [R32, R64] at *; omega))
  have hb_2 : 0 ≤ v 33 0 ∧ v 33 0 ≤ 9 := hX 33 0
  refine r_callb (P := 0 ≤ c ∧ c < v 33 0) (m := 62) (args := [.inr (.inr (some 0)), .inl c]) (n' := 61) (pc' := 5) (lo' := [some (.inr (.inr (some 0))), some (.inl c), some (.inl w)]) (st' := []) (I := .invokevirtual 62) (pc0 := 2) (len := 3) rfl rfl rfl (e_cl_isChurch hX hp_1) (fun h_2 => ?_) (fun h_2 => ?_)
  · show WV _ _ _ 5 _ _ _ _ _
    rw [if_pos h_2] at hQ
    refine r_ex 2 (pc' := 12) (lo' := [some (.inr (.inr (some 0))), some (.inl c), some (.inl w)]) (st' := [.inl w]) rfl ?_
    by_cases h_12_0 : w = 0
    · refine n_ts (pc' := 44) (pc0 := 12) (len := 32) (x := w) (y := 0) rfl h_12_0 rfl ?_
      rw [if_pos h_12_0] at hQ
      refine r_ex 4 (pc' := 52) (lo' := [some (.inr (.inr (some 0))), some (.inl c), some (.inl w)]) (st' := [.inl c, .inr (.inr (some 34))]) rfl ?_
      refine r_iald2 (j := 0) (x := (v 34 ((c).toNat))) (pc' := 53) (pc0 := 52) (len := 1) rfl (s_34 _) (by first | assumption | omega | (unfold R32 at *; omega) | (unfold R64 at *; omega) | (simp only [R32, R64] at *; omega)) (by decide) rfl rfl ?_
      have hb_4 : 0 ≤ (v 34 ((c).toNat)) ∧ (v 34 ((c).toNat)) ≤ 2 := hX 34 ((c).toNat)
      refine r_ret (rr := some (.inl (v 34 ((c).toNat)))) (I := .ireturn) (pc0 := 53) (len := 1) rfl rfl ?_
      exact hQ 
    · rw [if_neg h_12_0] at hQ
      by_cases h_12_1 : w = 1
      · refine n_ts (pc' := 54) (pc0 := 12) (len := 32) (x := w) (y := 1) rfl h_12_1 rfl ?_
        rw [if_pos h_12_1] at hQ
        refine r_ex 4 (pc' := 62) (lo' := [some (.inr (.inr (some 0))), some (.inl c), some (.inl w)]) (st' := [.inl c, .inr (.inr (some 35))]) rfl ?_
        refine r_iald2 (j := 0) (x := (v 35 ((c).toNat))) (pc' := 63) (pc0 := 62) (len := 1) rfl (s_35 _) (by first | assumption | omega | (unfold R32 at *; omega) | (unfold R64 at *; omega) | (simp only [R32, R64] at *; omega)) (by decide) rfl rfl ?_
        have hb_6 : 0 ≤ (v 35 ((c).toNat)) ∧ (v 35 ((c).toNat)) ≤ 60 := hX 35 ((c).toNat)
        refine r_ret (rr := some (.inl (v 35 ((c).toNat)))) (I := .ireturn) (pc0 := 63) (len := 1) rfl rfl ?_
        exact hQ 
      · rw [if_neg h_12_1] at hQ
        by_cases h_12_2 : w = 2
        · refine n_ts (pc' := 64) (pc0 := 12) (len := 32) (x := w) (y := 2) rfl h_12_2 rfl ?_
          rw [if_pos h_12_2] at hQ
          refine r_ex 4 (pc' := 72) (lo' := [some (.inr (.inr (some 0))), some (.inl c), some (.inl w)]) (st' := [.inl c, .inr (.inr (some 36))]) rfl ?_
          refine r_iald2 (j := 0) (x := (v 36 ((c).toNat))) (pc' := 73) (pc0 := 72) (len := 1) rfl (s_36 _) (by first | assumption | omega | (unfold R32 at *; omega) | (unfold R64 at *; omega) | (simp only [R32, R64] at *; omega)) (by decide) rfl rfl ?_
          have hb_8 : 0 ≤ (v 36 ((c).toNat)) ∧ (v 36 ((c).toNat)) ≤ 99 := hX 36 ((c).toNat)
          refine r_ret (rr := some (.inl (v 36 ((c).toNat)))) (I := .ireturn) (pc0 := 73) (len := 1) rfl rfl ?_
          exact hQ 
        · rw [if_neg h_12_2] at hQ
          by_cases h_12_3 : w = 3
          · refine n_ts (pc' := 74) (pc0 := 12) (len := 32) (x := w) (y := 3) rfl h_12_3 rfl ?_
            rw [if_pos h_12_3] at hQ
            refine r_ex 4 (pc' := 82) (lo' := [some (.inr (.inr (some 0))), some (.inl c), some (.inl w)]) (st' := [.inl c, .inl (v 33 4)]) rfl ?_
            have hb_10 : 0 ≤ (v 33 4) ∧ (v 33 4) ≤ 511 := hX 33 4
            have hp_11 : 0 ≤ (v 33 4) ∧ (v 33 4) < 4096 := (by first | assumption | omega | (unfold R32 at *; omega) | (unfold R64 at *; omega) | (simp only [R32, R64] at *; omega))
            have hp_12 : 0 ≤ c ∧ c < 12 := (by first | assumption | omega | (unfold R32 at *; omega) | (unfold R64 at *; omega) | (simp only [R32, R64] at *; omega))
            refine r_call (m := 63) (args := [.inl (v 33 4), .inl c]) (n' := 61) (pc' := 85) (lo' := [some (.inr (.inr (some 0))), some (.inl c), some (.inl w)]) (st' := []) (I := .invokestatic 63) (pc0 := 82) (len := 3) rfl rfl rfl (e_cl_bit hX hp_11 hp_12) ?_
            show WV _ _ _ 85 _ [.inl (cl_bit v (v 33 4) c)] _ _ _
            have hb_13 := n_cl_bit (v := v) (c := (v 33 4)) (k := c) hX hp_11 hp_12
            refine r_ret (rr := some (.inl (cl_bit v (v 33 4) c))) (I := .ireturn) (pc0 := 85) (len := 1) rfl rfl ?_
            exact hQ 
          · rw [if_neg h_12_3] at hQ
            refine n_ts_d (pc' := 86) (pc0 := 12) (len := 32) (x := w) rfl (by first | assumption | omega | (unfold R32 at *; omega) | (unfold R64 at *; omega) | (simp only [R32, R64] at *; omega)) (by first | assumption | omega | (unfold R32 at *; omega) | (unfold R64 at *; omega) | (simp only [R32, R64] at *; omega)) ?_
            refine r_ex 1 (pc' := 88) (lo' := [some (.inr (.inr (some 0))), some (.inl c), some (.inl w)]) (st' := [.inl (-2)]) rfl ?_
            refine r_ret (rr := some (.inl (-2))) (I := .ireturn) (pc0 := 88) (len := 1) rfl rfl ?_
            exact hQ 
  · show WV _ _ _ 5 _ _ _ _ _
    rw [if_neg h_2] at hQ
    refine r_ex 2 (pc' := 10) (lo' := [some (.inr (.inr (some 0))), some (.inl c), some (.inl w)]) (st' := [.inl (-2)]) rfl ?_
    refine r_ret (rr := some (.inl (-2))) (I := .ireturn) (pc0 := 10) (len := 1) rfl rfl ?_
    exact hQ 

theorem e_cl_church {X : PX} {d b : Nat} {v : VS} {c : Int} {w : Int} (hX : XI v) (hp_a : R32 c) (hp_b : R32 w) : EvV X (d + 1) 61 [.inr (.inr (some 0)), .inl c, .inl w] b v (some (.inl (cl_church v c w))) b v := EvV.of (w_cl_church hX hp_a hp_b (⟨rfl, rfl, rfl⟩))

def cl_ear (v : VS) (c : Int) (w : Int) : Int :=
  (if 0 ≤ c ∧ c < v 37 0 then (if w = 0 then (v 38 ((c).toNat)) else (if w = 1 then (v 39 ((c).toNat)) else (if w = 2 then (v 40 ((c).toNat)) else (if w = 3 then (v 41 ((c).toNat)) else (if w = 4 then (cl_bit v (v 33 5) c) else (-2)))))) else (-2))
theorem w_cl_ear {X : PX} {d b : Nat} {v : VS} {c : Int} {w : Int} (hX : XI v) (hp_a : R32 c) (hp_b : R32 w) {Q : Option PV → Nat → VS → Prop} (hQ : Q (some (.inl (cl_ear v c w))) b v) : WV X (d + 1) 64 0 [some (.inr (.inr (some 0))), some (.inl c), some (.inl w)] [] b v Q := by
  rw [cl_ear] at hQ
  refine r_ex 2 (pc' := 2) (lo' := [some (.inr (.inr (some 0))), some (.inl c), some (.inl w)]) (st' := [.inl c, .inr (.inr (some 0))]) rfl ?_
  have hp_1 : R32 c := (by first | assumption | omega | (unfold R32 at *; omega) | (unfold R64 at *; omega) | (simp only [R32, R64] at *; omega))
  have hb_2 : 0 ≤ v 37 0 ∧ v 37 0 ≤ 12 := hX 37 0
  refine r_callb (P := 0 ≤ c ∧ c < v 37 0) (m := 65) (args := [.inr (.inr (some 0)), .inl c]) (n' := 64) (pc' := 5) (lo' := [some (.inr (.inr (some 0))), some (.inl c), some (.inl w)]) (st' := []) (I := .invokevirtual 65) (pc0 := 2) (len := 3) rfl rfl rfl (e_cl_isEar hX hp_1) (fun h_2 => ?_) (fun h_2 => ?_)
  · show WV _ _ _ 5 _ _ _ _ _
    rw [if_pos h_2] at hQ
    refine r_ex 2 (pc' := 12) (lo' := [some (.inr (.inr (some 0))), some (.inl c), some (.inl w)]) (st' := [.inl w]) rfl ?_
    by_cases h_12_0 : w = 0
    · refine n_ts (pc' := 48) (pc0 := 12) (len := 36) (x := w) (y := 0) rfl h_12_0 rfl ?_
      rw [if_pos h_12_0] at hQ
      refine r_ex 5 (pc' := 59) (lo' := [some (.inr (.inr (some 0))), some (.inl c), some (.inl w)]) (st' := [.inl c, .inr (.inr (some 38))]) rfl ?_
      refine r_iald2 (j := 0) (x := (v 38 ((c).toNat))) (pc' := 60) (pc0 := 59) (len := 1) rfl (s_38 _) (by first | assumption | omega | (unfold R32 at *; omega) | (unfold R64 at *; omega) | (simp only [R32, R64] at *; omega)) (by decide) rfl rfl ?_
      have hb_4 : 0 ≤ (v 38 ((c).toNat)) ∧ (v 38 ((c).toNat)) ≤ 8 := hX 38 ((c).toNat)
      refine r_ret (rr := some (.inl (v 38 ((c).toNat)))) (I := .ireturn) (pc0 := 60) (len := 1) rfl rfl ?_
      exact hQ 
    · rw [if_neg h_12_0] at hQ
      by_cases h_12_1 : w = 1
      · refine n_ts (pc' := 61) (pc0 := 12) (len := 36) (x := w) (y := 1) rfl h_12_1 rfl ?_
        rw [if_pos h_12_1] at hQ
        refine r_ex 5 (pc' := 72) (lo' := [some (.inr (.inr (some 0))), some (.inl c), some (.inl w)]) (st' := [.inl c, .inr (.inr (some 39))]) rfl ?_
        refine r_iald2 (j := 0) (x := (v 39 ((c).toNat))) (pc' := 73) (pc0 := 72) (len := 1) rfl (s_39 _) (by first | assumption | omega | (unfold R32 at *; omega) | (unfold R64 at *; omega) | (simp only [R32, R64] at *; omega)) (by decide) rfl rfl ?_
        have hb_6 : 0 ≤ (v 39 ((c).toNat)) ∧ (v 39 ((c).toNat)) ≤ 8 := hX 39 ((c).toNat)
        refine r_ret (rr := some (.inl (v 39 ((c).toNat)))) (I := .ireturn) (pc0 := 73) (len := 1) rfl rfl ?_
        exact hQ 
      · rw [if_neg h_12_1] at hQ
        by_cases h_12_2 : w = 2
        · refine n_ts (pc' := 74) (pc0 := 12) (len := 36) (x := w) (y := 2) rfl h_12_2 rfl ?_
          rw [if_pos h_12_2] at hQ
          refine r_ex 5 (pc' := 85) (lo' := [some (.inr (.inr (some 0))), some (.inl c), some (.inl w)]) (st' := [.inl c, .inr (.inr (some 40))]) rfl ?_
          refine r_iald2 (j := 0) (x := (v 40 ((c).toNat))) (pc' := 86) (pc0 := 85) (len := 1) rfl (s_40 _) (by first | assumption | omega | (unfold R32 at *; omega) | (unfold R64 at *; omega) | (simp only [R32, R64] at *; omega)) (by decide) rfl rfl ?_
          have hb_8 : 0 ≤ (v 40 ((c).toNat)) ∧ (v 40 ((c).toNat)) ≤ 60 := hX 40 ((c).toNat)
          refine r_ret (rr := some (.inl (v 40 ((c).toNat)))) (I := .ireturn) (pc0 := 86) (len := 1) rfl rfl ?_
          exact hQ 
        · rw [if_neg h_12_2] at hQ
          by_cases h_12_3 : w = 3
          · refine n_ts (pc' := 87) (pc0 := 12) (len := 36) (x := w) (y := 3) rfl h_12_3 rfl ?_
            rw [if_pos h_12_3] at hQ
            refine r_ex 5 (pc' := 98) (lo' := [some (.inr (.inr (some 0))), some (.inl c), some (.inl w)]) (st' := [.inl c, .inr (.inr (some 41))]) rfl ?_
            refine r_iald2 (j := 0) (x := (v 41 ((c).toNat))) (pc' := 99) (pc0 := 98) (len := 1) rfl (s_41 _) (by first | assumption | omega | (unfold R32 at *; omega) | (unfold R64 at *; omega) | (simp only [R32, R64] at *; omega)) (by decide) rfl rfl ?_
            have hb_10 : 0 ≤ (v 41 ((c).toNat)) ∧ (v 41 ((c).toNat)) ≤ 2 := hX 41 ((c).toNat)
            refine r_ret (rr := some (.inl (v 41 ((c).toNat)))) (I := .ireturn) (pc0 := 99) (len := 1) rfl rfl ?_
            exact hQ 
          · rw [if_neg h_12_3] at hQ
            by_cases h_12_4 : w = 4
            · refine n_ts (pc' := 100) (pc0 := 12) (len := 36) (x := w) (y := 4) rfl h_12_4 rfl ?_
              rw [if_pos h_12_4] at hQ
              refine r_ex 4 (pc' := 108) (lo' := [some (.inr (.inr (some 0))), some (.inl c), some (.inl w)]) (st' := [.inl c, .inl (v 33 5)]) rfl ?_
              have hb_12 : 0 ≤ (v 33 5) ∧ (v 33 5) ≤ 4095 := hX 33 5
              have hp_13 : 0 ≤ (v 33 5) ∧ (v 33 5) < 4096 := (by first | assumption | omega | (unfold R32 at *; omega) | (unfold R64 at *; omega) | (simp only [R32, R64] at *; omega))
              have hp_14 : 0 ≤ c ∧ c < 12 := (by first | assumption | omega | (unfold R32 at *; omega) | (unfold R64 at *; omega) | (simp only [R32, R64] at *; omega))
              refine r_call (m := 63) (args := [.inl (v 33 5), .inl c]) (n' := 64) (pc' := 111) (lo' := [some (.inr (.inr (some 0))), some (.inl c), some (.inl w)]) (st' := []) (I := .invokestatic 63) (pc0 := 108) (len := 3) rfl rfl rfl (e_cl_bit hX hp_13 hp_14) ?_
              show WV _ _ _ 111 _ [.inl (cl_bit v (v 33 5) c)] _ _ _
              have hb_15 := n_cl_bit (v := v) (c := (v 33 5)) (k := c) hX hp_13 hp_14
              refine r_ret (rr := some (.inl (cl_bit v (v 33 5) c))) (I := .ireturn) (pc0 := 111) (len := 1) rfl rfl ?_
              exact hQ 
            · rw [if_neg h_12_4] at hQ
              refine n_ts_d (pc' := 112) (pc0 := 12) (len := 36) (x := w) rfl (by first | assumption | omega | (unfold R32 at *; omega) | (unfold R64 at *; omega) | (simp only [R32, R64] at *; omega)) (by first | assumption | omega | (unfold R32 at *; omega) | (unfold R64 at *; omega) | (simp only [R32, R64] at *; omega)) ?_
              refine r_ex 1 (pc' := 114) (lo' := [some (.inr (.inr (some 0))), some (.inl c), some (.inl w)]) (st' := [.inl (-2)]) rfl ?_
              refine r_ret (rr := some (.inl (-2))) (I := .ireturn) (pc0 := 114) (len := 1) rfl rfl ?_
              exact hQ 
  · show WV _ _ _ 5 _ _ _ _ _
    rw [if_neg h_2] at hQ
    refine r_ex 2 (pc' := 10) (lo' := [some (.inr (.inr (some 0))), some (.inl c), some (.inl w)]) (st' := [.inl (-2)]) rfl ?_
    refine r_ret (rr := some (.inl (-2))) (I := .ireturn) (pc0 := 10) (len := 1) rfl rfl ?_
    exact hQ 

theorem e_cl_ear {X : PX} {d b : Nat} {v : VS} {c : Int} {w : Int} (hX : XI v) (hp_a : R32 c) (hp_b : R32 w) : EvV X (d + 1) 64 [.inr (.inr (some 0)), .inl c, .inl w] b v (some (.inl (cl_ear v c w))) b v := EvV.of (w_cl_ear hX hp_a hp_b (⟨rfl, rfl, rfl⟩))

theorem x_lagInX {X : PX} {d b : Nat} {v : VS} {e w : Int} (hX : XI v) (he : 0 ≤ e ∧ e < 12) (hw : -40 ≤ w ∧ w ≤ 40) : EvV X (d + 1) 68 [.inr (.inr (some 37)), .inl e, .inl w] b v (some (.inl (xlag v e w))) b v := x_lagIn hX he (by omega)
theorem n_xlag {v : VS} {e w : Int} (hX : XI v) (he : 0 ≤ e ∧ e < 12) (hw : -40 ≤ w ∧ w ≤ 40) : 0 ≤ xlag v e w ∧ xlag v e w ≤ 100 := xlag_in hX e hw

def cl_takes (v : VS) (c : Int) (s : Int) : Int :=
  (if 0 ≤ c ∧ c < v 37 0 then (if 0 ≤ s ∧ s < v 33 1 then (xlag v c (v 63 ((s).toNat))) else (-2)) else (-2))
theorem w_cl_takes {X : PX} {d b : Nat} {v : VS} {c : Int} {s : Int} (hX : XI v) (hp_a : R32 c) (hp_b : R32 s) {Q : Option PV → Nat → VS → Prop} (hQ : Q (some (.inl (cl_takes v c s))) b v) : WV X (d + 1 + 1) 66 0 [some (.inr (.inr (some 0))), some (.inl c), some (.inl s)] [] b v Q := by
  rw [cl_takes] at hQ
  refine r_ex 2 (pc' := 2) (lo' := [some (.inr (.inr (some 0))), some (.inl c), some (.inl s)]) (st' := [.inl c, .inr (.inr (some 0))]) rfl ?_
  have hp_1 : R32 c := (by first | assumption | omega | (unfold R32 at *; omega) | (unfold R64 at *; omega) | (simp only [R32, R64] at *; omega))
  have hb_2 : 0 ≤ v 37 0 ∧ v 37 0 ≤ 12 := hX 37 0
  refine r_callb (P := 0 ≤ c ∧ c < v 37 0) (m := 65) (args := [.inr (.inr (some 0)), .inl c]) (n' := 66) (pc' := 5) (lo' := [some (.inr (.inr (some 0))), some (.inl c), some (.inl s)]) (st' := []) (I := .invokevirtual 65) (pc0 := 2) (len := 3) rfl rfl rfl (e_cl_isEar hX hp_1) (fun h_2 => ?_) (fun h_2 => ?_)
  · show WV _ _ _ 5 _ _ _ _ _
    rw [if_pos h_2] at hQ
    refine r_ex 3 (pc' := 10) (lo' := [some (.inr (.inr (some 0))), some (.inl c), some (.inl s)]) (st' := [.inl s, .inr (.inr (some 0))]) rfl ?_
    have hp_3 : R32 s := (by first | assumption | omega | (unfold R32 at *; omega) | (unfold R64 at *; omega) | (simp only [R32, R64] at *; omega))
    have hb_4 : 0 ≤ v 33 1 ∧ v 33 1 ≤ 300 := hX 33 1
    refine r_callb (P := 0 ≤ s ∧ s < v 33 1) (m := 67) (args := [.inr (.inr (some 0)), .inl s]) (n' := 66) (pc' := 13) (lo' := [some (.inr (.inr (some 0))), some (.inl c), some (.inl s)]) (st' := []) (I := .invokevirtual 67) (pc0 := 10) (len := 3) rfl rfl rfl (e_cl_isSecond hX hp_3) (fun h_10 => ?_) (fun h_10 => ?_)
    · show WV _ _ _ 13 _ _ _ _ _
      rw [if_pos h_10] at hQ
      refine r_ex 9 (pc' := 35) (lo' := [some (.inr (.inr (some 0))), some (.inl c), some (.inl s)]) (st' := [.inl s, .inr (.inr (some 63)), .inl c, .inr (.inr (some 37))]) rfl ?_
      refine r_iald2 (j := 0) (x := (v 63 ((s).toNat))) (pc' := 36) (pc0 := 35) (len := 1) rfl (s_63 _) (by first | assumption | omega | (unfold R32 at *; omega) | (unfold R64 at *; omega) | (simp only [R32, R64] at *; omega)) (by decide) rfl rfl ?_
      have hb_5 : -20 ≤ (v 63 ((s).toNat)) ∧ (v 63 ((s).toNat)) ≤ 20 := hX 63 ((s).toNat)
      have hp_6 : 0 ≤ c ∧ c < 12 := (by first | assumption | omega | (unfold R32 at *; omega) | (unfold R64 at *; omega) | (simp only [R32, R64] at *; omega))
      have hp_7 : -40 ≤ (v 63 ((s).toNat)) ∧ (v 63 ((s).toNat)) ≤ 40 := (by first | assumption | omega | (unfold R32 at *; omega) | (unfold R64 at *; omega) | (simp only [R32, R64] at *; omega))
      refine r_call (m := 68) (args := [.inr (.inr (some 37)), .inl c, .inl (v 63 ((s).toNat))]) (n' := 66) (pc' := 39) (lo' := [some (.inr (.inr (some 0))), some (.inl c), some (.inl s)]) (st' := []) (I := .invokevirtual 68) (pc0 := 36) (len := 3) rfl rfl rfl (x_lagInX hX hp_6 hp_7) ?_
      show WV _ _ _ 39 _ [.inl (xlag v c (v 63 ((s).toNat)))] _ _ _
      have hb_8 := n_xlag (v := v) (e := c) (w := (v 63 ((s).toNat))) hX hp_6 hp_7
      refine r_ret (rr := some (.inl (xlag v c (v 63 ((s).toNat))))) (I := .ireturn) (pc0 := 39) (len := 1) rfl rfl ?_
      exact hQ 
    · show WV _ _ _ 13 _ _ _ _ _
      rw [if_neg h_10] at hQ
      refine r_ex 2 (pc' := 18) (lo' := [some (.inr (.inr (some 0))), some (.inl c), some (.inl s)]) (st' := [.inl (-2)]) rfl ?_
      refine r_ret (rr := some (.inl (-2))) (I := .ireturn) (pc0 := 18) (len := 1) rfl rfl ?_
      exact hQ 
  · show WV _ _ _ 5 _ _ _ _ _
    rw [if_neg h_2] at hQ
    refine r_ex 2 (pc' := 18) (lo' := [some (.inr (.inr (some 0))), some (.inl c), some (.inl s)]) (st' := [.inl (-2)]) rfl ?_
    refine r_ret (rr := some (.inl (-2))) (I := .ireturn) (pc0 := 18) (len := 1) rfl rfl ?_
    exact hQ 

theorem e_cl_takes {X : PX} {d b : Nat} {v : VS} {c : Int} {s : Int} (hX : XI v) (hp_a : R32 c) (hp_b : R32 s) : EvV X (d + 1 + 1) 66 [.inr (.inr (some 0)), .inl c, .inl s] b v (some (.inl (cl_takes v c s))) b v := EvV.of (w_cl_takes hX hp_a hp_b (⟨rfl, rfl, rfl⟩))

def cl_strikes (v : VS)  : Int × VS :=
  (if 0 < v 33 2 then (((cl_asItIs v) 79 4), (cl_asItIs v)) else ((-2), v))
theorem w_cl_strikes {X : PX} {d b : Nat} {v : VS}  (hX : XI v)  {Q : Option PV → Nat → VS → Prop} (hQ : XI (cl_strikes v).2 → Q (some (.inl (cl_strikes v).1)) b (cl_strikes v).2) : WV X (d + 1 + 1 + 1 + 1 + 1 + 1 + 1) 70 0 [some (.inr (.inr (some 0)))] [] b v Q := by
  rw [cl_strikes] at hQ
  refine r_ex 1 (pc' := 1) (lo' := [some (.inr (.inr (some 0)))]) (st' := [.inr (.inr (some 0))]) rfl ?_
  have hb_1 : 0 ≤ v 33 2 ∧ v 33 2 ≤ 2001 := hX 33 2
  refine r_callb (P := 0 < v 33 2) (m := 71) (args := [.inr (.inr (some 0))]) (n' := 70) (pc' := 4) (lo' := [some (.inr (.inr (some 0)))]) (st' := []) (I := .invokevirtual 71) (pc0 := 1) (len := 3) rfl rfl rfl (e_cl_hasBay hX) (fun h_1 => ?_) (fun h_1 => ?_)
  · show WV _ _ _ 4 _ _ _ _ _
    rw [if_pos h_1] at hQ
    refine r_ex 2 (pc' := 8) (lo' := [some (.inr (.inr (some 0)))]) (st' := [.inr (.inr (some 0))]) rfl ?_
    refine r_call (m := 72) (args := [.inr (.inr (some 0))]) (n' := 70) (pc' := 11) (lo' := [some (.inr (.inr (some 0)))]) (st' := []) (I := .invokevirtual 72) (pc0 := 8) (len := 3) rfl rfl rfl (e_cl_asItIs hX) ?_
    show WV _ _ _ 11 _ [.inr (.inr (some 79))] _ (cl_asItIs v) _
    have hX_2 : XI (cl_asItIs v) := i_cl_asItIs (v := v) hX
    refine r_ex 2 (pc' := 19) (lo' := [some (.inr (.inr (some 0)))]) (st' := [.inl ((cl_asItIs v) 79 4)]) rfl ?_
    have hb_3 : 0 ≤ ((cl_asItIs v) 79 4) ∧ ((cl_asItIs v) 79 4) ≤ 300 := hX_2 79 4
    refine r_ret (rr := some (.inl ((cl_asItIs v) 79 4))) (I := .ireturn) (pc0 := 19) (len := 1) rfl rfl ?_
    exact hQ hX_2 
  · show WV _ _ _ 4 _ _ _ _ _
    rw [if_neg h_1] at hQ
    refine r_ex 2 (pc' := 19) (lo' := [some (.inr (.inr (some 0)))]) (st' := [.inl (-2)]) rfl ?_
    refine r_ret (rr := some (.inl (-2))) (I := .ireturn) (pc0 := 19) (len := 1) rfl rfl ?_
    exact hQ hX 

theorem e_cl_strikes {X : PX} {d b : Nat} {v : VS}  (hX : XI v)  : EvV X (d + 1 + 1 + 1 + 1 + 1 + 1 + 1) 70 [.inr (.inr (some 0))] b v (some (.inl (cl_strikes v).1)) b ((cl_strikes v).2) := EvV.of (w_cl_strikes hX  (fun _ => ⟨rfl, rfl, rfl⟩))

theorem i_cl_strikes {v : VS}  (hX : XI v)  : XI ((cl_strikes v).2) := by
  have q : WV (0, fun _ => 0, none) (0 + 1 + 1 + 1 + 1 + 1 + 1 + 1) 70 0 [some (.inr (.inr (some 0)))] [] 1 v (fun _ _ _ => XI ((cl_strikes v).2)) := w_cl_strikes (X := (0, fun _ => 0, none)) (d := 0) (b := 1) hX  (fun q => q)
  obtain ⟨_, _, _, _, _, _, _, q⟩ := q
  exact q

theorem o_cl_strikes {rk : Nat} {v : VS}  (hk : (rk < 0 ∨ 0 < rk) ∧ (rk < 67 ∨ 90 < rk) ∧ (rk < 105 ∨ 105 < rk)) : (cl_strikes v ).2 rk = v rk := by
  unfold cl_strikes
  by_cases hc_ : 0 < v 33 2
  · rw [if_pos hc_]
    all_goals (show (cl_asItIs v) rk = _)
    all_goals (rw [o_cl_asItIs (by omega)])
  · rw [if_neg hc_]
    all_goals (show v rk = _)
    all_goals rfl

def cl_strike (v : VS) (i : Int) (w : Int) : Int × VS :=
  (if 0 < v 33 2 then (if w < 0 then ((-2), v) else (if 4 < w then ((-2), v) else (if 0 ≤ i ∧ i < (cl_asItIs v) 79 4 then (if w = 0 then (((cl_asItIs v) 80 ((i).toNat)), (cl_asItIs v)) else (if w = 1 then (((cl_asItIs v) 81 ((i).toNat)), (cl_asItIs v)) else (if w = 2 then (((cl_asItIs v) 82 ((i).toNat)), (cl_asItIs v)) else (if w = 3 then (((cl_asItIs v) 83 ((i).toNat)), (cl_asItIs v)) else (((cl_asItIs v) 84 ((i).toNat)), (cl_asItIs v)))))) else ((-1), (cl_asItIs v))))) else ((-2), v))
theorem w_cl_strike {X : PX} {d b : Nat} {v : VS} {i : Int} {w : Int} (hX : XI v) (hp_a : R32 i) (hp_b : R32 w) {Q : Option PV → Nat → VS → Prop} (hQ : XI (cl_strike v i w).2 → Q (some (.inl (cl_strike v i w).1)) b (cl_strike v i w).2) : WV X (d + 1 + 1 + 1 + 1 + 1 + 1 + 1) 86 0 [some (.inr (.inr (some 0))), some (.inl i), some (.inl w), none] [] b v Q := by
  rw [cl_strike] at hQ
  refine r_ex 1 (pc' := 1) (lo' := [some (.inr (.inr (some 0))), some (.inl i), some (.inl w), none]) (st' := [.inr (.inr (some 0))]) rfl ?_
  have hb_1 : 0 ≤ v 33 2 ∧ v 33 2 ≤ 2001 := hX 33 2
  refine r_callb (P := 0 < v 33 2) (m := 71) (args := [.inr (.inr (some 0))]) (n' := 86) (pc' := 4) (lo' := [some (.inr (.inr (some 0))), some (.inl i), some (.inl w), none]) (st' := []) (I := .invokevirtual 71) (pc0 := 1) (len := 3) rfl rfl rfl (e_cl_hasBay hX) (fun h_1 => ?_) (fun h_1 => ?_)
  · show WV _ _ _ 4 _ _ _ _ _
    rw [if_pos h_1] at hQ
    refine r_ex 2 (pc' := 8) (lo' := [some (.inr (.inr (some 0))), some (.inl i), some (.inl w), none]) (st' := [.inl w]) rfl ?_
    refine n_if_lt (pc0 := 8) (len := 3) (t := 16) rfl (by first | assumption | omega | (unfold R32 at *; omega) | (unfold R64 at *; omega) | (simp only [R32, R64] at *; omega)) (fun h_8 => ?_) (fun h_8 => ?_)
    · show WV _ _ _ 16 _ _ _ _ _
      rw [if_pos h_8] at hQ
      refine r_ex 1 (pc' := 18) (lo' := [some (.inr (.inr (some 0))), some (.inl i), some (.inl w), none]) (st' := [.inl (-2)]) rfl ?_
      refine r_ret (rr := some (.inl (-2))) (I := .ireturn) (pc0 := 18) (len := 1) rfl rfl ?_
      exact hQ hX 
    · show WV _ _ _ 11 _ _ _ _ _
      rw [if_neg h_8] at hQ
      refine r_ex 2 (pc' := 13) (lo' := [some (.inr (.inr (some 0))), some (.inl i), some (.inl w), none]) (st' := [.inl 4, .inl w]) rfl ?_
      refine n_ic_le (pc0 := 13) (len := 3) (t := 19) rfl (by first | assumption | omega | (unfold R32 at *; omega) | (unfold R64 at *; omega) | (simp only [R32, R64] at *; omega)) (by first | assumption | omega | (unfold R32 at *; omega) | (unfold R64 at *; omega) | (simp only [R32, R64] at *; omega)) (fun h_13 => ?_) (fun h_13 => ?_)
      · show WV _ _ _ 19 _ _ _ _ _
        rw [if_neg h_13] at hQ
        refine r_ex 1 (pc' := 20) (lo' := [some (.inr (.inr (some 0))), some (.inl i), some (.inl w), none]) (st' := [.inr (.inr (some 0))]) rfl ?_
        refine r_call (m := 72) (args := [.inr (.inr (some 0))]) (n' := 86) (pc' := 23) (lo' := [some (.inr (.inr (some 0))), some (.inl i), some (.inl w), none]) (st' := []) (I := .invokevirtual 72) (pc0 := 20) (len := 3) rfl rfl rfl (e_cl_asItIs hX) ?_
        show WV _ _ _ 23 _ [.inr (.inr (some 79))] _ (cl_asItIs v) _
        have hX_2 : XI (cl_asItIs v) := i_cl_asItIs (v := v) hX
        refine r_ex 3 (pc' := 26) (lo' := [some (.inr (.inr (some 0))), some (.inl i), some (.inl w), some (.inr (.inr (some 79)))]) (st' := [.inl i, .inr (.inr (some 79))]) rfl ?_
        have hp_3 : R32 i := (by first | assumption | omega | (unfold R32 at *; omega) | (unfold R64 at *; omega) | (simp only [R32, R64] at *; omega))
        have hb_4 : 0 ≤ (cl_asItIs v) 79 4 ∧ (cl_asItIs v) 79 4 ≤ 300 := hX_2 79 4
        refine r_callb (P := 0 ≤ i ∧ i < (cl_asItIs v) 79 4) (m := 87) (args := [.inr (.inr (some 79)), .inl i]) (n' := 86) (pc' := 29) (lo' := [some (.inr (.inr (some 0))), some (.inl i), some (.inl w), some (.inr (.inr (some 79)))]) (st' := []) (I := .invokevirtual 87) (pc0 := 26) (len := 3) rfl rfl rfl (e_cl_has79 hX_2 hp_3) (fun h_26 => ?_) (fun h_26 => ?_)
        · show WV _ _ _ 29 _ _ _ _ _
          rw [if_pos h_26] at hQ
          refine r_ex 2 (pc' := 35) (lo' := [some (.inr (.inr (some 0))), some (.inl i), some (.inl w), some (.inr (.inr (some 79)))]) (st' := [.inl w]) rfl ?_
          by_cases h_35_0 : w = 0
          · refine n_ts (pc' := 64) (pc0 := 35) (len := 29) (x := w) (y := 0) rfl h_35_0 rfl ?_
            rw [if_pos h_35_0] at hQ
            refine r_ex 3 (pc' := 69) (lo' := [some (.inr (.inr (some 0))), some (.inl i), some (.inl w), some (.inr (.inr (some 79)))]) (st' := [.inl i, .inr (.inr (some 80))]) rfl ?_
            refine r_iald2 (j := 0) (x := ((cl_asItIs v) 80 ((i).toNat))) (pc' := 70) (pc0 := 69) (len := 1) rfl (s_80 _) (by first | assumption | omega | (unfold R32 at *; omega) | (unfold R64 at *; omega) | (simp only [R32, R64] at *; omega)) (by decide) rfl rfl ?_
            have hb_6 : 0 ≤ ((cl_asItIs v) 80 ((i).toNat)) ∧ ((cl_asItIs v) 80 ((i).toNat)) ≤ 299 := hX_2 80 ((i).toNat)
            refine r_ret (rr := some (.inl ((cl_asItIs v) 80 ((i).toNat)))) (I := .ireturn) (pc0 := 70) (len := 1) rfl rfl ?_
            exact hQ hX_2 
          · rw [if_neg h_35_0] at hQ
            by_cases h_35_1 : w = 1
            · refine n_ts (pc' := 71) (pc0 := 35) (len := 29) (x := w) (y := 1) rfl h_35_1 rfl ?_
              rw [if_pos h_35_1] at hQ
              refine r_ex 3 (pc' := 76) (lo' := [some (.inr (.inr (some 0))), some (.inl i), some (.inl w), some (.inr (.inr (some 79)))]) (st' := [.inl i, .inr (.inr (some 81))]) rfl ?_
              refine r_iald2 (j := 0) (x := ((cl_asItIs v) 81 ((i).toNat))) (pc' := 77) (pc0 := 76) (len := 1) rfl (s_81 _) (by first | assumption | omega | (unfold R32 at *; omega) | (unfold R64 at *; omega) | (simp only [R32, R64] at *; omega)) (by decide) rfl rfl ?_
              have hb_8 : 0 ≤ ((cl_asItIs v) 81 ((i).toNat)) ∧ ((cl_asItIs v) 81 ((i).toNat)) ≤ 8 := hX_2 81 ((i).toNat)
              refine r_ret (rr := some (.inl ((cl_asItIs v) 81 ((i).toNat)))) (I := .ireturn) (pc0 := 77) (len := 1) rfl rfl ?_
              exact hQ hX_2 
            · rw [if_neg h_35_1] at hQ
              by_cases h_35_2 : w = 2
              · refine n_ts (pc' := 78) (pc0 := 35) (len := 29) (x := w) (y := 2) rfl h_35_2 rfl ?_
                rw [if_pos h_35_2] at hQ
                refine r_ex 3 (pc' := 83) (lo' := [some (.inr (.inr (some 0))), some (.inl i), some (.inl w), some (.inr (.inr (some 79)))]) (st' := [.inl i, .inr (.inr (some 82))]) rfl ?_
                refine r_iald2 (j := 0) (x := ((cl_asItIs v) 82 ((i).toNat))) (pc' := 84) (pc0 := 83) (len := 1) rfl (s_82 _) (by first | assumption | omega | (unfold R32 at *; omega) | (unfold R64 at *; omega) | (simp only [R32, R64] at *; omega)) (by decide) rfl rfl ?_
                have hb_10 : 0 ≤ ((cl_asItIs v) 82 ((i).toNat)) ∧ ((cl_asItIs v) 82 ((i).toNat)) ≤ 99 := hX_2 82 ((i).toNat)
                refine r_ret (rr := some (.inl ((cl_asItIs v) 82 ((i).toNat)))) (I := .ireturn) (pc0 := 84) (len := 1) rfl rfl ?_
                exact hQ hX_2 
              · rw [if_neg h_35_2] at hQ
                by_cases h_35_3 : w = 3
                · refine n_ts (pc' := 85) (pc0 := 35) (len := 29) (x := w) (y := 3) rfl h_35_3 rfl ?_
                  rw [if_pos h_35_3] at hQ
                  refine r_ex 3 (pc' := 90) (lo' := [some (.inr (.inr (some 0))), some (.inl i), some (.inl w), some (.inr (.inr (some 79)))]) (st' := [.inl i, .inr (.inr (some 83))]) rfl ?_
                  refine r_iald2 (j := 0) (x := ((cl_asItIs v) 83 ((i).toNat))) (pc' := 91) (pc0 := 90) (len := 1) rfl (s_83 _) (by first | assumption | omega | (unfold R32 at *; omega) | (unfold R64 at *; omega) | (simp only [R32, R64] at *; omega)) (by decide) rfl rfl ?_
                  have hb_12 : -1 ≤ ((cl_asItIs v) 83 ((i).toNat)) ∧ ((cl_asItIs v) 83 ((i).toNat)) ≤ 299 := hX_2 83 ((i).toNat)
                  refine r_ret (rr := some (.inl ((cl_asItIs v) 83 ((i).toNat)))) (I := .ireturn) (pc0 := 91) (len := 1) rfl rfl ?_
                  exact hQ hX_2 
                · rw [if_neg h_35_3] at hQ
                  refine n_ts_d (pc' := 92) (pc0 := 35) (len := 29) (x := w) rfl (by first | assumption | omega | (unfold R32 at *; omega) | (unfold R64 at *; omega) | (simp only [R32, R64] at *; omega)) (by first | assumption | omega | (unfold R32 at *; omega) | (unfold R64 at *; omega) | (simp only [R32, R64] at *; omega)) ?_
                  refine r_ex 3 (pc' := 97) (lo' := [some (.inr (.inr (some 0))), some (.inl i), some (.inl w), some (.inr (.inr (some 79)))]) (st' := [.inl i, .inr (.inr (some 84))]) rfl ?_
                  refine r_iald2 (j := 0) (x := ((cl_asItIs v) 84 ((i).toNat))) (pc' := 98) (pc0 := 97) (len := 1) rfl (s_84 _) (by first | assumption | omega | (unfold R32 at *; omega) | (unfold R64 at *; omega) | (simp only [R32, R64] at *; omega)) (by decide) rfl rfl ?_
                  have hb_13 : -1 ≤ ((cl_asItIs v) 84 ((i).toNat)) ∧ ((cl_asItIs v) 84 ((i).toNat)) ≤ 11 := hX_2 84 ((i).toNat)
                  refine r_ret (rr := some (.inl ((cl_asItIs v) 84 ((i).toNat)))) (I := .ireturn) (pc0 := 98) (len := 1) rfl rfl ?_
                  exact hQ hX_2 
        · show WV _ _ _ 29 _ _ _ _ _
          rw [if_neg h_26] at hQ
          refine r_ex 2 (pc' := 33) (lo' := [some (.inr (.inr (some 0))), some (.inl i), some (.inl w), some (.inr (.inr (some 79)))]) (st' := [.inl (-1)]) rfl ?_
          refine r_ret (rr := some (.inl (-1))) (I := .ireturn) (pc0 := 33) (len := 1) rfl rfl ?_
          exact hQ hX_2 
      · show WV _ _ _ 16 _ _ _ _ _
        rw [if_pos h_13] at hQ
        refine r_ex 1 (pc' := 18) (lo' := [some (.inr (.inr (some 0))), some (.inl i), some (.inl w), none]) (st' := [.inl (-2)]) rfl ?_
        refine r_ret (rr := some (.inl (-2))) (I := .ireturn) (pc0 := 18) (len := 1) rfl rfl ?_
        exact hQ hX 
  · show WV _ _ _ 4 _ _ _ _ _
    rw [if_neg h_1] at hQ
    refine r_ex 2 (pc' := 18) (lo' := [some (.inr (.inr (some 0))), some (.inl i), some (.inl w), none]) (st' := [.inl (-2)]) rfl ?_
    refine r_ret (rr := some (.inl (-2))) (I := .ireturn) (pc0 := 18) (len := 1) rfl rfl ?_
    exact hQ hX 

theorem e_cl_strike {X : PX} {d b : Nat} {v : VS} {i : Int} {w : Int} (hX : XI v) (hp_a : R32 i) (hp_b : R32 w) : EvV X (d + 1 + 1 + 1 + 1 + 1 + 1 + 1) 86 [.inr (.inr (some 0)), .inl i, .inl w] b v (some (.inl (cl_strike v i w).1)) b ((cl_strike v i w).2) := EvV.of (w_cl_strike hX hp_a hp_b (fun _ => ⟨rfl, rfl, rfl⟩))

theorem i_cl_strike {v : VS} {i : Int} {w : Int} (hX : XI v) (hp_a : R32 i) (hp_b : R32 w) : XI ((cl_strike v i w).2) := by
  have q : WV (0, fun _ => 0, none) (0 + 1 + 1 + 1 + 1 + 1 + 1 + 1) 86 0 [some (.inr (.inr (some 0))), some (.inl i), some (.inl w), none] [] 1 v (fun _ _ _ => XI ((cl_strike v i w).2)) := w_cl_strike (X := (0, fun _ => 0, none)) (d := 0) (b := 1) hX hp_a hp_b (fun q => q)
  obtain ⟨_, _, _, _, _, _, _, q⟩ := q
  exact q

theorem o_cl_strike {rk : Nat} {v : VS} {i : Int} {w : Int} (hk : (rk < 0 ∨ 0 < rk) ∧ (rk < 67 ∨ 90 < rk) ∧ (rk < 105 ∨ 105 < rk)) : (cl_strike v i w).2 rk = v rk := by
  unfold cl_strike
  by_cases hc_ : 0 < v 33 2
  · rw [if_pos hc_]
    by_cases hc_ : w < 0
    · rw [if_pos hc_]
      all_goals (show v rk = _)
      all_goals rfl
    · rw [if_neg hc_]
      by_cases hc_ : 4 < w
      · rw [if_pos hc_]
        all_goals (show v rk = _)
        all_goals rfl
      · rw [if_neg hc_]
        by_cases hc_ : 0 ≤ i ∧ i < (cl_asItIs v) 79 4
        · rw [if_pos hc_]
          by_cases hc_ : w = 0
          · rw [if_pos hc_]
            all_goals (show (cl_asItIs v) rk = _)
            all_goals (rw [o_cl_asItIs (by omega)])
          · rw [if_neg hc_]
            by_cases hc_ : w = 1
            · rw [if_pos hc_]
              all_goals (show (cl_asItIs v) rk = _)
              all_goals (rw [o_cl_asItIs (by omega)])
            · rw [if_neg hc_]
              by_cases hc_ : w = 2
              · rw [if_pos hc_]
                all_goals (show (cl_asItIs v) rk = _)
                all_goals (rw [o_cl_asItIs (by omega)])
              · rw [if_neg hc_]
                by_cases hc_ : w = 3
                · rw [if_pos hc_]
                  all_goals (show (cl_asItIs v) rk = _)
                  all_goals (rw [o_cl_asItIs (by omega)])
                · rw [if_neg hc_]
                  all_goals (show (cl_asItIs v) rk = _)
                  all_goals (rw [o_cl_asItIs (by omega)])
        · rw [if_neg hc_]
          all_goals (show (cl_asItIs v) rk = _)
          all_goals (rw [o_cl_asItIs (by omega)])
  · rw [if_neg hc_]
    all_goals (show v rk = _)
    all_goals rfl

def cl_lost (v : VS) (w : Int) : Int × VS :=
  (if 0 < v 33 2 then (if w < 0 then ((-2), v) else (if w < 8 then (((cl_asItIs v) 85 ((w).toNat)), (cl_asItIs v)) else ((-2), v))) else ((-2), v))
theorem w_cl_lost {X : PX} {d b : Nat} {v : VS} {w : Int} (hX : XI v) (hp_a : R32 w) {Q : Option PV → Nat → VS → Prop} (hQ : XI (cl_lost v w).2 → Q (some (.inl (cl_lost v w).1)) b (cl_lost v w).2) : WV X (d + 1 + 1 + 1 + 1 + 1 + 1 + 1) 88 0 [some (.inr (.inr (some 0))), some (.inl w)] [] b v Q := by
  rw [cl_lost] at hQ
  refine r_ex 1 (pc' := 1) (lo' := [some (.inr (.inr (some 0))), some (.inl w)]) (st' := [.inr (.inr (some 0))]) rfl ?_
  have hb_1 : 0 ≤ v 33 2 ∧ v 33 2 ≤ 2001 := hX 33 2
  refine r_callb (P := 0 < v 33 2) (m := 71) (args := [.inr (.inr (some 0))]) (n' := 88) (pc' := 4) (lo' := [some (.inr (.inr (some 0))), some (.inl w)]) (st' := []) (I := .invokevirtual 71) (pc0 := 1) (len := 3) rfl rfl rfl (e_cl_hasBay hX) (fun h_1 => ?_) (fun h_1 => ?_)
  · show WV _ _ _ 4 _ _ _ _ _
    rw [if_pos h_1] at hQ
    refine r_ex 2 (pc' := 8) (lo' := [some (.inr (.inr (some 0))), some (.inl w)]) (st' := [.inl w]) rfl ?_
    refine n_if_lt (pc0 := 8) (len := 3) (t := 17) rfl (by first | assumption | omega | (unfold R32 at *; omega) | (unfold R64 at *; omega) | (simp only [R32, R64] at *; omega)) (fun h_8 => ?_) (fun h_8 => ?_)
    · show WV _ _ _ 17 _ _ _ _ _
      rw [if_pos h_8] at hQ
      refine r_ex 1 (pc' := 19) (lo' := [some (.inr (.inr (some 0))), some (.inl w)]) (st' := [.inl (-2)]) rfl ?_
      refine r_ret (rr := some (.inl (-2))) (I := .ireturn) (pc0 := 19) (len := 1) rfl rfl ?_
      exact hQ hX 
    · show WV _ _ _ 11 _ _ _ _ _
      rw [if_neg h_8] at hQ
      refine r_ex 2 (pc' := 14) (lo' := [some (.inr (.inr (some 0))), some (.inl w)]) (st' := [.inl 8, .inl w]) rfl ?_
      refine n_ic_lt (pc0 := 14) (len := 3) (t := 20) rfl (by first | assumption | omega | (unfold R32 at *; omega) | (unfold R64 at *; omega) | (simp only [R32, R64] at *; omega)) (by first | assumption | omega | (unfold R32 at *; omega) | (unfold R64 at *; omega) | (simp only [R32, R64] at *; omega)) (fun h_14 => ?_) (fun h_14 => ?_)
      · show WV _ _ _ 20 _ _ _ _ _
        rw [if_pos h_14] at hQ
        refine r_ex 1 (pc' := 21) (lo' := [some (.inr (.inr (some 0))), some (.inl w)]) (st' := [.inr (.inr (some 0))]) rfl ?_
        refine r_call (m := 72) (args := [.inr (.inr (some 0))]) (n' := 88) (pc' := 24) (lo' := [some (.inr (.inr (some 0))), some (.inl w)]) (st' := []) (I := .invokevirtual 72) (pc0 := 21) (len := 3) rfl rfl rfl (e_cl_asItIs hX) ?_
        show WV _ _ _ 24 _ [.inr (.inr (some 79))] _ (cl_asItIs v) _
        have hX_2 : XI (cl_asItIs v) := i_cl_asItIs (v := v) hX
        refine r_ex 2 (pc' := 28) (lo' := [some (.inr (.inr (some 0))), some (.inl w)]) (st' := [.inl w, .inr (.inr (some 85))]) rfl ?_
        refine r_iald2 (j := 0) (x := ((cl_asItIs v) 85 ((w).toNat))) (pc' := 29) (pc0 := 28) (len := 1) rfl (s_85 _) (by first | assumption | omega | (unfold R32 at *; omega) | (unfold R64 at *; omega) | (simp only [R32, R64] at *; omega)) (by decide) rfl rfl ?_
        refine r_ret (rr := some (.inl ((cl_asItIs v) 85 ((w).toNat)))) (I := .ireturn) (pc0 := 29) (len := 1) rfl rfl ?_
        exact hQ hX_2 
      · show WV _ _ _ 17 _ _ _ _ _
        rw [if_neg h_14] at hQ
        refine r_ex 1 (pc' := 19) (lo' := [some (.inr (.inr (some 0))), some (.inl w)]) (st' := [.inl (-2)]) rfl ?_
        refine r_ret (rr := some (.inl (-2))) (I := .ireturn) (pc0 := 19) (len := 1) rfl rfl ?_
        exact hQ hX 
  · show WV _ _ _ 4 _ _ _ _ _
    rw [if_neg h_1] at hQ
    refine r_ex 2 (pc' := 19) (lo' := [some (.inr (.inr (some 0))), some (.inl w)]) (st' := [.inl (-2)]) rfl ?_
    refine r_ret (rr := some (.inl (-2))) (I := .ireturn) (pc0 := 19) (len := 1) rfl rfl ?_
    exact hQ hX 

theorem e_cl_lost {X : PX} {d b : Nat} {v : VS} {w : Int} (hX : XI v) (hp_a : R32 w) : EvV X (d + 1 + 1 + 1 + 1 + 1 + 1 + 1) 88 [.inr (.inr (some 0)), .inl w] b v (some (.inl (cl_lost v w).1)) b ((cl_lost v w).2) := EvV.of (w_cl_lost hX hp_a (fun _ => ⟨rfl, rfl, rfl⟩))

theorem i_cl_lost {v : VS} {w : Int} (hX : XI v) (hp_a : R32 w) : XI ((cl_lost v w).2) := by
  have q : WV (0, fun _ => 0, none) (0 + 1 + 1 + 1 + 1 + 1 + 1 + 1) 88 0 [some (.inr (.inr (some 0))), some (.inl w)] [] 1 v (fun _ _ _ => XI ((cl_lost v w).2)) := w_cl_lost (X := (0, fun _ => 0, none)) (d := 0) (b := 1) hX hp_a (fun q => q)
  obtain ⟨_, _, _, _, _, _, _, q⟩ := q
  exact q

theorem o_cl_lost {rk : Nat} {v : VS} {w : Int} (hk : (rk < 0 ∨ 0 < rk) ∧ (rk < 67 ∨ 90 < rk) ∧ (rk < 105 ∨ 105 < rk)) : (cl_lost v w).2 rk = v rk := by
  unfold cl_lost
  by_cases hc_ : 0 < v 33 2
  · rw [if_pos hc_]
    by_cases hc_ : w < 0
    · rw [if_pos hc_]
      all_goals (show v rk = _)
      all_goals rfl
    · rw [if_neg hc_]
      by_cases hc_ : w < 8
      · rw [if_pos hc_]
        all_goals (show (cl_asItIs v) rk = _)
        all_goals (rw [o_cl_asItIs (by omega)])
      · rw [if_neg hc_]
        all_goals (show v rk = _)
        all_goals rfl
  · rw [if_neg hc_]
    all_goals (show v rk = _)
    all_goals rfl

def cl_hour (v : VS) (c : Int) (s : Int) : Int × VS :=
  (if 0 ≤ c ∧ c < v 33 0 then (if 0 ≤ s ∧ s < v 33 1 then ((cl_struckLast (cl_asItIs v) c s), (cl_asItIs v)) else ((-2), v)) else ((-2), v))
theorem w_cl_hour {X : PX} {d b : Nat} {v : VS} {c : Int} {s : Int} (hX : XI v) (hp_a : R32 c) (hp_b : R32 s) {Q : Option PV → Nat → VS → Prop} (hQ : XI (cl_hour v c s).2 → Q (some (.inl (cl_hour v c s).1)) b (cl_hour v c s).2) : WV X (d + 1 + 1 + 1 + 1 + 1 + 1 + 1) 89 0 [some (.inr (.inr (some 0))), some (.inl c), some (.inl s)] [] b v Q := by
  rw [cl_hour] at hQ
  refine r_ex 2 (pc' := 2) (lo' := [some (.inr (.inr (some 0))), some (.inl c), some (.inl s)]) (st' := [.inl c, .inr (.inr (some 0))]) rfl ?_
  have hp_1 : R32 c := (by first | assumption | omega | (unfold R32 at *; omega) | (unfold R64 at *; omega) | (simp only [R32, R64] at *; omega))
  have hb_2 : 0 ≤ v 33 0 ∧ v 33 0 ≤ 9 := hX 33 0
  refine r_callb (P := 0 ≤ c ∧ c < v 33 0) (m := 62) (args := [.inr (.inr (some 0)), .inl c]) (n' := 89) (pc' := 5) (lo' := [some (.inr (.inr (some 0))), some (.inl c), some (.inl s)]) (st' := []) (I := .invokevirtual 62) (pc0 := 2) (len := 3) rfl rfl rfl (e_cl_isChurch hX hp_1) (fun h_2 => ?_) (fun h_2 => ?_)
  · show WV _ _ _ 5 _ _ _ _ _
    rw [if_pos h_2] at hQ
    refine r_ex 3 (pc' := 10) (lo' := [some (.inr (.inr (some 0))), some (.inl c), some (.inl s)]) (st' := [.inl s, .inr (.inr (some 0))]) rfl ?_
    have hp_3 : R32 s := (by first | assumption | omega | (unfold R32 at *; omega) | (unfold R64 at *; omega) | (simp only [R32, R64] at *; omega))
    have hb_4 : 0 ≤ v 33 1 ∧ v 33 1 ≤ 300 := hX 33 1
    refine r_callb (P := 0 ≤ s ∧ s < v 33 1) (m := 67) (args := [.inr (.inr (some 0)), .inl s]) (n' := 89) (pc' := 13) (lo' := [some (.inr (.inr (some 0))), some (.inl c), some (.inl s)]) (st' := []) (I := .invokevirtual 67) (pc0 := 10) (len := 3) rfl rfl rfl (e_cl_isSecond hX hp_3) (fun h_10 => ?_) (fun h_10 => ?_)
    · show WV _ _ _ 13 _ _ _ _ _
      rw [if_pos h_10] at hQ
      refine r_ex 2 (pc' := 20) (lo' := [some (.inr (.inr (some 0))), some (.inl c), some (.inl s)]) (st' := [.inr (.inr (some 0))]) rfl ?_
      refine r_call (m := 72) (args := [.inr (.inr (some 0))]) (n' := 89) (pc' := 23) (lo' := [some (.inr (.inr (some 0))), some (.inl c), some (.inl s)]) (st' := []) (I := .invokevirtual 72) (pc0 := 20) (len := 3) rfl rfl rfl (e_cl_asItIs hX) ?_
      show WV _ _ _ 23 _ [.inr (.inr (some 79))] _ (cl_asItIs v) _
      have hX_5 : XI (cl_asItIs v) := i_cl_asItIs (v := v) hX
      refine r_ex 4 (pc' := 27) (lo' := [some (.inr (.inr (some 0))), some (.inl c), some (.inl s)]) (st' := [.inl s, .inl c, .inr (.inr (some 0))]) rfl ?_
      have hp_6 : R32 c := (by first | assumption | omega | (unfold R32 at *; omega) | (unfold R64 at *; omega) | (simp only [R32, R64] at *; omega))
      have hp_7 : R32 s := (by first | assumption | omega | (unfold R32 at *; omega) | (unfold R64 at *; omega) | (simp only [R32, R64] at *; omega))
      refine r_call (m := 90) (args := [.inr (.inr (some 0)), .inl c, .inl s]) (n' := 89) (pc' := 30) (lo' := [some (.inr (.inr (some 0))), some (.inl c), some (.inl s)]) (st' := []) (I := .invokevirtual 90) (pc0 := 27) (len := 3) rfl rfl rfl (e_cl_struckLast hX_5 hp_6 hp_7) ?_
      show WV _ _ _ 30 _ [.inl (cl_struckLast (cl_asItIs v) c s)] _ _ _
      have hb_8 := n_cl_struckLast (v := (cl_asItIs v)) (c := c) (s := s) hX_5 hp_6 hp_7
      refine r_ret (rr := some (.inl (cl_struckLast (cl_asItIs v) c s))) (I := .ireturn) (pc0 := 30) (len := 1) rfl rfl ?_
      exact hQ hX_5 
    · show WV _ _ _ 13 _ _ _ _ _
      rw [if_neg h_10] at hQ
      refine r_ex 2 (pc' := 18) (lo' := [some (.inr (.inr (some 0))), some (.inl c), some (.inl s)]) (st' := [.inl (-2)]) rfl ?_
      refine r_ret (rr := some (.inl (-2))) (I := .ireturn) (pc0 := 18) (len := 1) rfl rfl ?_
      exact hQ hX 
  · show WV _ _ _ 5 _ _ _ _ _
    rw [if_neg h_2] at hQ
    refine r_ex 2 (pc' := 18) (lo' := [some (.inr (.inr (some 0))), some (.inl c), some (.inl s)]) (st' := [.inl (-2)]) rfl ?_
    refine r_ret (rr := some (.inl (-2))) (I := .ireturn) (pc0 := 18) (len := 1) rfl rfl ?_
    exact hQ hX 

theorem e_cl_hour {X : PX} {d b : Nat} {v : VS} {c : Int} {s : Int} (hX : XI v) (hp_a : R32 c) (hp_b : R32 s) : EvV X (d + 1 + 1 + 1 + 1 + 1 + 1 + 1) 89 [.inr (.inr (some 0)), .inl c, .inl s] b v (some (.inl (cl_hour v c s).1)) b ((cl_hour v c s).2) := EvV.of (w_cl_hour hX hp_a hp_b (fun _ => ⟨rfl, rfl, rfl⟩))

theorem i_cl_hour {v : VS} {c : Int} {s : Int} (hX : XI v) (hp_a : R32 c) (hp_b : R32 s) : XI ((cl_hour v c s).2) := by
  have q : WV (0, fun _ => 0, none) (0 + 1 + 1 + 1 + 1 + 1 + 1 + 1) 89 0 [some (.inr (.inr (some 0))), some (.inl c), some (.inl s)] [] 1 v (fun _ _ _ => XI ((cl_hour v c s).2)) := w_cl_hour (X := (0, fun _ => 0, none)) (d := 0) (b := 1) hX hp_a hp_b (fun q => q)
  obtain ⟨_, _, _, _, _, _, _, q⟩ := q
  exact q

theorem o_cl_hour {rk : Nat} {v : VS} {c : Int} {s : Int} (hk : (rk < 0 ∨ 0 < rk) ∧ (rk < 67 ∨ 90 < rk) ∧ (rk < 105 ∨ 105 < rk)) : (cl_hour v c s).2 rk = v rk := by
  unfold cl_hour
  by_cases hc_ : 0 ≤ c ∧ c < v 33 0
  · rw [if_pos hc_]
    by_cases hc_ : 0 ≤ s ∧ s < v 33 1
    · rw [if_pos hc_]
      all_goals (show (cl_asItIs v) rk = _)
      all_goals (rw [o_cl_asItIs (by omega)])
    · rw [if_neg hc_]
      all_goals (show v rk = _)
      all_goals rfl
  · rw [if_neg hc_]
    all_goals (show v rk = _)
    all_goals rfl

def cl_many_21 : Nat → VS → Int → Int → Int → Int
  | 0, v, c, n, i => 0
  | f + 1, v, c, n, i => (if i < (v 79 4) then (if (v 81 ((i).toNat)) = c then (cl_many_21 f v c (n + 1) (i + 1)) else (cl_many_21 f v c n (i + 1))) else n)
def cl_many (v : VS) (c : Int) : Int × VS :=
  (if 0 ≤ c ∧ c < v 33 0 then ((cl_many_21 301 (cl_asItIs v) c 0 0), (cl_asItIs v)) else ((-2), v))
theorem l_cl_many_21 {X : PX} {d b : Nat} {Q : Option PV → Nat → VS → Prop}  : ∀ (f : Nat) (v : VS) (c : Int) (n : Int) (i : Int) (o0 : Option PV), XI v → (0 ≤ i ∧ i ≤ 300) → (0 ≤ n ∧ n ≤ i) → (R32 c) → (300 < i + f) → (∀ qx0 : Option PV, ∀ qx1 : Option PV, ∀ qx2 : Option PV, ∀ qx4 : Option PV, (0 ≤ (cl_many_21 f v c n i) ∧ (cl_many_21 f v c n i) ≤ 300) → WV X (d + 1 + 1 + 1 + 1 + 1 + 1 + 1) 91 50 [qx0, qx1, qx2, some (.inl (cl_many_21 f v c n i)), qx4] [] b v Q) → WV X (d + 1 + 1 + 1 + 1 + 1 + 1 + 1) 91 21 [o0, some (.inl c), some (.inr (.inr (some 79))), some (.inl n), some (.inl i)] [] b v Q := by
  intro f
  induction f with
  | zero =>
    intro v c n i o0 hX hi_0 hi_1 hi_2 hf hK
    exfalso
    omega
  | succ f ih =>
    intro v c n i o0 hX hi_0 hi_1 hi_2 hf hK
    rw [cl_many_21] at hK
    refine r_ex 3 (pc' := 27) (lo' := [o0, some (.inl c), some (.inr (.inr (some 79))), some (.inl n), some (.inl i)]) (st' := [.inl (v 79 4), .inl i]) rfl ?_
    have hb_4 : 0 ≤ (v 79 4) ∧ (v 79 4) ≤ 300 := hX 79 4
    refine n_ic_ge (pc0 := 27) (len := 3) (t := 50) rfl (by first | assumption | omega | (unfold R32 at *; omega) | (unfold R64 at *; omega) | (simp only [R32, R64] at *; omega)) (by first | assumption | omega | (unfold R32 at *; omega) | (unfold R64 at *; omega) | (simp only [R32, R64] at *; omega)) (fun h_27 => ?_) (fun h_27 => ?_)
    · show WV _ _ _ 50 _ _ _ _ _
      rw [if_neg h_27] at hK
      exact hK _ _ _ _  (by first | assumption | omega | (unfold R32 at *; omega) | (unfold R64 at *; omega) | (simp only [R32, R64] at *; omega))
    · show WV _ _ _ 30 _ _ _ _ _
      rw [if_pos h_27] at hK
      refine r_ex 3 (pc' := 36) (lo' := [o0, some (.inl c), some (.inr (.inr (some 79))), some (.inl n), some (.inl i)]) (st' := [.inl i, .inr (.inr (some 81))]) rfl ?_
      refine r_iald2 (j := 0) (x := (v 81 ((i).toNat))) (pc' := 37) (pc0 := 36) (len := 1) rfl (s_81 _) (by first | assumption | omega | (unfold R32 at *; omega) | (unfold R64 at *; omega) | (simp only [R32, R64] at *; omega)) (by decide) rfl rfl ?_
      have hb_5 : 0 ≤ (v 81 ((i).toNat)) ∧ (v 81 ((i).toNat)) ≤ 8 := hX 81 ((i).toNat)
      refine r_ex 1 (pc' := 38) (lo' := [o0, some (.inl c), some (.inr (.inr (some 79))), some (.inl n), some (.inl i)]) (st' := [.inl c, .inl (v 81 ((i).toNat))]) rfl ?_
      refine n_ic_ne (pc0 := 38) (len := 3) (t := 44) rfl (by first | assumption | omega | (unfold R32 at *; omega) | (unfold R64 at *; omega) | (simp only [R32, R64] at *; omega)) (by first | assumption | omega | (unfold R32 at *; omega) | (unfold R64 at *; omega) | (simp only [R32, R64] at *; omega)) (fun h_38 => ?_) (fun h_38 => ?_)
      · show WV _ _ _ 44 _ _ _ _ _
        rw [if_neg h_38] at hK
        refine r_ex 2 (pc' := 21) (lo' := [o0, some (.inl c), some (.inr (.inr (some 79))), some (.inl n), some (.inl (i + 1))]) (st' := []) rfl ?_
        refine ih v c n (i + 1) _ hX (by first | assumption | omega | (unfold R32 at *; omega) | (unfold R64 at *; omega) | (simp only [R32, R64] at *; omega)) (by first | assumption | omega | (unfold R32 at *; omega) | (unfold R64 at *; omega) | (simp only [R32, R64] at *; omega)) (by first | assumption | omega | (unfold R32 at *; omega) | (unfold R64 at *; omega) | (simp only [R32, R64] at *; omega)) (by first | assumption | omega | (unfold R32 at *; omega) | (unfold R64 at *; omega) | (simp only [R32, R64] at *; omega)) hK
      · show WV _ _ _ 41 _ _ _ _ _
        rw [if_pos h_38] at hK
        refine r_ex 3 (pc' := 21) (lo' := [o0, some (.inl c), some (.inr (.inr (some 79))), some (.inl (n + 1)), some (.inl (i + 1))]) (st' := []) rfl ?_
        refine ih v c (n + 1) (i + 1) _ hX (by first | assumption | omega | (unfold R32 at *; omega) | (unfold R64 at *; omega) | (simp only [R32, R64] at *; omega)) (by first | assumption | omega | (unfold R32 at *; omega) | (unfold R64 at *; omega) | (simp only [R32, R64] at *; omega)) (by first | assumption | omega | (unfold R32 at *; omega) | (unfold R64 at *; omega) | (simp only [R32, R64] at *; omega)) (by first | assumption | omega | (unfold R32 at *; omega) | (unfold R64 at *; omega) | (simp only [R32, R64] at *; omega)) hK

theorem w_cl_many {X : PX} {d b : Nat} {v : VS} {c : Int} (hX : XI v) (hp_a : R32 c) {Q : Option PV → Nat → VS → Prop} (hQ : XI (cl_many v c).2 → Q (some (.inl (cl_many v c).1)) b (cl_many v c).2) : WV X (d + 1 + 1 + 1 + 1 + 1 + 1 + 1) 91 0 [some (.inr (.inr (some 0))), some (.inl c), none, none, none] [] b v Q := by
  rw [cl_many] at hQ
  refine r_ex 2 (pc' := 2) (lo' := [some (.inr (.inr (some 0))), some (.inl c), none, none, none]) (st' := [.inl c, .inr (.inr (some 0))]) rfl ?_
  have hp_1 : R32 c := (by first | assumption | omega | (unfold R32 at *; omega) | (unfold R64 at *; omega) | (simp only [R32, R64] at *; omega))
  have hb_2 : 0 ≤ v 33 0 ∧ v 33 0 ≤ 9 := hX 33 0
  refine r_callb (P := 0 ≤ c ∧ c < v 33 0) (m := 62) (args := [.inr (.inr (some 0)), .inl c]) (n' := 91) (pc' := 5) (lo' := [some (.inr (.inr (some 0))), some (.inl c), none, none, none]) (st' := []) (I := .invokevirtual 62) (pc0 := 2) (len := 3) rfl rfl rfl (e_cl_isChurch hX hp_1) (fun h_2 => ?_) (fun h_2 => ?_)
  · show WV _ _ _ 5 _ _ _ _ _
    rw [if_pos h_2] at hQ
    refine r_ex 2 (pc' := 12) (lo' := [some (.inr (.inr (some 0))), some (.inl c), none, none, none]) (st' := [.inr (.inr (some 0))]) rfl ?_
    refine r_call (m := 72) (args := [.inr (.inr (some 0))]) (n' := 91) (pc' := 15) (lo' := [some (.inr (.inr (some 0))), some (.inl c), none, none, none]) (st' := []) (I := .invokevirtual 72) (pc0 := 12) (len := 3) rfl rfl rfl (e_cl_asItIs hX) ?_
    show WV _ _ _ 15 _ [.inr (.inr (some 79))] _ (cl_asItIs v) _
    have hX_3 : XI (cl_asItIs v) := i_cl_asItIs (v := v) hX
    refine r_ex 5 (pc' := 21) (lo' := [some (.inr (.inr (some 0))), some (.inl c), some (.inr (.inr (some 79))), some (.inl 0), some (.inl 0)]) (st' := []) rfl ?_
    refine l_cl_many_21 301 (cl_asItIs v) c 0 0 _ hX_3 (by first | assumption | omega | (unfold R32 at *; omega) | (unfold R64 at *; omega) | (simp only [R32, R64] at *; omega)) (by first | assumption | omega | (unfold R32 at *; omega) | (unfold R64 at *; omega) | (simp only [R32, R64] at *; omega)) (by first | assumption | omega | (unfold R32 at *; omega) | (unfold R64 at *; omega) | (simp only [R32, R64] at *; omega)) (by first | assumption | omega | (unfold R32 at *; omega) | (unfold R64 at *; omega) | (simp only [R32, R64] at *; omega)) (fun o0_6 o1_6 o2_6 o4_6  hv_6_0 => ?_)
    show WV _ _ _ 50 _ _ _ _ _
    refine r_ex 1 (pc' := 51) (lo' := [o0_6, o1_6, o2_6, some (.inl (cl_many_21 301 (cl_asItIs v) c 0 0)), o4_6]) (st' := [.inl (cl_many_21 301 (cl_asItIs v) c 0 0)]) rfl ?_
    refine r_ret (rr := some (.inl (cl_many_21 301 (cl_asItIs v) c 0 0))) (I := .ireturn) (pc0 := 51) (len := 1) rfl rfl ?_
    exact hQ hX_3 
  · show WV _ _ _ 5 _ _ _ _ _
    rw [if_neg h_2] at hQ
    refine r_ex 2 (pc' := 10) (lo' := [some (.inr (.inr (some 0))), some (.inl c), none, none, none]) (st' := [.inl (-2)]) rfl ?_
    refine r_ret (rr := some (.inl (-2))) (I := .ireturn) (pc0 := 10) (len := 1) rfl rfl ?_
    exact hQ hX 

theorem e_cl_many {X : PX} {d b : Nat} {v : VS} {c : Int} (hX : XI v) (hp_a : R32 c) : EvV X (d + 1 + 1 + 1 + 1 + 1 + 1 + 1) 91 [.inr (.inr (some 0)), .inl c] b v (some (.inl (cl_many v c).1)) b ((cl_many v c).2) := EvV.of (w_cl_many hX hp_a (fun _ => ⟨rfl, rfl, rfl⟩))

theorem i_cl_many {v : VS} {c : Int} (hX : XI v) (hp_a : R32 c) : XI ((cl_many v c).2) := by
  have q : WV (0, fun _ => 0, none) (0 + 1 + 1 + 1 + 1 + 1 + 1 + 1) 91 0 [some (.inr (.inr (some 0))), some (.inl c), none, none, none] [] 1 v (fun _ _ _ => XI ((cl_many v c).2)) := w_cl_many (X := (0, fun _ => 0, none)) (d := 0) (b := 1) hX hp_a (fun q => q)
  obtain ⟨_, _, _, _, _, _, _, q⟩ := q
  exact q

theorem o_cl_many {rk : Nat} {v : VS} {c : Int} (hk : (rk < 0 ∨ 0 < rk) ∧ (rk < 67 ∨ 90 < rk) ∧ (rk < 105 ∨ 105 < rk)) : (cl_many v c).2 rk = v rk := by
  unfold cl_many
  by_cases hc_ : 0 ≤ c ∧ c < v 33 0
  · rw [if_pos hc_]
    all_goals (show (cl_asItIs v) rk = _)
    all_goals (rw [o_cl_asItIs (by omega)])
  · rw [if_neg hc_]
    all_goals (show v rk = _)
    all_goals rfl

def cl_when (v : VS) (c : Int) (w : Int) : Int × VS :=
  (if 0 ≤ c ∧ c < v 33 0 then (if w < 0 then ((-2), v) else (if 2 < w then ((-2), v) else (if (cl_nextOf79 (cl_asItIs v) c 0) = (-1) then ((-1), (cl_asItIs v)) else (if w = 0 then (((cl_asItIs v) 80 (((cl_nextOf79 (cl_asItIs v) c 0)).toNat)), (cl_asItIs v)) else (if w = 1 then (((cl_asItIs v) 89 ((c).toNat)), (cl_asItIs v)) else (if (cl_nextOf79 (cl_asItIs v) c ((cl_nextOf79 (cl_asItIs v) c 0) + 1)) = (-1) then ((-1), (cl_asItIs v)) else ((((cl_asItIs v) 80 (((cl_nextOf79 (cl_asItIs v) c ((cl_nextOf79 (cl_asItIs v) c 0) + 1))).toNat)) - ((cl_asItIs v) 80 (((cl_nextOf79 (cl_asItIs v) c 0)).toNat))), (cl_asItIs v)))))))) else ((-2), v))
theorem w_cl_when {X : PX} {d b : Nat} {v : VS} {c : Int} {w : Int} (hX : XI v) (hp_a : R32 c) (hp_b : R32 w) {Q : Option PV → Nat → VS → Prop} (hQ : XI (cl_when v c w).2 → Q (some (.inl (cl_when v c w).1)) b (cl_when v c w).2) : WV X (d + 1 + 1 + 1 + 1 + 1 + 1 + 1) 92 0 [some (.inr (.inr (some 0))), some (.inl c), some (.inl w), none, none, none] [] b v Q := by
  rw [cl_when] at hQ
  refine r_ex 2 (pc' := 2) (lo' := [some (.inr (.inr (some 0))), some (.inl c), some (.inl w), none, none, none]) (st' := [.inl c, .inr (.inr (some 0))]) rfl ?_
  have hp_1 : R32 c := (by first | assumption | omega | (unfold R32 at *; omega) | (unfold R64 at *; omega) | (simp only [R32, R64] at *; omega))
  have hb_2 : 0 ≤ v 33 0 ∧ v 33 0 ≤ 9 := hX 33 0
  refine r_callb (P := 0 ≤ c ∧ c < v 33 0) (m := 62) (args := [.inr (.inr (some 0)), .inl c]) (n' := 92) (pc' := 5) (lo' := [some (.inr (.inr (some 0))), some (.inl c), some (.inl w), none, none, none]) (st' := []) (I := .invokevirtual 62) (pc0 := 2) (len := 3) rfl rfl rfl (e_cl_isChurch hX hp_1) (fun h_2 => ?_) (fun h_2 => ?_)
  · show WV _ _ _ 5 _ _ _ _ _
    rw [if_pos h_2] at hQ
    refine r_ex 2 (pc' := 9) (lo' := [some (.inr (.inr (some 0))), some (.inl c), some (.inl w), none, none, none]) (st' := [.inl w]) rfl ?_
    refine n_if_lt (pc0 := 9) (len := 3) (t := 17) rfl (by first | assumption | omega | (unfold R32 at *; omega) | (unfold R64 at *; omega) | (simp only [R32, R64] at *; omega)) (fun h_9 => ?_) (fun h_9 => ?_)
    · show WV _ _ _ 17 _ _ _ _ _
      rw [if_pos h_9] at hQ
      refine r_ex 1 (pc' := 19) (lo' := [some (.inr (.inr (some 0))), some (.inl c), some (.inl w), none, none, none]) (st' := [.inl (-2)]) rfl ?_
      refine r_ret (rr := some (.inl (-2))) (I := .ireturn) (pc0 := 19) (len := 1) rfl rfl ?_
      exact hQ hX 
    · show WV _ _ _ 12 _ _ _ _ _
      rw [if_neg h_9] at hQ
      refine r_ex 2 (pc' := 14) (lo' := [some (.inr (.inr (some 0))), some (.inl c), some (.inl w), none, none, none]) (st' := [.inl 2, .inl w]) rfl ?_
      refine n_ic_le (pc0 := 14) (len := 3) (t := 20) rfl (by first | assumption | omega | (unfold R32 at *; omega) | (unfold R64 at *; omega) | (simp only [R32, R64] at *; omega)) (by first | assumption | omega | (unfold R32 at *; omega) | (unfold R64 at *; omega) | (simp only [R32, R64] at *; omega)) (fun h_14 => ?_) (fun h_14 => ?_)
      · show WV _ _ _ 20 _ _ _ _ _
        rw [if_neg h_14] at hQ
        refine r_ex 1 (pc' := 21) (lo' := [some (.inr (.inr (some 0))), some (.inl c), some (.inl w), none, none, none]) (st' := [.inr (.inr (some 0))]) rfl ?_
        refine r_call (m := 72) (args := [.inr (.inr (some 0))]) (n' := 92) (pc' := 24) (lo' := [some (.inr (.inr (some 0))), some (.inl c), some (.inl w), none, none, none]) (st' := []) (I := .invokevirtual 72) (pc0 := 21) (len := 3) rfl rfl rfl (e_cl_asItIs hX) ?_
        show WV _ _ _ 24 _ [.inr (.inr (some 79))] _ (cl_asItIs v) _
        have hX_3 : XI (cl_asItIs v) := i_cl_asItIs (v := v) hX
        refine r_ex 4 (pc' := 28) (lo' := [some (.inr (.inr (some 0))), some (.inl c), some (.inl w), some (.inr (.inr (some 79))), none, none]) (st' := [.inl 0, .inl c, .inr (.inr (some 79))]) rfl ?_
        have hp_4 : R32 c := (by first | assumption | omega | (unfold R32 at *; omega) | (unfold R64 at *; omega) | (simp only [R32, R64] at *; omega))
        have hp_5 : 0 ≤ (0 : Int) ∧ (0 : Int) ≤ 300 := (by first | assumption | omega | (unfold R32 at *; omega) | (unfold R64 at *; omega) | (simp only [R32, R64] at *; omega))
        refine r_call (m := 93) (args := [.inr (.inr (some 79)), .inl c, .inl 0]) (n' := 92) (pc' := 31) (lo' := [some (.inr (.inr (some 0))), some (.inl c), some (.inl w), some (.inr (.inr (some 79))), none, none]) (st' := []) (I := .invokevirtual 93) (pc0 := 28) (len := 3) rfl rfl rfl (e_cl_nextOf79 hX_3 hp_4 hp_5) ?_
        show WV _ _ _ 31 _ [.inl (cl_nextOf79 (cl_asItIs v) c 0)] _ _ _
        have hb_6 := n_cl_nextOf79 (v := (cl_asItIs v)) (c := c) (s := 0) hX_3 hp_4 hp_5
        refine r_ex 3 (pc' := 36) (lo' := [some (.inr (.inr (some 0))), some (.inl c), some (.inl w), some (.inr (.inr (some 79))), some (.inl (cl_nextOf79 (cl_asItIs v) c 0)), none]) (st' := [.inl (-1), .inl (cl_nextOf79 (cl_asItIs v) c 0)]) rfl ?_
        refine n_ic_ne (pc0 := 36) (len := 3) (t := 41) rfl (by first | assumption | omega | (unfold R32 at *; omega) | (unfold R64 at *; omega) | (simp only [R32, R64] at *; omega)) (by first | assumption | omega | (unfold R32 at *; omega) | (unfold R64 at *; omega) | (simp only [R32, R64] at *; omega)) (fun h_36 => ?_) (fun h_36 => ?_)
        · show WV _ _ _ 41 _ _ _ _ _
          rw [if_neg h_36] at hQ
          refine r_ex 1 (pc' := 42) (lo' := [some (.inr (.inr (some 0))), some (.inl c), some (.inl w), some (.inr (.inr (some 79))), some (.inl (cl_nextOf79 (cl_asItIs v) c 0)), none]) (st' := [.inl w]) rfl ?_
          refine n_if_ne (pc0 := 42) (len := 3) (t := 53) rfl (by first | assumption | omega | (unfold R32 at *; omega) | (unfold R64 at *; omega) | (simp only [R32, R64] at *; omega)) (fun h_42 => ?_) (fun h_42 => ?_)
          · show WV _ _ _ 53 _ _ _ _ _
            rw [if_neg h_42] at hQ
            refine r_ex 2 (pc' := 55) (lo' := [some (.inr (.inr (some 0))), some (.inl c), some (.inl w), some (.inr (.inr (some 79))), some (.inl (cl_nextOf79 (cl_asItIs v) c 0)), none]) (st' := [.inl 1, .inl w]) rfl ?_
            refine n_ic_ne (pc0 := 55) (len := 3) (t := 65) rfl (by first | assumption | omega | (unfold R32 at *; omega) | (unfold R64 at *; omega) | (simp only [R32, R64] at *; omega)) (by first | assumption | omega | (unfold R32 at *; omega) | (unfold R64 at *; omega) | (simp only [R32, R64] at *; omega)) (fun h_55 => ?_) (fun h_55 => ?_)
            · show WV _ _ _ 65 _ _ _ _ _
              rw [if_neg h_55] at hQ
              refine r_ex 5 (pc' := 71) (lo' := [some (.inr (.inr (some 0))), some (.inl c), some (.inl w), some (.inr (.inr (some 79))), some (.inl (cl_nextOf79 (cl_asItIs v) c 0)), none]) (st' := [.inl ((cl_nextOf79 (cl_asItIs v) c 0) + 1), .inl c, .inr (.inr (some 79))]) rfl ?_
              have hp_7 : R32 c := (by first | assumption | omega | (unfold R32 at *; omega) | (unfold R64 at *; omega) | (simp only [R32, R64] at *; omega))
              have hp_8 : 0 ≤ ((cl_nextOf79 (cl_asItIs v) c 0) + 1) ∧ ((cl_nextOf79 (cl_asItIs v) c 0) + 1) ≤ 300 := (by first | assumption | omega | (unfold R32 at *; omega) | (unfold R64 at *; omega) | (simp only [R32, R64] at *; omega))
              refine r_call (m := 93) (args := [.inr (.inr (some 79)), .inl c, .inl ((cl_nextOf79 (cl_asItIs v) c 0) + 1)]) (n' := 92) (pc' := 74) (lo' := [some (.inr (.inr (some 0))), some (.inl c), some (.inl w), some (.inr (.inr (some 79))), some (.inl (cl_nextOf79 (cl_asItIs v) c 0)), none]) (st' := []) (I := .invokevirtual 93) (pc0 := 71) (len := 3) rfl rfl rfl (e_cl_nextOf79 hX_3 hp_7 hp_8) ?_
              show WV _ _ _ 74 _ [.inl (cl_nextOf79 (cl_asItIs v) c ((cl_nextOf79 (cl_asItIs v) c 0) + 1))] _ _ _
              have hb_9 := n_cl_nextOf79 (v := (cl_asItIs v)) (c := c) (s := ((cl_nextOf79 (cl_asItIs v) c 0) + 1)) hX_3 hp_7 hp_8
              refine r_ex 3 (pc' := 79) (lo' := [some (.inr (.inr (some 0))), some (.inl c), some (.inl w), some (.inr (.inr (some 79))), some (.inl (cl_nextOf79 (cl_asItIs v) c 0)), some (.inl (cl_nextOf79 (cl_asItIs v) c ((cl_nextOf79 (cl_asItIs v) c 0) + 1)))]) (st' := [.inl (-1), .inl (cl_nextOf79 (cl_asItIs v) c ((cl_nextOf79 (cl_asItIs v) c 0) + 1))]) rfl ?_
              refine n_ic_ne (pc0 := 79) (len := 3) (t := 86) rfl (by first | assumption | omega | (unfold R32 at *; omega) | (unfold R64 at *; omega) | (simp only [R32, R64] at *; omega)) (by first | assumption | omega | (unfold R32 at *; omega) | (unfold R64 at *; omega) | (simp only [R32, R64] at *; omega)) (fun h_79 => ?_) (fun h_79 => ?_)
              · show WV _ _ _ 86 _ _ _ _ _
                rw [if_neg h_79] at hQ
                refine r_ex 3 (pc' := 92) (lo' := [some (.inr (.inr (some 0))), some (.inl c), some (.inl w), some (.inr (.inr (some 79))), some (.inl (cl_nextOf79 (cl_asItIs v) c 0)), some (.inl (cl_nextOf79 (cl_asItIs v) c ((cl_nextOf79 (cl_asItIs v) c 0) + 1)))]) (st' := [.inl (cl_nextOf79 (cl_asItIs v) c ((cl_nextOf79 (cl_asItIs v) c 0) + 1)), .inr (.inr (some 80))]) rfl ?_
                refine r_iald2 (j := 0) (x := ((cl_asItIs v) 80 (((cl_nextOf79 (cl_asItIs v) c ((cl_nextOf79 (cl_asItIs v) c 0) + 1))).toNat))) (pc' := 93) (pc0 := 92) (len := 1) rfl (s_80 _) (by first | assumption | omega | (unfold R32 at *; omega) | (unfold R64 at *; omega) | (simp only [R32, R64] at *; omega)) (by decide) rfl rfl ?_
                have hb_10 : 0 ≤ ((cl_asItIs v) 80 (((cl_nextOf79 (cl_asItIs v) c ((cl_nextOf79 (cl_asItIs v) c 0) + 1))).toNat)) ∧ ((cl_asItIs v) 80 (((cl_nextOf79 (cl_asItIs v) c ((cl_nextOf79 (cl_asItIs v) c 0) + 1))).toNat)) ≤ 299 := hX_3 80 (((cl_nextOf79 (cl_asItIs v) c ((cl_nextOf79 (cl_asItIs v) c 0) + 1))).toNat)
                refine r_ex 3 (pc' := 99) (lo' := [some (.inr (.inr (some 0))), some (.inl c), some (.inl w), some (.inr (.inr (some 79))), some (.inl (cl_nextOf79 (cl_asItIs v) c 0)), some (.inl (cl_nextOf79 (cl_asItIs v) c ((cl_nextOf79 (cl_asItIs v) c 0) + 1)))]) (st' := [.inl (cl_nextOf79 (cl_asItIs v) c 0), .inr (.inr (some 80)), .inl ((cl_asItIs v) 80 (((cl_nextOf79 (cl_asItIs v) c ((cl_nextOf79 (cl_asItIs v) c 0) + 1))).toNat))]) rfl ?_
                refine r_iald2 (j := 0) (x := ((cl_asItIs v) 80 (((cl_nextOf79 (cl_asItIs v) c 0)).toNat))) (pc' := 100) (pc0 := 99) (len := 1) rfl (s_80 _) (by first | assumption | omega | (unfold R32 at *; omega) | (unfold R64 at *; omega) | (simp only [R32, R64] at *; omega)) (by decide) rfl rfl ?_
                have hb_11 : 0 ≤ ((cl_asItIs v) 80 (((cl_nextOf79 (cl_asItIs v) c 0)).toNat)) ∧ ((cl_asItIs v) 80 (((cl_nextOf79 (cl_asItIs v) c 0)).toNat)) ≤ 299 := hX_3 80 (((cl_nextOf79 (cl_asItIs v) c 0)).toNat)
                refine r_ex 1 (pc' := 101) (lo' := [some (.inr (.inr (some 0))), some (.inl c), some (.inl w), some (.inr (.inr (some 79))), some (.inl (cl_nextOf79 (cl_asItIs v) c 0)), some (.inl (cl_nextOf79 (cl_asItIs v) c ((cl_nextOf79 (cl_asItIs v) c 0) + 1)))]) (st' := [.inl (((cl_asItIs v) 80 (((cl_nextOf79 (cl_asItIs v) c ((cl_nextOf79 (cl_asItIs v) c 0) + 1))).toNat)) - ((cl_asItIs v) 80 (((cl_nextOf79 (cl_asItIs v) c 0)).toNat)))]) rfl ?_
                refine r_ret (rr := some (.inl (((cl_asItIs v) 80 (((cl_nextOf79 (cl_asItIs v) c ((cl_nextOf79 (cl_asItIs v) c 0) + 1))).toNat)) - ((cl_asItIs v) 80 (((cl_nextOf79 (cl_asItIs v) c 0)).toNat))))) (I := .ireturn) (pc0 := 101) (len := 1) rfl rfl ?_
                exact hQ hX_3 
              · show WV _ _ _ 82 _ _ _ _ _
                rw [if_pos h_79] at hQ
                refine r_ex 2 (pc' := 101) (lo' := [some (.inr (.inr (some 0))), some (.inl c), some (.inl w), some (.inr (.inr (some 79))), some (.inl (cl_nextOf79 (cl_asItIs v) c 0)), some (.inl (cl_nextOf79 (cl_asItIs v) c ((cl_nextOf79 (cl_asItIs v) c 0) + 1)))]) (st' := [.inl (-1)]) rfl ?_
                refine r_ret (rr := some (.inl (-1))) (I := .ireturn) (pc0 := 101) (len := 1) rfl rfl ?_
                exact hQ hX_3 
            · show WV _ _ _ 58 _ _ _ _ _
              rw [if_pos h_55] at hQ
              refine r_ex 3 (pc' := 63) (lo' := [some (.inr (.inr (some 0))), some (.inl c), some (.inl w), some (.inr (.inr (some 79))), some (.inl (cl_nextOf79 (cl_asItIs v) c 0)), none]) (st' := [.inl c, .inr (.inr (some 89))]) rfl ?_
              refine r_iald2 (j := 0) (x := ((cl_asItIs v) 89 ((c).toNat))) (pc' := 64) (pc0 := 63) (len := 1) rfl (s_89 _) (by first | assumption | omega | (unfold R32 at *; omega) | (unfold R64 at *; omega) | (simp only [R32, R64] at *; omega)) (by decide) rfl rfl ?_
              have hb_12 : 0 ≤ ((cl_asItIs v) 89 ((c).toNat)) ∧ ((cl_asItIs v) 89 ((c).toNat)) ≤ 299 := hX_3 89 ((c).toNat)
              refine r_ret (rr := some (.inl ((cl_asItIs v) 89 ((c).toNat)))) (I := .ireturn) (pc0 := 64) (len := 1) rfl rfl ?_
              exact hQ hX_3 
          · show WV _ _ _ 45 _ _ _ _ _
            rw [if_pos h_42] at hQ
            refine r_ex 3 (pc' := 51) (lo' := [some (.inr (.inr (some 0))), some (.inl c), some (.inl w), some (.inr (.inr (some 79))), some (.inl (cl_nextOf79 (cl_asItIs v) c 0)), none]) (st' := [.inl (cl_nextOf79 (cl_asItIs v) c 0), .inr (.inr (some 80))]) rfl ?_
            refine r_iald2 (j := 0) (x := ((cl_asItIs v) 80 (((cl_nextOf79 (cl_asItIs v) c 0)).toNat))) (pc' := 52) (pc0 := 51) (len := 1) rfl (s_80 _) (by first | assumption | omega | (unfold R32 at *; omega) | (unfold R64 at *; omega) | (simp only [R32, R64] at *; omega)) (by decide) rfl rfl ?_
            have hb_13 : 0 ≤ ((cl_asItIs v) 80 (((cl_nextOf79 (cl_asItIs v) c 0)).toNat)) ∧ ((cl_asItIs v) 80 (((cl_nextOf79 (cl_asItIs v) c 0)).toNat)) ≤ 299 := hX_3 80 (((cl_nextOf79 (cl_asItIs v) c 0)).toNat)
            refine r_ret (rr := some (.inl ((cl_asItIs v) 80 (((cl_nextOf79 (cl_asItIs v) c 0)).toNat)))) (I := .ireturn) (pc0 := 52) (len := 1) rfl rfl ?_
            exact hQ hX_3 
        · show WV _ _ _ 39 _ _ _ _ _
          rw [if_pos h_36] at hQ
          refine r_ex 1 (pc' := 40) (lo' := [some (.inr (.inr (some 0))), some (.inl c), some (.inl w), some (.inr (.inr (some 79))), some (.inl (cl_nextOf79 (cl_asItIs v) c 0)), none]) (st' := [.inl (-1)]) rfl ?_
          refine r_ret (rr := some (.inl (-1))) (I := .ireturn) (pc0 := 40) (len := 1) rfl rfl ?_
          exact hQ hX_3 
      · show WV _ _ _ 17 _ _ _ _ _
        rw [if_pos h_14] at hQ
        refine r_ex 1 (pc' := 19) (lo' := [some (.inr (.inr (some 0))), some (.inl c), some (.inl w), none, none, none]) (st' := [.inl (-2)]) rfl ?_
        refine r_ret (rr := some (.inl (-2))) (I := .ireturn) (pc0 := 19) (len := 1) rfl rfl ?_
        exact hQ hX 
  · show WV _ _ _ 5 _ _ _ _ _
    rw [if_neg h_2] at hQ
    refine r_ex 2 (pc' := 19) (lo' := [some (.inr (.inr (some 0))), some (.inl c), some (.inl w), none, none, none]) (st' := [.inl (-2)]) rfl ?_
    refine r_ret (rr := some (.inl (-2))) (I := .ireturn) (pc0 := 19) (len := 1) rfl rfl ?_
    exact hQ hX 

theorem e_cl_when {X : PX} {d b : Nat} {v : VS} {c : Int} {w : Int} (hX : XI v) (hp_a : R32 c) (hp_b : R32 w) : EvV X (d + 1 + 1 + 1 + 1 + 1 + 1 + 1) 92 [.inr (.inr (some 0)), .inl c, .inl w] b v (some (.inl (cl_when v c w).1)) b ((cl_when v c w).2) := EvV.of (w_cl_when hX hp_a hp_b (fun _ => ⟨rfl, rfl, rfl⟩))

theorem i_cl_when {v : VS} {c : Int} {w : Int} (hX : XI v) (hp_a : R32 c) (hp_b : R32 w) : XI ((cl_when v c w).2) := by
  have q : WV (0, fun _ => 0, none) (0 + 1 + 1 + 1 + 1 + 1 + 1 + 1) 92 0 [some (.inr (.inr (some 0))), some (.inl c), some (.inl w), none, none, none] [] 1 v (fun _ _ _ => XI ((cl_when v c w).2)) := w_cl_when (X := (0, fun _ => 0, none)) (d := 0) (b := 1) hX hp_a hp_b (fun q => q)
  obtain ⟨_, _, _, _, _, _, _, q⟩ := q
  exact q

theorem o_cl_when {rk : Nat} {v : VS} {c : Int} {w : Int} (hk : (rk < 0 ∨ 0 < rk) ∧ (rk < 67 ∨ 90 < rk) ∧ (rk < 105 ∨ 105 < rk)) : (cl_when v c w).2 rk = v rk := by
  unfold cl_when
  by_cases hc_ : 0 ≤ c ∧ c < v 33 0
  · rw [if_pos hc_]
    by_cases hc_ : w < 0
    · rw [if_pos hc_]
      all_goals (show v rk = _)
      all_goals rfl
    · rw [if_neg hc_]
      by_cases hc_ : 2 < w
      · rw [if_pos hc_]
        all_goals (show v rk = _)
        all_goals rfl
      · rw [if_neg hc_]
        by_cases hc_ : (cl_nextOf79 (cl_asItIs v) c 0) = (-1)
        · rw [if_pos hc_]
          all_goals (show (cl_asItIs v) rk = _)
          all_goals (rw [o_cl_asItIs (by omega)])
        · rw [if_neg hc_]
          by_cases hc_ : w = 0
          · rw [if_pos hc_]
            all_goals (show (cl_asItIs v) rk = _)
            all_goals (rw [o_cl_asItIs (by omega)])
          · rw [if_neg hc_]
            by_cases hc_ : w = 1
            · rw [if_pos hc_]
              all_goals (show (cl_asItIs v) rk = _)
              all_goals (rw [o_cl_asItIs (by omega)])
            · rw [if_neg hc_]
              by_cases hc_ : (cl_nextOf79 (cl_asItIs v) c ((cl_nextOf79 (cl_asItIs v) c 0) + 1)) = (-1)
              · rw [if_pos hc_]
                all_goals (show (cl_asItIs v) rk = _)
                all_goals (rw [o_cl_asItIs (by omega)])
              · rw [if_neg hc_]
                all_goals (show (cl_asItIs v) rk = _)
                all_goals (rw [o_cl_asItIs (by omega)])
  · rw [if_neg hc_]
    all_goals (show v rk = _)
    all_goals rfl

def cl_led_33 : Nat → VS → Int → Int → Int → Int × VS
  | 0, v, k, a, s => (0, v)
  | f + 1, v, k, a, s => (if s < k then (if a = (-1) then (a, v) else (cl_led_33 f v k (v 83 ((a).toNat)) (s + 1))) else (a, v))
def cl_led (v : VS) (c : Int) (k : Int) : Int × VS :=
  (if 0 ≤ c ∧ c < v 33 0 then (if k < 0 then ((-1), v) else (cl_led_33 (k.toNat + 1) (cl_asItIs v) k (cl_nextOf79 (cl_asItIs v) c 0) 0)) else ((-2), v))
theorem l_cl_led_33 {X : PX} {d b : Nat} {Q : Option PV → Nat → VS → Prop}  : ∀ (f : Nat) (v : VS) (k : Int) (a : Int) (s : Int) (o0 : Option PV) (o1 : Option PV), XI v → (R32 k) → (-1 ≤ a ∧ a ≤ 299) → (0 ≤ s ∧ s ≤ k) → (k < s + f) → (XI (cl_led_33 f v k a s).2 → Q (some (.inl (cl_led_33 f v k a s).1)) b (cl_led_33 f v k a s).2) → WV X (d + 1 + 1 + 1 + 1 + 1 + 1 + 1) 94 33 [o0, o1, some (.inl k), some (.inr (.inr (some 79))), some (.inl a), some (.inl s)] [] b v Q := by
  intro f
  induction f with
  | zero =>
    intro v k a s o0 o1 hX hi_0 hi_1 hi_2 hf hQ
    exfalso
    omega
  | succ f ih =>
    intro v k a s o0 o1 hX hi_0 hi_1 hi_2 hf hQ
    rw [cl_led_33] at hQ
    refine r_ex 2 (pc' := 36) (lo' := [o0, o1, some (.inl k), some (.inr (.inr (some 79))), some (.inl a), some (.inl s)]) (st' := [.inl k, .inl s]) rfl ?_
    refine n_ic_ge (pc0 := 36) (len := 3) (t := 60) rfl (by first | assumption | omega | (unfold R32 at *; omega) | (unfold R64 at *; omega) | (simp only [R32, R64] at *; omega)) (by first | assumption | omega | (unfold R32 at *; omega) | (unfold R64 at *; omega) | (simp only [R32, R64] at *; omega)) (fun h_36 => ?_) (fun h_36 => ?_)
    · show WV _ _ _ 60 _ _ _ _ _
      rw [if_neg h_36] at hQ
      refine r_ex 1 (pc' := 62) (lo' := [o0, o1, some (.inl k), some (.inr (.inr (some 79))), some (.inl a), some (.inl s)]) (st' := [.inl a]) rfl ?_
      refine r_ret (rr := some (.inl a)) (I := .ireturn) (pc0 := 62) (len := 1) rfl rfl ?_
      exact hQ hX 
    · show WV _ _ _ 39 _ _ _ _ _
      rw [if_pos h_36] at hQ
      refine r_ex 2 (pc' := 42) (lo' := [o0, o1, some (.inl k), some (.inr (.inr (some 79))), some (.inl a), some (.inl s)]) (st' := [.inl (-1), .inl a]) rfl ?_
      refine n_ic_eq (pc0 := 42) (len := 3) (t := 60) rfl (by first | assumption | omega | (unfold R32 at *; omega) | (unfold R64 at *; omega) | (simp only [R32, R64] at *; omega)) (by first | assumption | omega | (unfold R32 at *; omega) | (unfold R64 at *; omega) | (simp only [R32, R64] at *; omega)) (fun h_42 => ?_) (fun h_42 => ?_)
      · show WV _ _ _ 60 _ _ _ _ _
        rw [if_pos h_42] at hQ
        refine r_ex 1 (pc' := 62) (lo' := [o0, o1, some (.inl k), some (.inr (.inr (some 79))), some (.inl a), some (.inl s)]) (st' := [.inl a]) rfl ?_
        refine r_ret (rr := some (.inl a)) (I := .ireturn) (pc0 := 62) (len := 1) rfl rfl ?_
        exact hQ hX 
      · show WV _ _ _ 45 _ _ _ _ _
        rw [if_neg h_42] at hQ
        refine r_ex 3 (pc' := 51) (lo' := [o0, o1, some (.inl k), some (.inr (.inr (some 79))), some (.inl a), some (.inl s)]) (st' := [.inl a, .inr (.inr (some 83))]) rfl ?_
        refine r_iald2 (j := 0) (x := (v 83 ((a).toNat))) (pc' := 52) (pc0 := 51) (len := 1) rfl (s_83 _) (by first | assumption | omega | (unfold R32 at *; omega) | (unfold R64 at *; omega) | (simp only [R32, R64] at *; omega)) (by decide) rfl rfl ?_
        have hb_7 : -1 ≤ (v 83 ((a).toNat)) ∧ (v 83 ((a).toNat)) ≤ 299 := hX 83 ((a).toNat)
        refine r_ex 3 (pc' := 33) (lo' := [o0, o1, some (.inl k), some (.inr (.inr (some 79))), some (.inl (v 83 ((a).toNat))), some (.inl (s + 1))]) (st' := []) rfl ?_
        refine ih v k (v 83 ((a).toNat)) (s + 1) _ _ hX (by first | assumption | omega | (unfold R32 at *; omega) | (unfold R64 at *; omega) | (simp only [R32, R64] at *; omega)) (by first | assumption | omega | (unfold R32 at *; omega) | (unfold R64 at *; omega) | (simp only [R32, R64] at *; omega)) (by first | assumption | omega | (unfold R32 at *; omega) | (unfold R64 at *; omega) | (simp only [R32, R64] at *; omega)) (by first | assumption | omega | (unfold R32 at *; omega) | (unfold R64 at *; omega) | (simp only [R32, R64] at *; omega)) hQ

theorem of_cl_led_33 {rk : Nat}  : ∀ (f : Nat) {v : VS} {k : Int} {a : Int} {s : Int}, (cl_led_33 f v k a s).2 rk = v rk := by
  intro f
  induction f with
  | zero => intro v k a s; rfl
  | succ f ih =>
    intro v k a s
    rw [cl_led_33]
    by_cases hc_ : s < k
    · rw [if_pos hc_]
      by_cases hc_ : a = (-1)
      · rw [if_pos hc_]
        all_goals (show v rk = _)
        all_goals rfl
      · rw [if_neg hc_]
        all_goals (rw [ih])
    · rw [if_neg hc_]
      all_goals (show v rk = _)
      all_goals rfl
theorem o_cl_led_33 {rk : Nat} {f : Nat} {v : VS} {k : Int} {a : Int} {s : Int}  : (cl_led_33 f v k a s).2 rk = v rk := of_cl_led_33  f

theorem w_cl_led {X : PX} {d b : Nat} {v : VS} {c : Int} {k : Int} (hX : XI v) (hp_a : R32 c) (hp_b : R32 k) {Q : Option PV → Nat → VS → Prop} (hQ : XI (cl_led v c k).2 → Q (some (.inl (cl_led v c k).1)) b (cl_led v c k).2) : WV X (d + 1 + 1 + 1 + 1 + 1 + 1 + 1) 94 0 [some (.inr (.inr (some 0))), some (.inl c), some (.inl k), none, none, none] [] b v Q := by
  rw [cl_led] at hQ
  refine r_ex 2 (pc' := 2) (lo' := [some (.inr (.inr (some 0))), some (.inl c), some (.inl k), none, none, none]) (st' := [.inl c, .inr (.inr (some 0))]) rfl ?_
  have hp_1 : R32 c := (by first | assumption | omega | (unfold R32 at *; omega) | (unfold R64 at *; omega) | (simp only [R32, R64] at *; omega))
  have hb_2 : 0 ≤ v 33 0 ∧ v 33 0 ≤ 9 := hX 33 0
  refine r_callb (P := 0 ≤ c ∧ c < v 33 0) (m := 62) (args := [.inr (.inr (some 0)), .inl c]) (n' := 94) (pc' := 5) (lo' := [some (.inr (.inr (some 0))), some (.inl c), some (.inl k), none, none, none]) (st' := []) (I := .invokevirtual 62) (pc0 := 2) (len := 3) rfl rfl rfl (e_cl_isChurch hX hp_1) (fun h_2 => ?_) (fun h_2 => ?_)
  · show WV _ _ _ 5 _ _ _ _ _
    rw [if_pos h_2] at hQ
    refine r_ex 2 (pc' := 12) (lo' := [some (.inr (.inr (some 0))), some (.inl c), some (.inl k), none, none, none]) (st' := [.inl k]) rfl ?_
    refine n_if_ge (pc0 := 12) (len := 3) (t := 17) rfl (by first | assumption | omega | (unfold R32 at *; omega) | (unfold R64 at *; omega) | (simp only [R32, R64] at *; omega)) (fun h_12 => ?_) (fun h_12 => ?_)
    · show WV _ _ _ 17 _ _ _ _ _
      rw [if_neg h_12] at hQ
      refine r_ex 1 (pc' := 18) (lo' := [some (.inr (.inr (some 0))), some (.inl c), some (.inl k), none, none, none]) (st' := [.inr (.inr (some 0))]) rfl ?_
      refine r_call (m := 72) (args := [.inr (.inr (some 0))]) (n' := 94) (pc' := 21) (lo' := [some (.inr (.inr (some 0))), some (.inl c), some (.inl k), none, none, none]) (st' := []) (I := .invokevirtual 72) (pc0 := 18) (len := 3) rfl rfl rfl (e_cl_asItIs hX) ?_
      show WV _ _ _ 21 _ [.inr (.inr (some 79))] _ (cl_asItIs v) _
      have hX_3 : XI (cl_asItIs v) := i_cl_asItIs (v := v) hX
      refine r_ex 4 (pc' := 25) (lo' := [some (.inr (.inr (some 0))), some (.inl c), some (.inl k), some (.inr (.inr (some 79))), none, none]) (st' := [.inl 0, .inl c, .inr (.inr (some 79))]) rfl ?_
      have hp_4 : R32 c := (by first | assumption | omega | (unfold R32 at *; omega) | (unfold R64 at *; omega) | (simp only [R32, R64] at *; omega))
      have hp_5 : 0 ≤ (0 : Int) ∧ (0 : Int) ≤ 300 := (by first | assumption | omega | (unfold R32 at *; omega) | (unfold R64 at *; omega) | (simp only [R32, R64] at *; omega))
      refine r_call (m := 93) (args := [.inr (.inr (some 79)), .inl c, .inl 0]) (n' := 94) (pc' := 28) (lo' := [some (.inr (.inr (some 0))), some (.inl c), some (.inl k), some (.inr (.inr (some 79))), none, none]) (st' := []) (I := .invokevirtual 93) (pc0 := 25) (len := 3) rfl rfl rfl (e_cl_nextOf79 hX_3 hp_4 hp_5) ?_
      show WV _ _ _ 28 _ [.inl (cl_nextOf79 (cl_asItIs v) c 0)] _ _ _
      have hb_6 := n_cl_nextOf79 (v := (cl_asItIs v)) (c := c) (s := 0) hX_3 hp_4 hp_5
      refine r_ex 3 (pc' := 33) (lo' := [some (.inr (.inr (some 0))), some (.inl c), some (.inl k), some (.inr (.inr (some 79))), some (.inl (cl_nextOf79 (cl_asItIs v) c 0)), some (.inl 0)]) (st' := []) rfl ?_
      exact l_cl_led_33 (k.toNat + 1) (cl_asItIs v) k (cl_nextOf79 (cl_asItIs v) c 0) 0 _ _ hX_3 (by first | assumption | omega | (unfold R32 at *; omega) | (unfold R64 at *; omega) | (simp only [R32, R64] at *; omega)) (by first | assumption | omega | (unfold R32 at *; omega) | (unfold R64 at *; omega) | (simp only [R32, R64] at *; omega)) (by first | assumption | omega | (unfold R32 at *; omega) | (unfold R64 at *; omega) | (simp only [R32, R64] at *; omega)) (by first | assumption | omega | (unfold R32 at *; omega) | (unfold R64 at *; omega) | (simp only [R32, R64] at *; omega)) hQ
    · show WV _ _ _ 15 _ _ _ _ _
      rw [if_pos h_12] at hQ
      refine r_ex 1 (pc' := 16) (lo' := [some (.inr (.inr (some 0))), some (.inl c), some (.inl k), none, none, none]) (st' := [.inl (-1)]) rfl ?_
      refine r_ret (rr := some (.inl (-1))) (I := .ireturn) (pc0 := 16) (len := 1) rfl rfl ?_
      exact hQ hX 
  · show WV _ _ _ 5 _ _ _ _ _
    rw [if_neg h_2] at hQ
    refine r_ex 2 (pc' := 10) (lo' := [some (.inr (.inr (some 0))), some (.inl c), some (.inl k), none, none, none]) (st' := [.inl (-2)]) rfl ?_
    refine r_ret (rr := some (.inl (-2))) (I := .ireturn) (pc0 := 10) (len := 1) rfl rfl ?_
    exact hQ hX 

theorem e_cl_led {X : PX} {d b : Nat} {v : VS} {c : Int} {k : Int} (hX : XI v) (hp_a : R32 c) (hp_b : R32 k) : EvV X (d + 1 + 1 + 1 + 1 + 1 + 1 + 1) 94 [.inr (.inr (some 0)), .inl c, .inl k] b v (some (.inl (cl_led v c k).1)) b ((cl_led v c k).2) := EvV.of (w_cl_led hX hp_a hp_b (fun _ => ⟨rfl, rfl, rfl⟩))

theorem i_cl_led {v : VS} {c : Int} {k : Int} (hX : XI v) (hp_a : R32 c) (hp_b : R32 k) : XI ((cl_led v c k).2) := by
  have q : WV (0, fun _ => 0, none) (0 + 1 + 1 + 1 + 1 + 1 + 1 + 1) 94 0 [some (.inr (.inr (some 0))), some (.inl c), some (.inl k), none, none, none] [] 1 v (fun _ _ _ => XI ((cl_led v c k).2)) := w_cl_led (X := (0, fun _ => 0, none)) (d := 0) (b := 1) hX hp_a hp_b (fun q => q)
  obtain ⟨_, _, _, _, _, _, _, q⟩ := q
  exact q

theorem o_cl_led {rk : Nat} {v : VS} {c : Int} {k : Int} (hk : (rk < 0 ∨ 0 < rk) ∧ (rk < 67 ∨ 90 < rk) ∧ (rk < 105 ∨ 105 < rk)) : (cl_led v c k).2 rk = v rk := by
  unfold cl_led
  by_cases hc_ : 0 ≤ c ∧ c < v 33 0
  · rw [if_pos hc_]
    by_cases hc_ : k < 0
    · rw [if_pos hc_]
      all_goals (show v rk = _)
      all_goals rfl
    · rw [if_neg hc_]
      all_goals (rw [o_cl_led_33, o_cl_asItIs (by omega)])
  · rw [if_neg hc_]
    all_goals (show v rk = _)
    all_goals rfl

def cl_allAgree_9 : Nat → VS → Int → Int → Int → Int
  | 0, v, s, h, c => 0
  | f + 1, v, s, h, c => (if c < (v 33 0) then (if (cl_struckLast v c s) = h then (cl_allAgree_9 f v s h (c + 1)) else 0) else (if h = 0 then 0 else 1))
def cl_allAgree (v : VS) (s : Int) : Int :=
  (cl_allAgree_9 10 v s (cl_struckLast v 0 s) 1)
theorem l_cl_allAgree_9 {X : PX} {d b : Nat} {Q : Option PV → Nat → VS → Prop}  : ∀ (f : Nat) (v : VS) (s : Int) (h : Int) (c : Int), XI v → (0 ≤ c ∧ c ≤ 9) → (R32 s) → (0 ≤ h ∧ h ≤ 99) → (9 < c + f) → ((0 ≤ (cl_allAgree_9 f v s h c) ∧ (cl_allAgree_9 f v s h c) ≤ 1) → Q (some (.inl (cl_allAgree_9 f v s h c))) b v) → WV X (d + 1 + 1) 96 9 [some (.inr (.inr (some 0))), some (.inl s), some (.inl h), some (.inl c)] [] b v Q := by
  intro f
  induction f with
  | zero =>
    intro v s h c hX hi_0 hi_1 hi_2 hf hQ
    exfalso
    omega
  | succ f ih =>
    intro v s h c hX hi_0 hi_1 hi_2 hf hQ
    rw [cl_allAgree_9] at hQ
    refine r_ex 4 (pc' := 17) (lo' := [some (.inr (.inr (some 0))), some (.inl s), some (.inl h), some (.inl c)]) (st' := [.inl (v 33 0), .inl c]) rfl ?_
    have hb_4 : 0 ≤ (v 33 0) ∧ (v 33 0) ≤ 9 := hX 33 0
    refine n_ic_ge (pc0 := 17) (len := 3) (t := 38) rfl (by first | assumption | omega | (unfold R32 at *; omega) | (unfold R64 at *; omega) | (simp only [R32, R64] at *; omega)) (by first | assumption | omega | (unfold R32 at *; omega) | (unfold R64 at *; omega) | (simp only [R32, R64] at *; omega)) (fun h_17 => ?_) (fun h_17 => ?_)
    · show WV _ _ _ 38 _ _ _ _ _
      rw [if_neg h_17] at hQ
      refine r_ex 1 (pc' := 39) (lo' := [some (.inr (.inr (some 0))), some (.inl s), some (.inl h), some (.inl c)]) (st' := [.inl h]) rfl ?_
      refine n_if_eq (pc0 := 39) (len := 3) (t := 46) rfl (by first | assumption | omega | (unfold R32 at *; omega) | (unfold R64 at *; omega) | (simp only [R32, R64] at *; omega)) (fun h_39 => ?_) (fun h_39 => ?_)
      · show WV _ _ _ 46 _ _ _ _ _
        rw [if_pos h_39] at hQ
        refine r_ex 1 (pc' := 47) (lo' := [some (.inr (.inr (some 0))), some (.inl s), some (.inl h), some (.inl c)]) (st' := [.inl 0]) rfl ?_
        refine r_ret (rr := some (.inl 0)) (I := .ireturn) (pc0 := 47) (len := 1) rfl rfl ?_
        exact hQ (by first | assumption | omega | (unfold R32 at *; omega) | (unfold R64 at *; omega) | (simp only [R32, R64] at *; omega))
      · show WV _ _ _ 42 _ _ _ _ _
        rw [if_neg h_39] at hQ
        refine r_ex 2 (pc' := 47) (lo' := [some (.inr (.inr (some 0))), some (.inl s), some (.inl h), some (.inl c)]) (st' := [.inl 1]) rfl ?_
        refine r_ret (rr := some (.inl 1)) (I := .ireturn) (pc0 := 47) (len := 1) rfl rfl ?_
        exact hQ (by first | assumption | omega | (unfold R32 at *; omega) | (unfold R64 at *; omega) | (simp only [R32, R64] at *; omega))
    · show WV _ _ _ 20 _ _ _ _ _
      rw [if_pos h_17] at hQ
      refine r_ex 3 (pc' := 23) (lo' := [some (.inr (.inr (some 0))), some (.inl s), some (.inl h), some (.inl c)]) (st' := [.inl s, .inl c, .inr (.inr (some 0))]) rfl ?_
      have hp_5 : R32 c := (by first | assumption | omega | (unfold R32 at *; omega) | (unfold R64 at *; omega) | (simp only [R32, R64] at *; omega))
      have hp_6 : R32 s := (by first | assumption | omega | (unfold R32 at *; omega) | (unfold R64 at *; omega) | (simp only [R32, R64] at *; omega))
      refine r_call (m := 90) (args := [.inr (.inr (some 0)), .inl c, .inl s]) (n' := 96) (pc' := 26) (lo' := [some (.inr (.inr (some 0))), some (.inl s), some (.inl h), some (.inl c)]) (st' := []) (I := .invokevirtual 90) (pc0 := 23) (len := 3) rfl rfl rfl (e_cl_struckLast hX hp_5 hp_6) ?_
      show WV _ _ _ 26 _ [.inl (cl_struckLast v c s)] _ _ _
      have hb_7 := n_cl_struckLast (v := v) (c := c) (s := s) hX hp_5 hp_6
      refine r_ex 1 (pc' := 27) (lo' := [some (.inr (.inr (some 0))), some (.inl s), some (.inl h), some (.inl c)]) (st' := [.inl h, .inl (cl_struckLast v c s)]) rfl ?_
      refine n_ic_eq (pc0 := 27) (len := 3) (t := 32) rfl (by first | assumption | omega | (unfold R32 at *; omega) | (unfold R64 at *; omega) | (simp only [R32, R64] at *; omega)) (by first | assumption | omega | (unfold R32 at *; omega) | (unfold R64 at *; omega) | (simp only [R32, R64] at *; omega)) (fun h_27 => ?_) (fun h_27 => ?_)
      · show WV _ _ _ 32 _ _ _ _ _
        rw [if_pos h_27] at hQ
        refine r_ex 2 (pc' := 9) (lo' := [some (.inr (.inr (some 0))), some (.inl s), some (.inl h), some (.inl (c + 1))]) (st' := []) rfl ?_
        refine ih v s h (c + 1)  hX (by first | assumption | omega | (unfold R32 at *; omega) | (unfold R64 at *; omega) | (simp only [R32, R64] at *; omega)) (by first | assumption | omega | (unfold R32 at *; omega) | (unfold R64 at *; omega) | (simp only [R32, R64] at *; omega)) (by first | assumption | omega | (unfold R32 at *; omega) | (unfold R64 at *; omega) | (simp only [R32, R64] at *; omega)) (by first | assumption | omega | (unfold R32 at *; omega) | (unfold R64 at *; omega) | (simp only [R32, R64] at *; omega)) hQ
      · show WV _ _ _ 30 _ _ _ _ _
        rw [if_neg h_27] at hQ
        refine r_ex 1 (pc' := 31) (lo' := [some (.inr (.inr (some 0))), some (.inl s), some (.inl h), some (.inl c)]) (st' := [.inl 0]) rfl ?_
        refine r_ret (rr := some (.inl 0)) (I := .ireturn) (pc0 := 31) (len := 1) rfl rfl ?_
        exact hQ (by first | assumption | omega | (unfold R32 at *; omega) | (unfold R64 at *; omega) | (simp only [R32, R64] at *; omega))

theorem w_cl_allAgree {X : PX} {d b : Nat} {v : VS} {s : Int} (hX : XI v) (hp_a : R32 s) {Q : Option PV → Nat → VS → Prop} (hQ : (0 ≤ (cl_allAgree v s) ∧ (cl_allAgree v s) ≤ 1) → Q (some (.inl (cl_allAgree v s))) b v) : WV X (d + 1 + 1) 96 0 [some (.inr (.inr (some 0))), some (.inl s), none, none] [] b v Q := by
  rw [cl_allAgree] at hQ
  refine r_ex 3 (pc' := 3) (lo' := [some (.inr (.inr (some 0))), some (.inl s), none, none]) (st' := [.inl s, .inl 0, .inr (.inr (some 0))]) rfl ?_
  have hp_1 : R32 (0 : Int) := (by first | assumption | omega | (unfold R32 at *; omega) | (unfold R64 at *; omega) | (simp only [R32, R64] at *; omega))
  have hp_2 : R32 s := (by first | assumption | omega | (unfold R32 at *; omega) | (unfold R64 at *; omega) | (simp only [R32, R64] at *; omega))
  refine r_call (m := 90) (args := [.inr (.inr (some 0)), .inl 0, .inl s]) (n' := 96) (pc' := 6) (lo' := [some (.inr (.inr (some 0))), some (.inl s), none, none]) (st' := []) (I := .invokevirtual 90) (pc0 := 3) (len := 3) rfl rfl rfl (e_cl_struckLast hX hp_1 hp_2) ?_
  show WV _ _ _ 6 _ [.inl (cl_struckLast v 0 s)] _ _ _
  have hb_3 := n_cl_struckLast (v := v) (c := 0) (s := s) hX hp_1 hp_2
  refine r_ex 3 (pc' := 9) (lo' := [some (.inr (.inr (some 0))), some (.inl s), some (.inl (cl_struckLast v 0 s)), some (.inl 1)]) (st' := []) rfl ?_
  exact l_cl_allAgree_9 10 v s (cl_struckLast v 0 s) 1  hX (by first | assumption | omega | (unfold R32 at *; omega) | (unfold R64 at *; omega) | (simp only [R32, R64] at *; omega)) (by first | assumption | omega | (unfold R32 at *; omega) | (unfold R64 at *; omega) | (simp only [R32, R64] at *; omega)) (by first | assumption | omega | (unfold R32 at *; omega) | (unfold R64 at *; omega) | (simp only [R32, R64] at *; omega)) (by first | assumption | omega | (unfold R32 at *; omega) | (unfold R64 at *; omega) | (simp only [R32, R64] at *; omega)) hQ

theorem e_cl_allAgree {X : PX} {d b : Nat} {v : VS} {s : Int} (hX : XI v) (hp_a : R32 s) : EvV X (d + 1 + 1) 96 [.inr (.inr (some 0)), .inl s] b v (some (.inl (cl_allAgree v s))) b v := EvV.of (w_cl_allAgree hX hp_a (fun _ => ⟨rfl, rfl, rfl⟩))

theorem n_cl_allAgree {v : VS} {s : Int} (hX : XI v) (hp_a : R32 s) : 0 ≤ (cl_allAgree v s) ∧ (cl_allAgree v s) ≤ 1 := by
  have q : WV (0, fun _ => 0, none) (0 + 1 + 1) 96 0 [some (.inr (.inr (some 0))), some (.inl s), none, none] [] 1 v (fun _ _ _ => 0 ≤ (cl_allAgree v s) ∧ (cl_allAgree v s) ≤ 1) := w_cl_allAgree (X := (0, fun _ => 0, none)) (d := 0) (b := 1) hX hp_a (fun q => q)
  obtain ⟨_, _, _, _, _, _, _, q⟩ := q
  exact q

def cl_agree_18 : Nat → VS → Int → Int × VS
  | 0, v, t => (0, v)
  | f + 1, v, t => (if t < (v 33 1) then (if (cl_allAgree v t) = 0 then (cl_agree_18 f v (t + 1)) else (t, v)) else ((-1), v))
def cl_agree (v : VS) (s : Int) : Int × VS :=
  (if 0 ≤ s ∧ s < v 33 1 then (cl_agree_18 301 (cl_asItIs v) s) else ((-2), v))
theorem l_cl_agree_18 {X : PX} {d b : Nat} {Q : Option PV → Nat → VS → Prop}  : ∀ (f : Nat) (v : VS) (t : Int) (z1 : Int), XI v → (0 ≤ t ∧ t ≤ 300) → (300 < t + f) → (XI (cl_agree_18 f v t).2 → Q (some (.inl (cl_agree_18 f v t).1)) b (cl_agree_18 f v t).2) → WV X (d + 1 + 1 + 1 + 1 + 1 + 1 + 1) 95 18 [some (.inr (.inr (some 0))), some (.inl z1), some (.inl t)] [] b v Q := by
  intro f
  induction f with
  | zero =>
    intro v t z1 hX hi_0 hf hQ
    exfalso
    omega
  | succ f ih =>
    intro v t z1 hX hi_0 hf hQ
    rw [cl_agree_18] at hQ
    refine r_ex 4 (pc' := 26) (lo' := [some (.inr (.inr (some 0))), some (.inl z1), some (.inl t)]) (st' := [.inl (v 33 1), .inl t]) rfl ?_
    have hb_4 : 0 ≤ (v 33 1) ∧ (v 33 1) ≤ 300 := hX 33 1
    refine n_ic_ge (pc0 := 26) (len := 3) (t := 45) rfl (by first | assumption | omega | (unfold R32 at *; omega) | (unfold R64 at *; omega) | (simp only [R32, R64] at *; omega)) (by first | assumption | omega | (unfold R32 at *; omega) | (unfold R64 at *; omega) | (simp only [R32, R64] at *; omega)) (fun h_26 => ?_) (fun h_26 => ?_)
    · show WV _ _ _ 45 _ _ _ _ _
      rw [if_neg h_26] at hQ
      refine r_ex 1 (pc' := 46) (lo' := [some (.inr (.inr (some 0))), some (.inl z1), some (.inl t)]) (st' := [.inl (-1)]) rfl ?_
      refine r_ret (rr := some (.inl (-1))) (I := .ireturn) (pc0 := 46) (len := 1) rfl rfl ?_
      exact hQ hX 
    · show WV _ _ _ 29 _ _ _ _ _
      rw [if_pos h_26] at hQ
      refine r_ex 2 (pc' := 31) (lo' := [some (.inr (.inr (some 0))), some (.inl z1), some (.inl t)]) (st' := [.inl t, .inr (.inr (some 0))]) rfl ?_
      have hp_5 : R32 t := (by first | assumption | omega | (unfold R32 at *; omega) | (unfold R64 at *; omega) | (simp only [R32, R64] at *; omega))
      refine r_call (m := 96) (args := [.inr (.inr (some 0)), .inl t]) (n' := 95) (pc' := 34) (lo' := [some (.inr (.inr (some 0))), some (.inl z1), some (.inl t)]) (st' := []) (I := .invokevirtual 96) (pc0 := 31) (len := 3) rfl rfl rfl (e_cl_allAgree hX hp_5) ?_
      show WV _ _ _ 34 _ [.inl (cl_allAgree v t)] _ _ _
      have hb_6 := n_cl_allAgree (v := v) (s := t) hX hp_5
      refine n_if_eq (pc0 := 34) (len := 3) (t := 39) rfl (by first | assumption | omega | (unfold R32 at *; omega) | (unfold R64 at *; omega) | (simp only [R32, R64] at *; omega)) (fun h_34 => ?_) (fun h_34 => ?_)
      · show WV _ _ _ 39 _ _ _ _ _
        rw [if_pos h_34] at hQ
        refine r_ex 2 (pc' := 18) (lo' := [some (.inr (.inr (some 0))), some (.inl z1), some (.inl (t + 1))]) (st' := []) rfl ?_
        refine ih v (t + 1) _ hX (by first | assumption | omega | (unfold R32 at *; omega) | (unfold R64 at *; omega) | (simp only [R32, R64] at *; omega)) (by first | assumption | omega | (unfold R32 at *; omega) | (unfold R64 at *; omega) | (simp only [R32, R64] at *; omega)) hQ
      · show WV _ _ _ 37 _ _ _ _ _
        rw [if_neg h_34] at hQ
        refine r_ex 1 (pc' := 38) (lo' := [some (.inr (.inr (some 0))), some (.inl z1), some (.inl t)]) (st' := [.inl t]) rfl ?_
        refine r_ret (rr := some (.inl t)) (I := .ireturn) (pc0 := 38) (len := 1) rfl rfl ?_
        exact hQ hX 

theorem of_cl_agree_18 {rk : Nat}  : ∀ (f : Nat) {v : VS} {t : Int}, (cl_agree_18 f v t).2 rk = v rk := by
  intro f
  induction f with
  | zero => intro v t; rfl
  | succ f ih =>
    intro v t
    rw [cl_agree_18]
    by_cases hc_ : t < (v 33 1)
    · rw [if_pos hc_]
      by_cases hc_ : (cl_allAgree v t) = 0
      · rw [if_pos hc_]
        all_goals (rw [ih])
      · rw [if_neg hc_]
        all_goals (show v rk = _)
        all_goals rfl
    · rw [if_neg hc_]
      all_goals (show v rk = _)
      all_goals rfl
theorem o_cl_agree_18 {rk : Nat} {f : Nat} {v : VS} {t : Int}  : (cl_agree_18 f v t).2 rk = v rk := of_cl_agree_18  f

theorem w_cl_agree {X : PX} {d b : Nat} {v : VS} {s : Int} (hX : XI v) (hp_a : R32 s) {Q : Option PV → Nat → VS → Prop} (hQ : XI (cl_agree v s).2 → Q (some (.inl (cl_agree v s).1)) b (cl_agree v s).2) : WV X (d + 1 + 1 + 1 + 1 + 1 + 1 + 1) 95 0 [some (.inr (.inr (some 0))), some (.inl s), none] [] b v Q := by
  rw [cl_agree] at hQ
  refine r_ex 2 (pc' := 2) (lo' := [some (.inr (.inr (some 0))), some (.inl s), none]) (st' := [.inl s, .inr (.inr (some 0))]) rfl ?_
  have hp_1 : R32 s := (by first | assumption | omega | (unfold R32 at *; omega) | (unfold R64 at *; omega) | (simp only [R32, R64] at *; omega))
  have hb_2 : 0 ≤ v 33 1 ∧ v 33 1 ≤ 300 := hX 33 1
  refine r_callb (P := 0 ≤ s ∧ s < v 33 1) (m := 67) (args := [.inr (.inr (some 0)), .inl s]) (n' := 95) (pc' := 5) (lo' := [some (.inr (.inr (some 0))), some (.inl s), none]) (st' := []) (I := .invokevirtual 67) (pc0 := 2) (len := 3) rfl rfl rfl (e_cl_isSecond hX hp_1) (fun h_2 => ?_) (fun h_2 => ?_)
  · show WV _ _ _ 5 _ _ _ _ _
    rw [if_pos h_2] at hQ
    refine r_ex 2 (pc' := 12) (lo' := [some (.inr (.inr (some 0))), some (.inl s), none]) (st' := [.inr (.inr (some 0))]) rfl ?_
    refine r_call (m := 72) (args := [.inr (.inr (some 0))]) (n' := 95) (pc' := 15) (lo' := [some (.inr (.inr (some 0))), some (.inl s), none]) (st' := []) (I := .invokevirtual 72) (pc0 := 12) (len := 3) rfl rfl rfl (e_cl_asItIs hX) ?_
    show WV _ _ _ 15 _ [.inr (.inr (some 79))] _ (cl_asItIs v) _
    have hX_3 : XI (cl_asItIs v) := i_cl_asItIs (v := v) hX
    refine r_ex 3 (pc' := 18) (lo' := [some (.inr (.inr (some 0))), some (.inl s), some (.inl s)]) (st' := []) rfl ?_
    exact l_cl_agree_18 301 (cl_asItIs v) s _ hX_3 (by first | assumption | omega | (unfold R32 at *; omega) | (unfold R64 at *; omega) | (simp only [R32, R64] at *; omega)) (by first | assumption | omega | (unfold R32 at *; omega) | (unfold R64 at *; omega) | (simp only [R32, R64] at *; omega)) hQ
  · show WV _ _ _ 5 _ _ _ _ _
    rw [if_neg h_2] at hQ
    refine r_ex 2 (pc' := 10) (lo' := [some (.inr (.inr (some 0))), some (.inl s), none]) (st' := [.inl (-2)]) rfl ?_
    refine r_ret (rr := some (.inl (-2))) (I := .ireturn) (pc0 := 10) (len := 1) rfl rfl ?_
    exact hQ hX 

theorem e_cl_agree {X : PX} {d b : Nat} {v : VS} {s : Int} (hX : XI v) (hp_a : R32 s) : EvV X (d + 1 + 1 + 1 + 1 + 1 + 1 + 1) 95 [.inr (.inr (some 0)), .inl s] b v (some (.inl (cl_agree v s).1)) b ((cl_agree v s).2) := EvV.of (w_cl_agree hX hp_a (fun _ => ⟨rfl, rfl, rfl⟩))

theorem i_cl_agree {v : VS} {s : Int} (hX : XI v) (hp_a : R32 s) : XI ((cl_agree v s).2) := by
  have q : WV (0, fun _ => 0, none) (0 + 1 + 1 + 1 + 1 + 1 + 1 + 1) 95 0 [some (.inr (.inr (some 0))), some (.inl s), none] [] 1 v (fun _ _ _ => XI ((cl_agree v s).2)) := w_cl_agree (X := (0, fun _ => 0, none)) (d := 0) (b := 1) hX hp_a (fun q => q)
  obtain ⟨_, _, _, _, _, _, _, q⟩ := q
  exact q

theorem o_cl_agree {rk : Nat} {v : VS} {s : Int} (hk : (rk < 0 ∨ 0 < rk) ∧ (rk < 67 ∨ 90 < rk) ∧ (rk < 105 ∨ 105 < rk)) : (cl_agree v s).2 rk = v rk := by
  unfold cl_agree
  by_cases hc_ : 0 ≤ s ∧ s < v 33 1
  · rw [if_pos hc_]
    all_goals (rw [o_cl_agree_18, o_cl_asItIs (by omega)])
  · rw [if_neg hc_]
    all_goals (show v rk = _)
    all_goals rfl

def cl_noon (v : VS) (h : Int) (w : Int) : Int × VS :=
  (if 0 < v 33 2 then (if 1 ≤ h ∧ h ≤ 99 then (if w < 0 then ((-2), v) else (if 3 < w then ((-2), v) else (if w = 3 then ((cl_timesOf79 (cl_asItIs v) h), (cl_asItIs v)) else (if w = 2 then (if (cl_latestOf79 (cl_asItIs v) h) = (-1) then ((-1), (cl_asItIs v)) else (if w = 1 then (((cl_asItIs v) 81 (((cl_latestOf79 (cl_asItIs v) h)).toNat)), (cl_asItIs v)) else (((cl_asItIs v) 80 (((cl_latestOf79 (cl_asItIs v) h)).toNat)), (cl_asItIs v)))) else (if (cl_earliestOf79 (cl_asItIs v) h) = (-1) then ((-1), (cl_asItIs v)) else (if w = 1 then (((cl_asItIs v) 81 (((cl_earliestOf79 (cl_asItIs v) h)).toNat)), (cl_asItIs v)) else (((cl_asItIs v) 80 (((cl_earliestOf79 (cl_asItIs v) h)).toNat)), (cl_asItIs v)))))))) else ((-2), v)) else ((-2), v))
theorem w_cl_noon {X : PX} {d b : Nat} {v : VS} {h : Int} {w : Int} (hX : XI v) (hp_a : R32 h) (hp_b : R32 w) {Q : Option PV → Nat → VS → Prop} (hQ : XI (cl_noon v h w).2 → Q (some (.inl (cl_noon v h w).1)) b (cl_noon v h w).2) : WV X (d + 1 + 1 + 1 + 1 + 1 + 1 + 1) 97 0 [some (.inr (.inr (some 0))), some (.inl h), some (.inl w), none, none] [] b v Q := by
  rw [cl_noon] at hQ
  refine r_ex 1 (pc' := 1) (lo' := [some (.inr (.inr (some 0))), some (.inl h), some (.inl w), none, none]) (st' := [.inr (.inr (some 0))]) rfl ?_
  have hb_1 : 0 ≤ v 33 2 ∧ v 33 2 ≤ 2001 := hX 33 2
  refine r_callb (P := 0 < v 33 2) (m := 71) (args := [.inr (.inr (some 0))]) (n' := 97) (pc' := 4) (lo' := [some (.inr (.inr (some 0))), some (.inl h), some (.inl w), none, none]) (st' := []) (I := .invokevirtual 71) (pc0 := 1) (len := 3) rfl rfl rfl (e_cl_hasBay hX) (fun h_1 => ?_) (fun h_1 => ?_)
  · show WV _ _ _ 4 _ _ _ _ _
    rw [if_pos h_1] at hQ
    refine r_ex 2 (pc' := 8) (lo' := [some (.inr (.inr (some 0))), some (.inl h), some (.inl w), none, none]) (st' := [.inl h]) rfl ?_
    have hp_2 : R32 h := (by first | assumption | omega | (unfold R32 at *; omega) | (unfold R64 at *; omega) | (simp only [R32, R64] at *; omega))
    refine r_callb (P := 1 ≤ h ∧ h ≤ 99) (m := 98) (args := [.inl h]) (n' := 97) (pc' := 11) (lo' := [some (.inr (.inr (some 0))), some (.inl h), some (.inl w), none, none]) (st' := []) (I := .invokestatic 98) (pc0 := 8) (len := 3) rfl rfl rfl (e_cl_isHour hX hp_2) (fun h_8 => ?_) (fun h_8 => ?_)
    · show WV _ _ _ 11 _ _ _ _ _
      rw [if_pos h_8] at hQ
      refine r_ex 2 (pc' := 15) (lo' := [some (.inr (.inr (some 0))), some (.inl h), some (.inl w), none, none]) (st' := [.inl w]) rfl ?_
      refine n_if_lt (pc0 := 15) (len := 3) (t := 23) rfl (by first | assumption | omega | (unfold R32 at *; omega) | (unfold R64 at *; omega) | (simp only [R32, R64] at *; omega)) (fun h_15 => ?_) (fun h_15 => ?_)
      · show WV _ _ _ 23 _ _ _ _ _
        rw [if_pos h_15] at hQ
        refine r_ex 1 (pc' := 25) (lo' := [some (.inr (.inr (some 0))), some (.inl h), some (.inl w), none, none]) (st' := [.inl (-2)]) rfl ?_
        refine r_ret (rr := some (.inl (-2))) (I := .ireturn) (pc0 := 25) (len := 1) rfl rfl ?_
        exact hQ hX 
      · show WV _ _ _ 18 _ _ _ _ _
        rw [if_neg h_15] at hQ
        refine r_ex 2 (pc' := 20) (lo' := [some (.inr (.inr (some 0))), some (.inl h), some (.inl w), none, none]) (st' := [.inl 3, .inl w]) rfl ?_
        refine n_ic_le (pc0 := 20) (len := 3) (t := 26) rfl (by first | assumption | omega | (unfold R32 at *; omega) | (unfold R64 at *; omega) | (simp only [R32, R64] at *; omega)) (by first | assumption | omega | (unfold R32 at *; omega) | (unfold R64 at *; omega) | (simp only [R32, R64] at *; omega)) (fun h_20 => ?_) (fun h_20 => ?_)
        · show WV _ _ _ 26 _ _ _ _ _
          rw [if_neg h_20] at hQ
          refine r_ex 1 (pc' := 27) (lo' := [some (.inr (.inr (some 0))), some (.inl h), some (.inl w), none, none]) (st' := [.inr (.inr (some 0))]) rfl ?_
          refine r_call (m := 72) (args := [.inr (.inr (some 0))]) (n' := 97) (pc' := 30) (lo' := [some (.inr (.inr (some 0))), some (.inl h), some (.inl w), none, none]) (st' := []) (I := .invokevirtual 72) (pc0 := 27) (len := 3) rfl rfl rfl (e_cl_asItIs hX) ?_
          show WV _ _ _ 30 _ [.inr (.inr (some 79))] _ (cl_asItIs v) _
          have hX_3 : XI (cl_asItIs v) := i_cl_asItIs (v := v) hX
          refine r_ex 3 (pc' := 33) (lo' := [some (.inr (.inr (some 0))), some (.inl h), some (.inl w), some (.inr (.inr (some 79))), none]) (st' := [.inl 3, .inl w]) rfl ?_
          refine n_ic_ne (pc0 := 33) (len := 3) (t := 42) rfl (by first | assumption | omega | (unfold R32 at *; omega) | (unfold R64 at *; omega) | (simp only [R32, R64] at *; omega)) (by first | assumption | omega | (unfold R32 at *; omega) | (unfold R64 at *; omega) | (simp only [R32, R64] at *; omega)) (fun h_33 => ?_) (fun h_33 => ?_)
          · show WV _ _ _ 42 _ _ _ _ _
            rw [if_neg h_33] at hQ
            refine r_ex 2 (pc' := 44) (lo' := [some (.inr (.inr (some 0))), some (.inl h), some (.inl w), some (.inr (.inr (some 79))), none]) (st' := [.inl 2, .inl w]) rfl ?_
            refine n_ic_ne (pc0 := 44) (len := 3) (t := 55) rfl (by first | assumption | omega | (unfold R32 at *; omega) | (unfold R64 at *; omega) | (simp only [R32, R64] at *; omega)) (by first | assumption | omega | (unfold R32 at *; omega) | (unfold R64 at *; omega) | (simp only [R32, R64] at *; omega)) (fun h_44 => ?_) (fun h_44 => ?_)
            · show WV _ _ _ 55 _ _ _ _ _
              rw [if_neg h_44] at hQ
              refine r_ex 2 (pc' := 57) (lo' := [some (.inr (.inr (some 0))), some (.inl h), some (.inl w), some (.inr (.inr (some 79))), none]) (st' := [.inl h, .inr (.inr (some 79))]) rfl ?_
              have hp_4 : R32 h := (by first | assumption | omega | (unfold R32 at *; omega) | (unfold R64 at *; omega) | (simp only [R32, R64] at *; omega))
              refine r_call (m := 101) (args := [.inr (.inr (some 79)), .inl h]) (n' := 97) (pc' := 60) (lo' := [some (.inr (.inr (some 0))), some (.inl h), some (.inl w), some (.inr (.inr (some 79))), none]) (st' := []) (I := .invokevirtual 101) (pc0 := 57) (len := 3) rfl rfl rfl (e_cl_earliestOf79 hX_3 hp_4) ?_
              show WV _ _ _ 60 _ [.inl (cl_earliestOf79 (cl_asItIs v) h)] _ _ _
              have hb_5 := n_cl_earliestOf79 (v := (cl_asItIs v)) (h := h) hX_3 hp_4
              refine r_ex 3 (pc' := 65) (lo' := [some (.inr (.inr (some 0))), some (.inl h), some (.inl w), some (.inr (.inr (some 79))), some (.inl (cl_earliestOf79 (cl_asItIs v) h))]) (st' := [.inl (-1), .inl (cl_earliestOf79 (cl_asItIs v) h)]) rfl ?_
              refine n_ic_ne (pc0 := 65) (len := 3) (t := 70) rfl (by first | assumption | omega | (unfold R32 at *; omega) | (unfold R64 at *; omega) | (simp only [R32, R64] at *; omega)) (by first | assumption | omega | (unfold R32 at *; omega) | (unfold R64 at *; omega) | (simp only [R32, R64] at *; omega)) (fun h_65 => ?_) (fun h_65 => ?_)
              · show WV _ _ _ 70 _ _ _ _ _
                rw [if_neg h_65] at hQ
                refine r_ex 2 (pc' := 72) (lo' := [some (.inr (.inr (some 0))), some (.inl h), some (.inl w), some (.inr (.inr (some 79))), some (.inl (cl_earliestOf79 (cl_asItIs v) h))]) (st' := [.inl 1, .inl w]) rfl ?_
                refine n_ic_ne (pc0 := 72) (len := 3) (t := 85) rfl (by first | assumption | omega | (unfold R32 at *; omega) | (unfold R64 at *; omega) | (simp only [R32, R64] at *; omega)) (by first | assumption | omega | (unfold R32 at *; omega) | (unfold R64 at *; omega) | (simp only [R32, R64] at *; omega)) (fun h_72 => ?_) (fun h_72 => ?_)
                · show WV _ _ _ 85 _ _ _ _ _
                  rw [if_neg h_72] at hQ
                  refine r_ex 3 (pc' := 91) (lo' := [some (.inr (.inr (some 0))), some (.inl h), some (.inl w), some (.inr (.inr (some 79))), some (.inl (cl_earliestOf79 (cl_asItIs v) h))]) (st' := [.inl (cl_earliestOf79 (cl_asItIs v) h), .inr (.inr (some 80))]) rfl ?_
                  refine r_iald2 (j := 0) (x := ((cl_asItIs v) 80 (((cl_earliestOf79 (cl_asItIs v) h)).toNat))) (pc' := 92) (pc0 := 91) (len := 1) rfl (s_80 _) (by first | assumption | omega | (unfold R32 at *; omega) | (unfold R64 at *; omega) | (simp only [R32, R64] at *; omega)) (by decide) rfl rfl ?_
                  have hb_6 : 0 ≤ ((cl_asItIs v) 80 (((cl_earliestOf79 (cl_asItIs v) h)).toNat)) ∧ ((cl_asItIs v) 80 (((cl_earliestOf79 (cl_asItIs v) h)).toNat)) ≤ 299 := hX_3 80 (((cl_earliestOf79 (cl_asItIs v) h)).toNat)
                  refine r_ret (rr := some (.inl ((cl_asItIs v) 80 (((cl_earliestOf79 (cl_asItIs v) h)).toNat)))) (I := .ireturn) (pc0 := 92) (len := 1) rfl rfl ?_
                  exact hQ hX_3 
                · show WV _ _ _ 75 _ _ _ _ _
                  rw [if_pos h_72] at hQ
                  refine r_ex 3 (pc' := 81) (lo' := [some (.inr (.inr (some 0))), some (.inl h), some (.inl w), some (.inr (.inr (some 79))), some (.inl (cl_earliestOf79 (cl_asItIs v) h))]) (st' := [.inl (cl_earliestOf79 (cl_asItIs v) h), .inr (.inr (some 81))]) rfl ?_
                  refine r_iald2 (j := 0) (x := ((cl_asItIs v) 81 (((cl_earliestOf79 (cl_asItIs v) h)).toNat))) (pc' := 82) (pc0 := 81) (len := 1) rfl (s_81 _) (by first | assumption | omega | (unfold R32 at *; omega) | (unfold R64 at *; omega) | (simp only [R32, R64] at *; omega)) (by decide) rfl rfl ?_
                  have hb_7 : 0 ≤ ((cl_asItIs v) 81 (((cl_earliestOf79 (cl_asItIs v) h)).toNat)) ∧ ((cl_asItIs v) 81 (((cl_earliestOf79 (cl_asItIs v) h)).toNat)) ≤ 8 := hX_3 81 (((cl_earliestOf79 (cl_asItIs v) h)).toNat)
                  refine r_ex 1 (pc' := 92) (lo' := [some (.inr (.inr (some 0))), some (.inl h), some (.inl w), some (.inr (.inr (some 79))), some (.inl (cl_earliestOf79 (cl_asItIs v) h))]) (st' := [.inl ((cl_asItIs v) 81 (((cl_earliestOf79 (cl_asItIs v) h)).toNat))]) rfl ?_
                  refine r_ret (rr := some (.inl ((cl_asItIs v) 81 (((cl_earliestOf79 (cl_asItIs v) h)).toNat)))) (I := .ireturn) (pc0 := 92) (len := 1) rfl rfl ?_
                  exact hQ hX_3 
              · show WV _ _ _ 68 _ _ _ _ _
                rw [if_pos h_65] at hQ
                refine r_ex 1 (pc' := 69) (lo' := [some (.inr (.inr (some 0))), some (.inl h), some (.inl w), some (.inr (.inr (some 79))), some (.inl (cl_earliestOf79 (cl_asItIs v) h))]) (st' := [.inl (-1)]) rfl ?_
                refine r_ret (rr := some (.inl (-1))) (I := .ireturn) (pc0 := 69) (len := 1) rfl rfl ?_
                exact hQ hX_3 
            · show WV _ _ _ 47 _ _ _ _ _
              rw [if_pos h_44] at hQ
              refine r_ex 2 (pc' := 49) (lo' := [some (.inr (.inr (some 0))), some (.inl h), some (.inl w), some (.inr (.inr (some 79))), none]) (st' := [.inl h, .inr (.inr (some 79))]) rfl ?_
              have hp_8 : R32 h := (by first | assumption | omega | (unfold R32 at *; omega) | (unfold R64 at *; omega) | (simp only [R32, R64] at *; omega))
              refine r_call (m := 100) (args := [.inr (.inr (some 79)), .inl h]) (n' := 97) (pc' := 52) (lo' := [some (.inr (.inr (some 0))), some (.inl h), some (.inl w), some (.inr (.inr (some 79))), none]) (st' := []) (I := .invokevirtual 100) (pc0 := 49) (len := 3) rfl rfl rfl (e_cl_latestOf79 hX_3 hp_8) ?_
              show WV _ _ _ 52 _ [.inl (cl_latestOf79 (cl_asItIs v) h)] _ _ _
              have hb_9 := n_cl_latestOf79 (v := (cl_asItIs v)) (h := h) hX_3 hp_8
              refine r_ex 4 (pc' := 65) (lo' := [some (.inr (.inr (some 0))), some (.inl h), some (.inl w), some (.inr (.inr (some 79))), some (.inl (cl_latestOf79 (cl_asItIs v) h))]) (st' := [.inl (-1), .inl (cl_latestOf79 (cl_asItIs v) h)]) rfl ?_
              refine n_ic_ne (pc0 := 65) (len := 3) (t := 70) rfl (by first | assumption | omega | (unfold R32 at *; omega) | (unfold R64 at *; omega) | (simp only [R32, R64] at *; omega)) (by first | assumption | omega | (unfold R32 at *; omega) | (unfold R64 at *; omega) | (simp only [R32, R64] at *; omega)) (fun h_65 => ?_) (fun h_65 => ?_)
              · show WV _ _ _ 70 _ _ _ _ _
                rw [if_neg h_65] at hQ
                refine r_ex 2 (pc' := 72) (lo' := [some (.inr (.inr (some 0))), some (.inl h), some (.inl w), some (.inr (.inr (some 79))), some (.inl (cl_latestOf79 (cl_asItIs v) h))]) (st' := [.inl 1, .inl w]) rfl ?_
                refine n_ic_ne (pc0 := 72) (len := 3) (t := 85) rfl (by first | assumption | omega | (unfold R32 at *; omega) | (unfold R64 at *; omega) | (simp only [R32, R64] at *; omega)) (by first | assumption | omega | (unfold R32 at *; omega) | (unfold R64 at *; omega) | (simp only [R32, R64] at *; omega)) (fun h_72 => ?_) (fun h_72 => ?_)
                · show WV _ _ _ 85 _ _ _ _ _
                  rw [if_neg h_72] at hQ
                  refine r_ex 3 (pc' := 91) (lo' := [some (.inr (.inr (some 0))), some (.inl h), some (.inl w), some (.inr (.inr (some 79))), some (.inl (cl_latestOf79 (cl_asItIs v) h))]) (st' := [.inl (cl_latestOf79 (cl_asItIs v) h), .inr (.inr (some 80))]) rfl ?_
                  refine r_iald2 (j := 0) (x := ((cl_asItIs v) 80 (((cl_latestOf79 (cl_asItIs v) h)).toNat))) (pc' := 92) (pc0 := 91) (len := 1) rfl (s_80 _) (by first | assumption | omega | (unfold R32 at *; omega) | (unfold R64 at *; omega) | (simp only [R32, R64] at *; omega)) (by decide) rfl rfl ?_
                  have hb_10 : 0 ≤ ((cl_asItIs v) 80 (((cl_latestOf79 (cl_asItIs v) h)).toNat)) ∧ ((cl_asItIs v) 80 (((cl_latestOf79 (cl_asItIs v) h)).toNat)) ≤ 299 := hX_3 80 (((cl_latestOf79 (cl_asItIs v) h)).toNat)
                  refine r_ret (rr := some (.inl ((cl_asItIs v) 80 (((cl_latestOf79 (cl_asItIs v) h)).toNat)))) (I := .ireturn) (pc0 := 92) (len := 1) rfl rfl ?_
                  exact hQ hX_3 
                · show WV _ _ _ 75 _ _ _ _ _
                  rw [if_pos h_72] at hQ
                  refine r_ex 3 (pc' := 81) (lo' := [some (.inr (.inr (some 0))), some (.inl h), some (.inl w), some (.inr (.inr (some 79))), some (.inl (cl_latestOf79 (cl_asItIs v) h))]) (st' := [.inl (cl_latestOf79 (cl_asItIs v) h), .inr (.inr (some 81))]) rfl ?_
                  refine r_iald2 (j := 0) (x := ((cl_asItIs v) 81 (((cl_latestOf79 (cl_asItIs v) h)).toNat))) (pc' := 82) (pc0 := 81) (len := 1) rfl (s_81 _) (by first | assumption | omega | (unfold R32 at *; omega) | (unfold R64 at *; omega) | (simp only [R32, R64] at *; omega)) (by decide) rfl rfl ?_
                  have hb_11 : 0 ≤ ((cl_asItIs v) 81 (((cl_latestOf79 (cl_asItIs v) h)).toNat)) ∧ ((cl_asItIs v) 81 (((cl_latestOf79 (cl_asItIs v) h)).toNat)) ≤ 8 := hX_3 81 (((cl_latestOf79 (cl_asItIs v) h)).toNat)
                  refine r_ex 1 (pc' := 92) (lo' := [some (.inr (.inr (some 0))), some (.inl h), some (.inl w), some (.inr (.inr (some 79))), some (.inl (cl_latestOf79 (cl_asItIs v) h))]) (st' := [.inl ((cl_asItIs v) 81 (((cl_latestOf79 (cl_asItIs v) h)).toNat))]) rfl ?_
                  refine r_ret (rr := some (.inl ((cl_asItIs v) 81 (((cl_latestOf79 (cl_asItIs v) h)).toNat)))) (I := .ireturn) (pc0 := 92) (len := 1) rfl rfl ?_
                  exact hQ hX_3 
              · show WV _ _ _ 68 _ _ _ _ _
                rw [if_pos h_65] at hQ
                refine r_ex 1 (pc' := 69) (lo' := [some (.inr (.inr (some 0))), some (.inl h), some (.inl w), some (.inr (.inr (some 79))), some (.inl (cl_latestOf79 (cl_asItIs v) h))]) (st' := [.inl (-1)]) rfl ?_
                refine r_ret (rr := some (.inl (-1))) (I := .ireturn) (pc0 := 69) (len := 1) rfl rfl ?_
                exact hQ hX_3 
          · show WV _ _ _ 36 _ _ _ _ _
            rw [if_pos h_33] at hQ
            refine r_ex 2 (pc' := 38) (lo' := [some (.inr (.inr (some 0))), some (.inl h), some (.inl w), some (.inr (.inr (some 79))), none]) (st' := [.inl h, .inr (.inr (some 79))]) rfl ?_
            have hp_12 : R32 h := (by first | assumption | omega | (unfold R32 at *; omega) | (unfold R64 at *; omega) | (simp only [R32, R64] at *; omega))
            refine r_call (m := 99) (args := [.inr (.inr (some 79)), .inl h]) (n' := 97) (pc' := 41) (lo' := [some (.inr (.inr (some 0))), some (.inl h), some (.inl w), some (.inr (.inr (some 79))), none]) (st' := []) (I := .invokevirtual 99) (pc0 := 38) (len := 3) rfl rfl rfl (e_cl_timesOf79 hX_3 hp_12) ?_
            show WV _ _ _ 41 _ [.inl (cl_timesOf79 (cl_asItIs v) h)] _ _ _
            have hb_13 := n_cl_timesOf79 (v := (cl_asItIs v)) (h := h) hX_3 hp_12
            refine r_ret (rr := some (.inl (cl_timesOf79 (cl_asItIs v) h))) (I := .ireturn) (pc0 := 41) (len := 1) rfl rfl ?_
            exact hQ hX_3 
        · show WV _ _ _ 23 _ _ _ _ _
          rw [if_pos h_20] at hQ
          refine r_ex 1 (pc' := 25) (lo' := [some (.inr (.inr (some 0))), some (.inl h), some (.inl w), none, none]) (st' := [.inl (-2)]) rfl ?_
          refine r_ret (rr := some (.inl (-2))) (I := .ireturn) (pc0 := 25) (len := 1) rfl rfl ?_
          exact hQ hX 
    · show WV _ _ _ 11 _ _ _ _ _
      rw [if_neg h_8] at hQ
      refine r_ex 2 (pc' := 25) (lo' := [some (.inr (.inr (some 0))), some (.inl h), some (.inl w), none, none]) (st' := [.inl (-2)]) rfl ?_
      refine r_ret (rr := some (.inl (-2))) (I := .ireturn) (pc0 := 25) (len := 1) rfl rfl ?_
      exact hQ hX 
  · show WV _ _ _ 4 _ _ _ _ _
    rw [if_neg h_1] at hQ
    refine r_ex 2 (pc' := 25) (lo' := [some (.inr (.inr (some 0))), some (.inl h), some (.inl w), none, none]) (st' := [.inl (-2)]) rfl ?_
    refine r_ret (rr := some (.inl (-2))) (I := .ireturn) (pc0 := 25) (len := 1) rfl rfl ?_
    exact hQ hX 

theorem e_cl_noon {X : PX} {d b : Nat} {v : VS} {h : Int} {w : Int} (hX : XI v) (hp_a : R32 h) (hp_b : R32 w) : EvV X (d + 1 + 1 + 1 + 1 + 1 + 1 + 1) 97 [.inr (.inr (some 0)), .inl h, .inl w] b v (some (.inl (cl_noon v h w).1)) b ((cl_noon v h w).2) := EvV.of (w_cl_noon hX hp_a hp_b (fun _ => ⟨rfl, rfl, rfl⟩))

theorem i_cl_noon {v : VS} {h : Int} {w : Int} (hX : XI v) (hp_a : R32 h) (hp_b : R32 w) : XI ((cl_noon v h w).2) := by
  have q : WV (0, fun _ => 0, none) (0 + 1 + 1 + 1 + 1 + 1 + 1 + 1) 97 0 [some (.inr (.inr (some 0))), some (.inl h), some (.inl w), none, none] [] 1 v (fun _ _ _ => XI ((cl_noon v h w).2)) := w_cl_noon (X := (0, fun _ => 0, none)) (d := 0) (b := 1) hX hp_a hp_b (fun q => q)
  obtain ⟨_, _, _, _, _, _, _, q⟩ := q
  exact q

theorem o_cl_noon {rk : Nat} {v : VS} {h : Int} {w : Int} (hk : (rk < 0 ∨ 0 < rk) ∧ (rk < 67 ∨ 90 < rk) ∧ (rk < 105 ∨ 105 < rk)) : (cl_noon v h w).2 rk = v rk := by
  unfold cl_noon
  by_cases hc_ : 0 < v 33 2
  · rw [if_pos hc_]
    by_cases hc_ : 1 ≤ h ∧ h ≤ 99
    · rw [if_pos hc_]
      by_cases hc_ : w < 0
      · rw [if_pos hc_]
        all_goals (show v rk = _)
        all_goals rfl
      · rw [if_neg hc_]
        by_cases hc_ : 3 < w
        · rw [if_pos hc_]
          all_goals (show v rk = _)
          all_goals rfl
        · rw [if_neg hc_]
          by_cases hc_ : w = 3
          · rw [if_pos hc_]
            all_goals (show (cl_asItIs v) rk = _)
            all_goals (rw [o_cl_asItIs (by omega)])
          · rw [if_neg hc_]
            by_cases hc_ : w = 2
            · rw [if_pos hc_]
              by_cases hc_ : (cl_latestOf79 (cl_asItIs v) h) = (-1)
              · rw [if_pos hc_]
                all_goals (show (cl_asItIs v) rk = _)
                all_goals (rw [o_cl_asItIs (by omega)])
              · rw [if_neg hc_]
                by_cases hc_ : w = 1
                · rw [if_pos hc_]
                  all_goals (show (cl_asItIs v) rk = _)
                  all_goals (rw [o_cl_asItIs (by omega)])
                · rw [if_neg hc_]
                  all_goals (show (cl_asItIs v) rk = _)
                  all_goals (rw [o_cl_asItIs (by omega)])
            · rw [if_neg hc_]
              by_cases hc_ : (cl_earliestOf79 (cl_asItIs v) h) = (-1)
              · rw [if_pos hc_]
                all_goals (show (cl_asItIs v) rk = _)
                all_goals (rw [o_cl_asItIs (by omega)])
              · rw [if_neg hc_]
                by_cases hc_ : w = 1
                · rw [if_pos hc_]
                  all_goals (show (cl_asItIs v) rk = _)
                  all_goals (rw [o_cl_asItIs (by omega)])
                · rw [if_neg hc_]
                  all_goals (show (cl_asItIs v) rk = _)
                  all_goals (rw [o_cl_asItIs (by omega)])
    · rw [if_neg hc_]
      all_goals (show v rk = _)
      all_goals rfl
  · rw [if_neg hc_]
    all_goals (show v rk = _)
    all_goals rfl

def cl_ship (v : VS) (c : Int) (o : Int) (s : Int) : Int × VS :=
  (if (0 ≤ c ∧ c < v 33 0) ∧ (0 ≤ o ∧ o < v 33 0) ∧ c ≠ o then (if 0 ≤ s ∧ s < v 33 1 then (((cl_struckLast (cl_asItIs v) c s) - (cl_struckLast (cl_asItIs v) o s)), (cl_asItIs v)) else ((-2000000), v)) else ((-2000000), v))
theorem w_cl_ship {X : PX} {d b : Nat} {v : VS} {c : Int} {o : Int} {s : Int} (hX : XI v) (hp_a : R32 c) (hp_b : R32 o) (hp_c : R32 s) {Q : Option PV → Nat → VS → Prop} (hQ : XI (cl_ship v c o s).2 → Q (some (.inl (cl_ship v c o s).1)) b (cl_ship v c o s).2) : WV X (d + 1 + 1 + 1 + 1 + 1 + 1 + 1) 102 0 [some (.inr (.inr (some 0))), some (.inl c), some (.inl o), some (.inl s)] [] b v Q := by
  rw [cl_ship] at hQ
  refine r_ex 3 (pc' := 3) (lo' := [some (.inr (.inr (some 0))), some (.inl c), some (.inl o), some (.inl s)]) (st' := [.inl o, .inl c, .inr (.inr (some 0))]) rfl ?_
  have hp_1 : R32 c := (by first | assumption | omega | (unfold R32 at *; omega) | (unfold R64 at *; omega) | (simp only [R32, R64] at *; omega))
  have hp_2 : R32 o := (by first | assumption | omega | (unfold R32 at *; omega) | (unfold R64 at *; omega) | (simp only [R32, R64] at *; omega))
  have hb_3 : 0 ≤ v 33 0 ∧ v 33 0 ≤ 9 := hX 33 0
  refine r_callb (P := (0 ≤ c ∧ c < v 33 0) ∧ (0 ≤ o ∧ o < v 33 0) ∧ c ≠ o) (m := 103) (args := [.inr (.inr (some 0)), .inl c, .inl o]) (n' := 102) (pc' := 6) (lo' := [some (.inr (.inr (some 0))), some (.inl c), some (.inl o), some (.inl s)]) (st' := []) (I := .invokevirtual 103) (pc0 := 3) (len := 3) rfl rfl rfl (e_cl_areTwo hX hp_1 hp_2) (fun h_3 => ?_) (fun h_3 => ?_)
  · show WV _ _ _ 6 _ _ _ _ _
    rw [if_pos h_3] at hQ
    refine r_ex 3 (pc' := 11) (lo' := [some (.inr (.inr (some 0))), some (.inl c), some (.inl o), some (.inl s)]) (st' := [.inl s, .inr (.inr (some 0))]) rfl ?_
    have hp_4 : R32 s := (by first | assumption | omega | (unfold R32 at *; omega) | (unfold R64 at *; omega) | (simp only [R32, R64] at *; omega))
    have hb_5 : 0 ≤ v 33 1 ∧ v 33 1 ≤ 300 := hX 33 1
    refine r_callb (P := 0 ≤ s ∧ s < v 33 1) (m := 67) (args := [.inr (.inr (some 0)), .inl s]) (n' := 102) (pc' := 14) (lo' := [some (.inr (.inr (some 0))), some (.inl c), some (.inl o), some (.inl s)]) (st' := []) (I := .invokevirtual 67) (pc0 := 11) (len := 3) rfl rfl rfl (e_cl_isSecond hX hp_4) (fun h_11 => ?_) (fun h_11 => ?_)
    · show WV _ _ _ 14 _ _ _ _ _
      rw [if_pos h_11] at hQ
      refine r_ex 2 (pc' := 21) (lo' := [some (.inr (.inr (some 0))), some (.inl c), some (.inl o), some (.inl s)]) (st' := [.inr (.inr (some 0))]) rfl ?_
      refine r_call (m := 72) (args := [.inr (.inr (some 0))]) (n' := 102) (pc' := 24) (lo' := [some (.inr (.inr (some 0))), some (.inl c), some (.inl o), some (.inl s)]) (st' := []) (I := .invokevirtual 72) (pc0 := 21) (len := 3) rfl rfl rfl (e_cl_asItIs hX) ?_
      show WV _ _ _ 24 _ [.inr (.inr (some 79))] _ (cl_asItIs v) _
      have hX_6 : XI (cl_asItIs v) := i_cl_asItIs (v := v) hX
      refine r_ex 4 (pc' := 28) (lo' := [some (.inr (.inr (some 0))), some (.inl c), some (.inl o), some (.inl s)]) (st' := [.inl s, .inl c, .inr (.inr (some 0))]) rfl ?_
      have hp_7 : R32 c := (by first | assumption | omega | (unfold R32 at *; omega) | (unfold R64 at *; omega) | (simp only [R32, R64] at *; omega))
      have hp_8 : R32 s := (by first | assumption | omega | (unfold R32 at *; omega) | (unfold R64 at *; omega) | (simp only [R32, R64] at *; omega))
      refine r_call (m := 90) (args := [.inr (.inr (some 0)), .inl c, .inl s]) (n' := 102) (pc' := 31) (lo' := [some (.inr (.inr (some 0))), some (.inl c), some (.inl o), some (.inl s)]) (st' := []) (I := .invokevirtual 90) (pc0 := 28) (len := 3) rfl rfl rfl (e_cl_struckLast hX_6 hp_7 hp_8) ?_
      show WV _ _ _ 31 _ [.inl (cl_struckLast (cl_asItIs v) c s)] _ _ _
      have hb_9 := n_cl_struckLast (v := (cl_asItIs v)) (c := c) (s := s) hX_6 hp_7 hp_8
      refine r_ex 3 (pc' := 34) (lo' := [some (.inr (.inr (some 0))), some (.inl c), some (.inl o), some (.inl s)]) (st' := [.inl s, .inl o, .inr (.inr (some 0)), .inl (cl_struckLast (cl_asItIs v) c s)]) rfl ?_
      have hp_10 : R32 o := (by first | assumption | omega | (unfold R32 at *; omega) | (unfold R64 at *; omega) | (simp only [R32, R64] at *; omega))
      have hp_11 : R32 s := (by first | assumption | omega | (unfold R32 at *; omega) | (unfold R64 at *; omega) | (simp only [R32, R64] at *; omega))
      refine r_call (m := 90) (args := [.inr (.inr (some 0)), .inl o, .inl s]) (n' := 102) (pc' := 37) (lo' := [some (.inr (.inr (some 0))), some (.inl c), some (.inl o), some (.inl s)]) (st' := [.inl (cl_struckLast (cl_asItIs v) c s)]) (I := .invokevirtual 90) (pc0 := 34) (len := 3) rfl rfl rfl (e_cl_struckLast hX_6 hp_10 hp_11) ?_
      show WV _ _ _ 37 _ [.inl (cl_struckLast (cl_asItIs v) o s), .inl (cl_struckLast (cl_asItIs v) c s)] _ _ _
      have hb_12 := n_cl_struckLast (v := (cl_asItIs v)) (c := o) (s := s) hX_6 hp_10 hp_11
      refine r_ex 1 (pc' := 38) (lo' := [some (.inr (.inr (some 0))), some (.inl c), some (.inl o), some (.inl s)]) (st' := [.inl ((cl_struckLast (cl_asItIs v) c s) - (cl_struckLast (cl_asItIs v) o s))]) rfl ?_
      refine r_ret (rr := some (.inl ((cl_struckLast (cl_asItIs v) c s) - (cl_struckLast (cl_asItIs v) o s)))) (I := .ireturn) (pc0 := 38) (len := 1) rfl rfl ?_
      exact hQ hX_6 
    · show WV _ _ _ 14 _ _ _ _ _
      rw [if_neg h_11] at hQ
      refine r_ex 2 (pc' := 19) (lo' := [some (.inr (.inr (some 0))), some (.inl c), some (.inl o), some (.inl s)]) (st' := [.inl (-2000000)]) rfl ?_
      refine r_ret (rr := some (.inl (-2000000))) (I := .ireturn) (pc0 := 19) (len := 1) rfl rfl ?_
      exact hQ hX 
  · show WV _ _ _ 6 _ _ _ _ _
    rw [if_neg h_3] at hQ
    refine r_ex 2 (pc' := 19) (lo' := [some (.inr (.inr (some 0))), some (.inl c), some (.inl o), some (.inl s)]) (st' := [.inl (-2000000)]) rfl ?_
    refine r_ret (rr := some (.inl (-2000000))) (I := .ireturn) (pc0 := 19) (len := 1) rfl rfl ?_
    exact hQ hX 

theorem e_cl_ship {X : PX} {d b : Nat} {v : VS} {c : Int} {o : Int} {s : Int} (hX : XI v) (hp_a : R32 c) (hp_b : R32 o) (hp_c : R32 s) : EvV X (d + 1 + 1 + 1 + 1 + 1 + 1 + 1) 102 [.inr (.inr (some 0)), .inl c, .inl o, .inl s] b v (some (.inl (cl_ship v c o s).1)) b ((cl_ship v c o s).2) := EvV.of (w_cl_ship hX hp_a hp_b hp_c (fun _ => ⟨rfl, rfl, rfl⟩))

theorem i_cl_ship {v : VS} {c : Int} {o : Int} {s : Int} (hX : XI v) (hp_a : R32 c) (hp_b : R32 o) (hp_c : R32 s) : XI ((cl_ship v c o s).2) := by
  have q : WV (0, fun _ => 0, none) (0 + 1 + 1 + 1 + 1 + 1 + 1 + 1) 102 0 [some (.inr (.inr (some 0))), some (.inl c), some (.inl o), some (.inl s)] [] 1 v (fun _ _ _ => XI ((cl_ship v c o s).2)) := w_cl_ship (X := (0, fun _ => 0, none)) (d := 0) (b := 1) hX hp_a hp_b hp_c (fun q => q)
  obtain ⟨_, _, _, _, _, _, _, q⟩ := q
  exact q

theorem o_cl_ship {rk : Nat} {v : VS} {c : Int} {o : Int} {s : Int} (hk : (rk < 0 ∨ 0 < rk) ∧ (rk < 67 ∨ 90 < rk) ∧ (rk < 105 ∨ 105 < rk)) : (cl_ship v c o s).2 rk = v rk := by
  unfold cl_ship
  by_cases hc_ : (0 ≤ c ∧ c < v 33 0) ∧ (0 ≤ o ∧ o < v 33 0) ∧ c ≠ o
  · rw [if_pos hc_]
    by_cases hc_ : 0 ≤ s ∧ s < v 33 1
    · rw [if_pos hc_]
      all_goals (show (cl_asItIs v) rk = _)
      all_goals (rw [o_cl_asItIs (by omega)])
    · rw [if_neg hc_]
      all_goals (show v rk = _)
      all_goals rfl
  · rw [if_neg hc_]
    all_goals (show v rk = _)
    all_goals rfl

def cl_quiet (v : VS)  : Int × VS :=
  (if 0 < v 33 2 then ((cl_latest79 (cl_asItIs v)), (cl_asItIs v)) else ((-2), v))
theorem w_cl_quiet {X : PX} {d b : Nat} {v : VS}  (hX : XI v)  {Q : Option PV → Nat → VS → Prop} (hQ : XI (cl_quiet v).2 → Q (some (.inl (cl_quiet v).1)) b (cl_quiet v).2) : WV X (d + 1 + 1 + 1 + 1 + 1 + 1 + 1) 104 0 [some (.inr (.inr (some 0)))] [] b v Q := by
  rw [cl_quiet] at hQ
  refine r_ex 1 (pc' := 1) (lo' := [some (.inr (.inr (some 0)))]) (st' := [.inr (.inr (some 0))]) rfl ?_
  have hb_1 : 0 ≤ v 33 2 ∧ v 33 2 ≤ 2001 := hX 33 2
  refine r_callb (P := 0 < v 33 2) (m := 71) (args := [.inr (.inr (some 0))]) (n' := 104) (pc' := 4) (lo' := [some (.inr (.inr (some 0)))]) (st' := []) (I := .invokevirtual 71) (pc0 := 1) (len := 3) rfl rfl rfl (e_cl_hasBay hX) (fun h_1 => ?_) (fun h_1 => ?_)
  · show WV _ _ _ 4 _ _ _ _ _
    rw [if_pos h_1] at hQ
    refine r_ex 2 (pc' := 8) (lo' := [some (.inr (.inr (some 0)))]) (st' := [.inr (.inr (some 0))]) rfl ?_
    refine r_call (m := 72) (args := [.inr (.inr (some 0))]) (n' := 104) (pc' := 11) (lo' := [some (.inr (.inr (some 0)))]) (st' := []) (I := .invokevirtual 72) (pc0 := 8) (len := 3) rfl rfl rfl (e_cl_asItIs hX) ?_
    show WV _ _ _ 11 _ [.inr (.inr (some 79))] _ (cl_asItIs v) _
    have hX_2 : XI (cl_asItIs v) := i_cl_asItIs (v := v) hX
    refine r_call (m := 105) (args := [.inr (.inr (some 79))]) (n' := 104) (pc' := 14) (lo' := [some (.inr (.inr (some 0)))]) (st' := []) (I := .invokevirtual 105) (pc0 := 11) (len := 3) rfl rfl rfl (e_cl_latest79 hX_2) ?_
    show WV _ _ _ 14 _ [.inl (cl_latest79 (cl_asItIs v))] _ _ _
    have hb_3 := n_cl_latest79 (v := (cl_asItIs v)) hX_2
    refine r_ex 1 (pc' := 19) (lo' := [some (.inr (.inr (some 0)))]) (st' := [.inl (cl_latest79 (cl_asItIs v))]) rfl ?_
    refine r_ret (rr := some (.inl (cl_latest79 (cl_asItIs v)))) (I := .ireturn) (pc0 := 19) (len := 1) rfl rfl ?_
    exact hQ hX_2 
  · show WV _ _ _ 4 _ _ _ _ _
    rw [if_neg h_1] at hQ
    refine r_ex 2 (pc' := 19) (lo' := [some (.inr (.inr (some 0)))]) (st' := [.inl (-2)]) rfl ?_
    refine r_ret (rr := some (.inl (-2))) (I := .ireturn) (pc0 := 19) (len := 1) rfl rfl ?_
    exact hQ hX 

theorem e_cl_quiet {X : PX} {d b : Nat} {v : VS}  (hX : XI v)  : EvV X (d + 1 + 1 + 1 + 1 + 1 + 1 + 1) 104 [.inr (.inr (some 0))] b v (some (.inl (cl_quiet v).1)) b ((cl_quiet v).2) := EvV.of (w_cl_quiet hX  (fun _ => ⟨rfl, rfl, rfl⟩))

theorem i_cl_quiet {v : VS}  (hX : XI v)  : XI ((cl_quiet v).2) := by
  have q : WV (0, fun _ => 0, none) (0 + 1 + 1 + 1 + 1 + 1 + 1 + 1) 104 0 [some (.inr (.inr (some 0)))] [] 1 v (fun _ _ _ => XI ((cl_quiet v).2)) := w_cl_quiet (X := (0, fun _ => 0, none)) (d := 0) (b := 1) hX  (fun q => q)
  obtain ⟨_, _, _, _, _, _, _, q⟩ := q
  exact q

theorem o_cl_quiet {rk : Nat} {v : VS}  (hk : (rk < 0 ∨ 0 < rk) ∧ (rk < 67 ∨ 90 < rk) ∧ (rk < 105 ∨ 105 < rk)) : (cl_quiet v ).2 rk = v rk := by
  unfold cl_quiet
  by_cases hc_ : 0 < v 33 2
  · rw [if_pos hc_]
    all_goals (show (cl_asItIs v) rk = _)
    all_goals (rw [o_cl_asItIs (by omega)])
  · rw [if_neg hc_]
    all_goals (show v rk = _)
    all_goals rfl
