/-! small methods of the class, by program -/
def cl_isChurch (v : VS) (c : Int) : Int :=
  (if c < 0 then 0 else (if c < (v 33 0) then 1 else 0))
theorem w_cl_isChurch {X : PX} {d b : Nat} {v : VS} {c : Int} (hX : XI v) (hp_a : R32 c) {Q : Option PV → Nat → VS → Prop} (hQ : Q (some (.inl (cl_isChurch v c))) b v) : WV X d 62 0 [some (.inr (.inr (some 0))), some (.inl c)] [] b v Q := by
  rw [cl_isChurch] at hQ
  refine r_ex 1 (pc' := 1) (lo' := [some (.inr (.inr (some 0))), some (.inl c)]) (st' := [.inl c]) rfl ?_
  refine n_if_lt (pc0 := 1) (len := 3) (t := 19) rfl (by first | assumption | omega | (unfold R32 at *; omega) | (unfold R64 at *; omega) | (simp only [R32, R64] at *; omega)) (fun h_1 => ?_) (fun h_1 => ?_)
  · show WV _ _ _ 19 _ _ _ _ _
    rw [if_pos h_1] at hQ
    refine r_ex 1 (pc' := 20) (lo' := [some (.inr (.inr (some 0))), some (.inl c)]) (st' := [.inl 0]) rfl ?_
    refine r_ret (rr := some (.inl 0)) (I := .ireturn) (pc0 := 20) (len := 1) rfl rfl ?_
    exact hQ 
  · show WV _ _ _ 4 _ _ _ _ _
    rw [if_neg h_1] at hQ
    refine r_ex 4 (pc' := 12) (lo' := [some (.inr (.inr (some 0))), some (.inl c)]) (st' := [.inl (v 33 0), .inl c]) rfl ?_
    have hb_1 : 0 ≤ (v 33 0) ∧ (v 33 0) ≤ 9 := hX 33 0
    refine n_ic_ge (pc0 := 12) (len := 3) (t := 19) rfl (by first | assumption | omega | (unfold R32 at *; omega) | (unfold R64 at *; omega) | (simp only [R32, R64] at *; omega)) (by first | assumption | omega | (unfold R32 at *; omega) | (unfold R64 at *; omega) | (simp only [R32, R64] at *; omega)) (fun h_12 => ?_) (fun h_12 => ?_)
    · show WV _ _ _ 19 _ _ _ _ _
      rw [if_neg h_12] at hQ
      refine r_ex 1 (pc' := 20) (lo' := [some (.inr (.inr (some 0))), some (.inl c)]) (st' := [.inl 0]) rfl ?_
      refine r_ret (rr := some (.inl 0)) (I := .ireturn) (pc0 := 20) (len := 1) rfl rfl ?_
      exact hQ 
    · show WV _ _ _ 15 _ _ _ _ _
      rw [if_pos h_12] at hQ
      refine r_ex 2 (pc' := 20) (lo' := [some (.inr (.inr (some 0))), some (.inl c)]) (st' := [.inl 1]) rfl ?_
      refine r_ret (rr := some (.inl 1)) (I := .ireturn) (pc0 := 20) (len := 1) rfl rfl ?_
      exact hQ 

theorem q_cl_isChurch {X : PX} {d b : Nat} {v : VS} {c : Int} (hX : XI v) (hp_a : R32 c) : EvV X d 62 [.inr (.inr (some 0)), .inl c] b v (some (.inl (cl_isChurch v c))) b v := EvV.of (w_cl_isChurch hX hp_a (⟨rfl, rfl, rfl⟩))

theorem p_cl_isChurch {v : VS} {c : Int} : (cl_isChurch v c) = (if 0 ≤ c ∧ c < v 33 0 then 1 else 0) := by
  unfold cl_isChurch
  repeat' split
  all_goals omega

theorem e_cl_isChurch {X : PX} {d b : Nat} {v : VS} {c : Int} (hX : XI v) (hp_a : R32 c) : EvV X d 62 [.inr (.inr (some 0)), .inl c] b v (some (.inl (if 0 ≤ c ∧ c < v 33 0 then 1 else 0))) b v := by
  rw [← p_cl_isChurch]
  exact q_cl_isChurch hX hp_a

def cl_isSecond (v : VS) (c : Int) : Int :=
  (if c < 0 then 0 else (if c < (v 33 1) then 1 else 0))
theorem w_cl_isSecond {X : PX} {d b : Nat} {v : VS} {c : Int} (hX : XI v) (hp_a : R32 c) {Q : Option PV → Nat → VS → Prop} (hQ : Q (some (.inl (cl_isSecond v c))) b v) : WV X d 67 0 [some (.inr (.inr (some 0))), some (.inl c)] [] b v Q := by
  rw [cl_isSecond] at hQ
  refine r_ex 1 (pc' := 1) (lo' := [some (.inr (.inr (some 0))), some (.inl c)]) (st' := [.inl c]) rfl ?_
  refine n_if_lt (pc0 := 1) (len := 3) (t := 19) rfl (by first | assumption | omega | (unfold R32 at *; omega) | (unfold R64 at *; omega) | (simp only [R32, R64] at *; omega)) (fun h_1 => ?_) (fun h_1 => ?_)
  · show WV _ _ _ 19 _ _ _ _ _
    rw [if_pos h_1] at hQ
    refine r_ex 1 (pc' := 20) (lo' := [some (.inr (.inr (some 0))), some (.inl c)]) (st' := [.inl 0]) rfl ?_
    refine r_ret (rr := some (.inl 0)) (I := .ireturn) (pc0 := 20) (len := 1) rfl rfl ?_
    exact hQ 
  · show WV _ _ _ 4 _ _ _ _ _
    rw [if_neg h_1] at hQ
    refine r_ex 4 (pc' := 12) (lo' := [some (.inr (.inr (some 0))), some (.inl c)]) (st' := [.inl (v 33 1), .inl c]) rfl ?_
    have hb_1 : 0 ≤ (v 33 1) ∧ (v 33 1) ≤ 300 := hX 33 1
    refine n_ic_ge (pc0 := 12) (len := 3) (t := 19) rfl (by first | assumption | omega | (unfold R32 at *; omega) | (unfold R64 at *; omega) | (simp only [R32, R64] at *; omega)) (by first | assumption | omega | (unfold R32 at *; omega) | (unfold R64 at *; omega) | (simp only [R32, R64] at *; omega)) (fun h_12 => ?_) (fun h_12 => ?_)
    · show WV _ _ _ 19 _ _ _ _ _
      rw [if_neg h_12] at hQ
      refine r_ex 1 (pc' := 20) (lo' := [some (.inr (.inr (some 0))), some (.inl c)]) (st' := [.inl 0]) rfl ?_
      refine r_ret (rr := some (.inl 0)) (I := .ireturn) (pc0 := 20) (len := 1) rfl rfl ?_
      exact hQ 
    · show WV _ _ _ 15 _ _ _ _ _
      rw [if_pos h_12] at hQ
      refine r_ex 2 (pc' := 20) (lo' := [some (.inr (.inr (some 0))), some (.inl c)]) (st' := [.inl 1]) rfl ?_
      refine r_ret (rr := some (.inl 1)) (I := .ireturn) (pc0 := 20) (len := 1) rfl rfl ?_
      exact hQ 

theorem q_cl_isSecond {X : PX} {d b : Nat} {v : VS} {c : Int} (hX : XI v) (hp_a : R32 c) : EvV X d 67 [.inr (.inr (some 0)), .inl c] b v (some (.inl (cl_isSecond v c))) b v := EvV.of (w_cl_isSecond hX hp_a (⟨rfl, rfl, rfl⟩))

theorem p_cl_isSecond {v : VS} {c : Int} : (cl_isSecond v c) = (if 0 ≤ c ∧ c < v 33 1 then 1 else 0) := by
  unfold cl_isSecond
  repeat' split
  all_goals omega

theorem e_cl_isSecond {X : PX} {d b : Nat} {v : VS} {c : Int} (hX : XI v) (hp_a : R32 c) : EvV X d 67 [.inr (.inr (some 0)), .inl c] b v (some (.inl (if 0 ≤ c ∧ c < v 33 1 then 1 else 0))) b v := by
  rw [← p_cl_isSecond]
  exact q_cl_isSecond hX hp_a

def cl_isEar (v : VS) (c : Int) : Int :=
  (if c < 0 then 0 else (if c < (v 37 0) then 1 else 0))
theorem w_cl_isEar {X : PX} {d b : Nat} {v : VS} {c : Int} (hX : XI v) (hp_a : R32 c) {Q : Option PV → Nat → VS → Prop} (hQ : Q (some (.inl (cl_isEar v c))) b v) : WV X d 65 0 [some (.inr (.inr (some 0))), some (.inl c)] [] b v Q := by
  rw [cl_isEar] at hQ
  refine r_ex 1 (pc' := 1) (lo' := [some (.inr (.inr (some 0))), some (.inl c)]) (st' := [.inl c]) rfl ?_
  refine n_if_lt (pc0 := 1) (len := 3) (t := 22) rfl (by first | assumption | omega | (unfold R32 at *; omega) | (unfold R64 at *; omega) | (simp only [R32, R64] at *; omega)) (fun h_1 => ?_) (fun h_1 => ?_)
  · show WV _ _ _ 22 _ _ _ _ _
    rw [if_pos h_1] at hQ
    refine r_ex 1 (pc' := 23) (lo' := [some (.inr (.inr (some 0))), some (.inl c)]) (st' := [.inl 0]) rfl ?_
    refine r_ret (rr := some (.inl 0)) (I := .ireturn) (pc0 := 23) (len := 1) rfl rfl ?_
    exact hQ 
  · show WV _ _ _ 4 _ _ _ _ _
    rw [if_neg h_1] at hQ
    refine r_ex 5 (pc' := 15) (lo' := [some (.inr (.inr (some 0))), some (.inl c)]) (st' := [.inl (v 37 0), .inl c]) rfl ?_
    have hb_1 : 0 ≤ (v 37 0) ∧ (v 37 0) ≤ 12 := hX 37 0
    refine n_ic_ge (pc0 := 15) (len := 3) (t := 22) rfl (by first | assumption | omega | (unfold R32 at *; omega) | (unfold R64 at *; omega) | (simp only [R32, R64] at *; omega)) (by first | assumption | omega | (unfold R32 at *; omega) | (unfold R64 at *; omega) | (simp only [R32, R64] at *; omega)) (fun h_15 => ?_) (fun h_15 => ?_)
    · show WV _ _ _ 22 _ _ _ _ _
      rw [if_neg h_15] at hQ
      refine r_ex 1 (pc' := 23) (lo' := [some (.inr (.inr (some 0))), some (.inl c)]) (st' := [.inl 0]) rfl ?_
      refine r_ret (rr := some (.inl 0)) (I := .ireturn) (pc0 := 23) (len := 1) rfl rfl ?_
      exact hQ 
    · show WV _ _ _ 18 _ _ _ _ _
      rw [if_pos h_15] at hQ
      refine r_ex 2 (pc' := 23) (lo' := [some (.inr (.inr (some 0))), some (.inl c)]) (st' := [.inl 1]) rfl ?_
      refine r_ret (rr := some (.inl 1)) (I := .ireturn) (pc0 := 23) (len := 1) rfl rfl ?_
      exact hQ 

theorem q_cl_isEar {X : PX} {d b : Nat} {v : VS} {c : Int} (hX : XI v) (hp_a : R32 c) : EvV X d 65 [.inr (.inr (some 0)), .inl c] b v (some (.inl (cl_isEar v c))) b v := EvV.of (w_cl_isEar hX hp_a (⟨rfl, rfl, rfl⟩))

theorem p_cl_isEar {v : VS} {c : Int} : (cl_isEar v c) = (if 0 ≤ c ∧ c < v 37 0 then 1 else 0) := by
  unfold cl_isEar
  repeat' split
  all_goals omega

theorem e_cl_isEar {X : PX} {d b : Nat} {v : VS} {c : Int} (hX : XI v) (hp_a : R32 c) : EvV X d 65 [.inr (.inr (some 0)), .inl c] b v (some (.inl (if 0 ≤ c ∧ c < v 37 0 then 1 else 0))) b v := by
  rw [← p_cl_isEar]
  exact q_cl_isEar hX hp_a

def cl_isStart (v : VS) (c : Int) : Int :=
  (if c < 0 then 0 else (if c < (v 42 0) then 1 else 0))
theorem w_cl_isStart {X : PX} {d b : Nat} {v : VS} {c : Int} (hX : XI v) (hp_a : R32 c) {Q : Option PV → Nat → VS → Prop} (hQ : Q (some (.inl (cl_isStart v c))) b v) : WV X d 159 0 [some (.inr (.inr (some 0))), some (.inl c)] [] b v Q := by
  rw [cl_isStart] at hQ
  refine r_ex 1 (pc' := 1) (lo' := [some (.inr (.inr (some 0))), some (.inl c)]) (st' := [.inl c]) rfl ?_
  refine n_if_lt (pc0 := 1) (len := 3) (t := 22) rfl (by first | assumption | omega | (unfold R32 at *; omega) | (unfold R64 at *; omega) | (simp only [R32, R64] at *; omega)) (fun h_1 => ?_) (fun h_1 => ?_)
  · show WV _ _ _ 22 _ _ _ _ _
    rw [if_pos h_1] at hQ
    refine r_ex 1 (pc' := 23) (lo' := [some (.inr (.inr (some 0))), some (.inl c)]) (st' := [.inl 0]) rfl ?_
    refine r_ret (rr := some (.inl 0)) (I := .ireturn) (pc0 := 23) (len := 1) rfl rfl ?_
    exact hQ 
  · show WV _ _ _ 4 _ _ _ _ _
    rw [if_neg h_1] at hQ
    refine r_ex 5 (pc' := 15) (lo' := [some (.inr (.inr (some 0))), some (.inl c)]) (st' := [.inl (v 42 0), .inl c]) rfl ?_
    have hb_1 : 0 ≤ (v 42 0) ∧ (v 42 0) ≤ 4 := hX 42 0
    refine n_ic_ge (pc0 := 15) (len := 3) (t := 22) rfl (by first | assumption | omega | (unfold R32 at *; omega) | (unfold R64 at *; omega) | (simp only [R32, R64] at *; omega)) (by first | assumption | omega | (unfold R32 at *; omega) | (unfold R64 at *; omega) | (simp only [R32, R64] at *; omega)) (fun h_15 => ?_) (fun h_15 => ?_)
    · show WV _ _ _ 22 _ _ _ _ _
      rw [if_neg h_15] at hQ
      refine r_ex 1 (pc' := 23) (lo' := [some (.inr (.inr (some 0))), some (.inl c)]) (st' := [.inl 0]) rfl ?_
      refine r_ret (rr := some (.inl 0)) (I := .ireturn) (pc0 := 23) (len := 1) rfl rfl ?_
      exact hQ 
    · show WV _ _ _ 18 _ _ _ _ _
      rw [if_pos h_15] at hQ
      refine r_ex 2 (pc' := 23) (lo' := [some (.inr (.inr (some 0))), some (.inl c)]) (st' := [.inl 1]) rfl ?_
      refine r_ret (rr := some (.inl 1)) (I := .ireturn) (pc0 := 23) (len := 1) rfl rfl ?_
      exact hQ 

theorem q_cl_isStart {X : PX} {d b : Nat} {v : VS} {c : Int} (hX : XI v) (hp_a : R32 c) : EvV X d 159 [.inr (.inr (some 0)), .inl c] b v (some (.inl (cl_isStart v c))) b v := EvV.of (w_cl_isStart hX hp_a (⟨rfl, rfl, rfl⟩))

theorem p_cl_isStart {v : VS} {c : Int} : (cl_isStart v c) = (if 0 ≤ c ∧ c < v 42 0 then 1 else 0) := by
  unfold cl_isStart
  repeat' split
  all_goals omega

theorem e_cl_isStart {X : PX} {d b : Nat} {v : VS} {c : Int} (hX : XI v) (hp_a : R32 c) : EvV X d 159 [.inr (.inr (some 0)), .inl c] b v (some (.inl (if 0 ≤ c ∧ c < v 42 0 then 1 else 0))) b v := by
  rw [← p_cl_isStart]
  exact q_cl_isStart hX hp_a

def cl_hasBay (v : VS)  : Int :=
  (if 0 < (v 33 2) then 1 else 0)
theorem w_cl_hasBay {X : PX} {d b : Nat} {v : VS}  (hX : XI v)  {Q : Option PV → Nat → VS → Prop} (hQ : Q (some (.inl (cl_hasBay v))) b v) : WV X d 71 0 [some (.inr (.inr (some 0)))] [] b v Q := by
  rw [cl_hasBay] at hQ
  refine r_ex 3 (pc' := 7) (lo' := [some (.inr (.inr (some 0)))]) (st' := [.inl (v 33 2)]) rfl ?_
  have hb_1 : 0 ≤ (v 33 2) ∧ (v 33 2) ≤ 2001 := hX 33 2
  refine n_if_le (pc0 := 7) (len := 3) (t := 14) rfl (by first | assumption | omega | (unfold R32 at *; omega) | (unfold R64 at *; omega) | (simp only [R32, R64] at *; omega)) (fun h_7 => ?_) (fun h_7 => ?_)
  · show WV _ _ _ 14 _ _ _ _ _
    rw [if_neg h_7] at hQ
    refine r_ex 1 (pc' := 15) (lo' := [some (.inr (.inr (some 0)))]) (st' := [.inl 0]) rfl ?_
    refine r_ret (rr := some (.inl 0)) (I := .ireturn) (pc0 := 15) (len := 1) rfl rfl ?_
    exact hQ 
  · show WV _ _ _ 10 _ _ _ _ _
    rw [if_pos h_7] at hQ
    refine r_ex 2 (pc' := 15) (lo' := [some (.inr (.inr (some 0)))]) (st' := [.inl 1]) rfl ?_
    refine r_ret (rr := some (.inl 1)) (I := .ireturn) (pc0 := 15) (len := 1) rfl rfl ?_
    exact hQ 

theorem q_cl_hasBay {X : PX} {d b : Nat} {v : VS}  (hX : XI v)  : EvV X d 71 [.inr (.inr (some 0))] b v (some (.inl (cl_hasBay v))) b v := EvV.of (w_cl_hasBay hX  (⟨rfl, rfl, rfl⟩))

theorem p_cl_hasBay {v : VS}  : (cl_hasBay v) = (if 0 < v 33 2 then 1 else 0) := by
  unfold cl_hasBay
  repeat' split
  all_goals omega

theorem e_cl_hasBay {X : PX} {d b : Nat} {v : VS}  (hX : XI v)  : EvV X d 71 [.inr (.inr (some 0))] b v (some (.inl (if 0 < v 33 2 then 1 else 0))) b v := by
  rw [← p_cl_hasBay]
  exact q_cl_hasBay hX 

def cl_isHour (v : VS) (c : Int) : Int :=
  (if c < 1 then 0 else (if 99 < c then 0 else 1))
theorem w_cl_isHour {X : PX} {d b : Nat} {v : VS} {c : Int} (hX : XI v) (hp_a : R32 c) {Q : Option PV → Nat → VS → Prop} (hQ : Q (some (.inl (cl_isHour v c))) b v) : WV X d 98 0 [some (.inl c)] [] b v Q := by
  rw [cl_isHour] at hQ
  refine r_ex 2 (pc' := 2) (lo' := [some (.inl c)]) (st' := [.inl 1, .inl c]) rfl ?_
  refine n_ic_lt (pc0 := 2) (len := 3) (t := 15) rfl (by first | assumption | omega | (unfold R32 at *; omega) | (unfold R64 at *; omega) | (simp only [R32, R64] at *; omega)) (by first | assumption | omega | (unfold R32 at *; omega) | (unfold R64 at *; omega) | (simp only [R32, R64] at *; omega)) (fun h_2 => ?_) (fun h_2 => ?_)
  · show WV _ _ _ 15 _ _ _ _ _
    rw [if_pos h_2] at hQ
    refine r_ex 1 (pc' := 16) (lo' := [some (.inl c)]) (st' := [.inl 0]) rfl ?_
    refine r_ret (rr := some (.inl 0)) (I := .ireturn) (pc0 := 16) (len := 1) rfl rfl ?_
    exact hQ 
  · show WV _ _ _ 5 _ _ _ _ _
    rw [if_neg h_2] at hQ
    refine r_ex 2 (pc' := 8) (lo' := [some (.inl c)]) (st' := [.inl 99, .inl c]) rfl ?_
    refine n_ic_gt (pc0 := 8) (len := 3) (t := 15) rfl (by first | assumption | omega | (unfold R32 at *; omega) | (unfold R64 at *; omega) | (simp only [R32, R64] at *; omega)) (by first | assumption | omega | (unfold R32 at *; omega) | (unfold R64 at *; omega) | (simp only [R32, R64] at *; omega)) (fun h_8 => ?_) (fun h_8 => ?_)
    · show WV _ _ _ 15 _ _ _ _ _
      rw [if_pos h_8] at hQ
      refine r_ex 1 (pc' := 16) (lo' := [some (.inl c)]) (st' := [.inl 0]) rfl ?_
      refine r_ret (rr := some (.inl 0)) (I := .ireturn) (pc0 := 16) (len := 1) rfl rfl ?_
      exact hQ 
    · show WV _ _ _ 11 _ _ _ _ _
      rw [if_neg h_8] at hQ
      refine r_ex 2 (pc' := 16) (lo' := [some (.inl c)]) (st' := [.inl 1]) rfl ?_
      refine r_ret (rr := some (.inl 1)) (I := .ireturn) (pc0 := 16) (len := 1) rfl rfl ?_
      exact hQ 

theorem q_cl_isHour {X : PX} {d b : Nat} {v : VS} {c : Int} (hX : XI v) (hp_a : R32 c) : EvV X d 98 [.inl c] b v (some (.inl (cl_isHour v c))) b v := EvV.of (w_cl_isHour hX hp_a (⟨rfl, rfl, rfl⟩))

theorem p_cl_isHour {v : VS} {c : Int} : (cl_isHour v c) = (if 1 ≤ c ∧ c ≤ 99 then 1 else 0) := by
  unfold cl_isHour
  repeat' split
  all_goals omega

theorem e_cl_isHour {X : PX} {d b : Nat} {v : VS} {c : Int} (hX : XI v) (hp_a : R32 c) : EvV X d 98 [.inl c] b v (some (.inl (if 1 ≤ c ∧ c ≤ 99 then 1 else 0))) b v := by
  rw [← p_cl_isHour]
  exact q_cl_isHour hX hp_a

def cl_isSlot (v : VS) (c : Int) : Int :=
  (if c < 0 then 0 else (if c < 4 then 1 else 0))
theorem w_cl_isSlot {X : PX} {d b : Nat} {v : VS} {c : Int} (hX : XI v) (hp_a : R32 c) {Q : Option PV → Nat → VS → Prop} (hQ : Q (some (.inl (cl_isSlot v c))) b v) : WV X d 163 0 [some (.inl c)] [] b v Q := by
  rw [cl_isSlot] at hQ
  refine r_ex 1 (pc' := 1) (lo' := [some (.inl c)]) (st' := [.inl c]) rfl ?_
  refine n_if_lt (pc0 := 1) (len := 3) (t := 13) rfl (by first | assumption | omega | (unfold R32 at *; omega) | (unfold R64 at *; omega) | (simp only [R32, R64] at *; omega)) (fun h_1 => ?_) (fun h_1 => ?_)
  · show WV _ _ _ 13 _ _ _ _ _
    rw [if_pos h_1] at hQ
    refine r_ex 1 (pc' := 14) (lo' := [some (.inl c)]) (st' := [.inl 0]) rfl ?_
    refine r_ret (rr := some (.inl 0)) (I := .ireturn) (pc0 := 14) (len := 1) rfl rfl ?_
    exact hQ 
  · show WV _ _ _ 4 _ _ _ _ _
    rw [if_neg h_1] at hQ
    refine r_ex 2 (pc' := 6) (lo' := [some (.inl c)]) (st' := [.inl 4, .inl c]) rfl ?_
    refine n_ic_ge (pc0 := 6) (len := 3) (t := 13) rfl (by first | assumption | omega | (unfold R32 at *; omega) | (unfold R64 at *; omega) | (simp only [R32, R64] at *; omega)) (by first | assumption | omega | (unfold R32 at *; omega) | (unfold R64 at *; omega) | (simp only [R32, R64] at *; omega)) (fun h_6 => ?_) (fun h_6 => ?_)
    · show WV _ _ _ 13 _ _ _ _ _
      rw [if_neg h_6] at hQ
      refine r_ex 1 (pc' := 14) (lo' := [some (.inl c)]) (st' := [.inl 0]) rfl ?_
      refine r_ret (rr := some (.inl 0)) (I := .ireturn) (pc0 := 14) (len := 1) rfl rfl ?_
      exact hQ 
    · show WV _ _ _ 9 _ _ _ _ _
      rw [if_pos h_6] at hQ
      refine r_ex 2 (pc' := 14) (lo' := [some (.inl c)]) (st' := [.inl 1]) rfl ?_
      refine r_ret (rr := some (.inl 1)) (I := .ireturn) (pc0 := 14) (len := 1) rfl rfl ?_
      exact hQ 

theorem q_cl_isSlot {X : PX} {d b : Nat} {v : VS} {c : Int} (hX : XI v) (hp_a : R32 c) : EvV X d 163 [.inl c] b v (some (.inl (cl_isSlot v c))) b v := EvV.of (w_cl_isSlot hX hp_a (⟨rfl, rfl, rfl⟩))

theorem p_cl_isSlot {v : VS} {c : Int} : (cl_isSlot v c) = (if 0 ≤ c ∧ c < 4 then 1 else 0) := by
  unfold cl_isSlot
  repeat' split
  all_goals omega

theorem e_cl_isSlot {X : PX} {d b : Nat} {v : VS} {c : Int} (hX : XI v) (hp_a : R32 c) : EvV X d 163 [.inl c] b v (some (.inl (if 0 ≤ c ∧ c < 4 then 1 else 0))) b v := by
  rw [← p_cl_isSlot]
  exact q_cl_isSlot hX hp_a

def cl_isDraw (v : VS) (c : Int) (k : Int) : Int :=
  (if c < 0 then 0 else (if 2000000000 < c then 0 else (if k < 0 then 0 else (if 20 < k then 0 else 1))))
theorem w_cl_isDraw {X : PX} {d b : Nat} {v : VS} {c : Int} {k : Int} (hX : XI v) (hp_a : R32 c) (hp_b : R32 k) {Q : Option PV → Nat → VS → Prop} (hQ : Q (some (.inl (cl_isDraw v c k))) b v) : WV X d 180 0 [some (.inl c), some (.inl k)] [] b v Q := by
  rw [cl_isDraw] at hQ
  refine r_ex 1 (pc' := 1) (lo' := [some (.inl c), some (.inl k)]) (st' := [.inl c]) rfl ?_
  refine n_if_lt (pc0 := 1) (len := 3) (t := 25) rfl (by first | assumption | omega | (unfold R32 at *; omega) | (unfold R64 at *; omega) | (simp only [R32, R64] at *; omega)) (fun h_1 => ?_) (fun h_1 => ?_)
  · show WV _ _ _ 25 _ _ _ _ _
    rw [if_pos h_1] at hQ
    refine r_ex 1 (pc' := 26) (lo' := [some (.inl c), some (.inl k)]) (st' := [.inl 0]) rfl ?_
    refine r_ret (rr := some (.inl 0)) (I := .ireturn) (pc0 := 26) (len := 1) rfl rfl ?_
    exact hQ 
  · show WV _ _ _ 4 _ _ _ _ _
    rw [if_neg h_1] at hQ
    refine r_ex 2 (pc' := 8) (lo' := [some (.inl c), some (.inl k)]) (st' := [.inl 2000000000, .inl c]) rfl ?_
    refine n_ic_gt (pc0 := 8) (len := 3) (t := 25) rfl (by first | assumption | omega | (unfold R32 at *; omega) | (unfold R64 at *; omega) | (simp only [R32, R64] at *; omega)) (by first | assumption | omega | (unfold R32 at *; omega) | (unfold R64 at *; omega) | (simp only [R32, R64] at *; omega)) (fun h_8 => ?_) (fun h_8 => ?_)
    · show WV _ _ _ 25 _ _ _ _ _
      rw [if_pos h_8] at hQ
      refine r_ex 1 (pc' := 26) (lo' := [some (.inl c), some (.inl k)]) (st' := [.inl 0]) rfl ?_
      refine r_ret (rr := some (.inl 0)) (I := .ireturn) (pc0 := 26) (len := 1) rfl rfl ?_
      exact hQ 
    · show WV _ _ _ 11 _ _ _ _ _
      rw [if_neg h_8] at hQ
      refine r_ex 1 (pc' := 12) (lo' := [some (.inl c), some (.inl k)]) (st' := [.inl k]) rfl ?_
      refine n_if_lt (pc0 := 12) (len := 3) (t := 25) rfl (by first | assumption | omega | (unfold R32 at *; omega) | (unfold R64 at *; omega) | (simp only [R32, R64] at *; omega)) (fun h_12 => ?_) (fun h_12 => ?_)
      · show WV _ _ _ 25 _ _ _ _ _
        rw [if_pos h_12] at hQ
        refine r_ex 1 (pc' := 26) (lo' := [some (.inl c), some (.inl k)]) (st' := [.inl 0]) rfl ?_
        refine r_ret (rr := some (.inl 0)) (I := .ireturn) (pc0 := 26) (len := 1) rfl rfl ?_
        exact hQ 
      · show WV _ _ _ 15 _ _ _ _ _
        rw [if_neg h_12] at hQ
        refine r_ex 2 (pc' := 18) (lo' := [some (.inl c), some (.inl k)]) (st' := [.inl 20, .inl k]) rfl ?_
        refine n_ic_gt (pc0 := 18) (len := 3) (t := 25) rfl (by first | assumption | omega | (unfold R32 at *; omega) | (unfold R64 at *; omega) | (simp only [R32, R64] at *; omega)) (by first | assumption | omega | (unfold R32 at *; omega) | (unfold R64 at *; omega) | (simp only [R32, R64] at *; omega)) (fun h_18 => ?_) (fun h_18 => ?_)
        · show WV _ _ _ 25 _ _ _ _ _
          rw [if_pos h_18] at hQ
          refine r_ex 1 (pc' := 26) (lo' := [some (.inl c), some (.inl k)]) (st' := [.inl 0]) rfl ?_
          refine r_ret (rr := some (.inl 0)) (I := .ireturn) (pc0 := 26) (len := 1) rfl rfl ?_
          exact hQ 
        · show WV _ _ _ 21 _ _ _ _ _
          rw [if_neg h_18] at hQ
          refine r_ex 2 (pc' := 26) (lo' := [some (.inl c), some (.inl k)]) (st' := [.inl 1]) rfl ?_
          refine r_ret (rr := some (.inl 1)) (I := .ireturn) (pc0 := 26) (len := 1) rfl rfl ?_
          exact hQ 

theorem q_cl_isDraw {X : PX} {d b : Nat} {v : VS} {c : Int} {k : Int} (hX : XI v) (hp_a : R32 c) (hp_b : R32 k) : EvV X d 180 [.inl c, .inl k] b v (some (.inl (cl_isDraw v c k))) b v := EvV.of (w_cl_isDraw hX hp_a hp_b (⟨rfl, rfl, rfl⟩))

theorem p_cl_isDraw {v : VS} {c : Int} {k : Int} : (cl_isDraw v c k) = (if (0 ≤ c ∧ c ≤ 2000000000) ∧ (0 ≤ k ∧ k ≤ 20) then 1 else 0) := by
  unfold cl_isDraw
  repeat' split
  all_goals omega

theorem e_cl_isDraw {X : PX} {d b : Nat} {v : VS} {c : Int} {k : Int} (hX : XI v) (hp_a : R32 c) (hp_b : R32 k) : EvV X d 180 [.inl c, .inl k] b v (some (.inl (if (0 ≤ c ∧ c ≤ 2000000000) ∧ (0 ≤ k ∧ k ≤ 20) then 1 else 0))) b v := by
  rw [← p_cl_isDraw]
  exact q_cl_isDraw hX hp_a hp_b

def cl_areTwo (v : VS) (c : Int) (k : Int) : Int :=
  (if 0 ≤ c ∧ c < v 33 0 then (if 0 ≤ k ∧ k < v 33 0 then (if c = k then 0 else 1) else 0) else 0)
theorem w_cl_areTwo {X : PX} {d b : Nat} {v : VS} {c : Int} {k : Int} (hX : XI v) (hp_a : R32 c) (hp_b : R32 k) {Q : Option PV → Nat → VS → Prop} (hQ : Q (some (.inl (cl_areTwo v c k))) b v) : WV X (d + 1) 103 0 [some (.inr (.inr (some 0))), some (.inl c), some (.inl k)] [] b v Q := by
  rw [cl_areTwo] at hQ
  refine r_ex 2 (pc' := 2) (lo' := [some (.inr (.inr (some 0))), some (.inl c), some (.inl k)]) (st' := [.inl c, .inr (.inr (some 0))]) rfl ?_
  have hp_1 : R32 c := (by first | assumption | omega | (unfold R32 at *; omega) | (unfold R64 at *; omega) | (simp only [R32, R64] at *; omega))
  have hb_2 : 0 ≤ v 33 0 ∧ v 33 0 ≤ 9 := hX 33 0
  refine r_callb (P := 0 ≤ c ∧ c < v 33 0) (m := 62) (args := [.inr (.inr (some 0)), .inl c]) (n' := 103) (pc' := 5) (lo' := [some (.inr (.inr (some 0))), some (.inl c), some (.inl k)]) (st' := []) (I := .invokevirtual 62) (pc0 := 2) (len := 3) rfl rfl rfl (e_cl_isChurch hX hp_1) (fun h_2 => ?_) (fun h_2 => ?_)
  · show WV _ _ _ 5 _ _ _ _ _
    rw [if_pos h_2] at hQ
    refine r_ex 3 (pc' := 10) (lo' := [some (.inr (.inr (some 0))), some (.inl c), some (.inl k)]) (st' := [.inl k, .inr (.inr (some 0))]) rfl ?_
    have hp_3 : R32 k := (by first | assumption | omega | (unfold R32 at *; omega) | (unfold R64 at *; omega) | (simp only [R32, R64] at *; omega))
    refine r_callb (P := 0 ≤ k ∧ k < v 33 0) (m := 62) (args := [.inr (.inr (some 0)), .inl k]) (n' := 103) (pc' := 13) (lo' := [some (.inr (.inr (some 0))), some (.inl c), some (.inl k)]) (st' := []) (I := .invokevirtual 62) (pc0 := 10) (len := 3) rfl rfl rfl (e_cl_isChurch hX hp_3) (fun h_10 => ?_) (fun h_10 => ?_)
    · show WV _ _ _ 13 _ _ _ _ _
      rw [if_pos h_10] at hQ
      refine r_ex 3 (pc' := 18) (lo' := [some (.inr (.inr (some 0))), some (.inl c), some (.inl k)]) (st' := [.inl k, .inl c]) rfl ?_
      refine n_ic_eq (pc0 := 18) (len := 3) (t := 25) rfl (by first | assumption | omega | (unfold R32 at *; omega) | (unfold R64 at *; omega) | (simp only [R32, R64] at *; omega)) (by first | assumption | omega | (unfold R32 at *; omega) | (unfold R64 at *; omega) | (simp only [R32, R64] at *; omega)) (fun h_18 => ?_) (fun h_18 => ?_)
      · show WV _ _ _ 25 _ _ _ _ _
        rw [if_pos h_18] at hQ
        refine r_ex 1 (pc' := 26) (lo' := [some (.inr (.inr (some 0))), some (.inl c), some (.inl k)]) (st' := [.inl 0]) rfl ?_
        refine r_ret (rr := some (.inl 0)) (I := .ireturn) (pc0 := 26) (len := 1) rfl rfl ?_
        exact hQ 
      · show WV _ _ _ 21 _ _ _ _ _
        rw [if_neg h_18] at hQ
        refine r_ex 2 (pc' := 26) (lo' := [some (.inr (.inr (some 0))), some (.inl c), some (.inl k)]) (st' := [.inl 1]) rfl ?_
        refine r_ret (rr := some (.inl 1)) (I := .ireturn) (pc0 := 26) (len := 1) rfl rfl ?_
        exact hQ 
    · show WV _ _ _ 13 _ _ _ _ _
      rw [if_neg h_10] at hQ
      refine r_ex 2 (pc' := 26) (lo' := [some (.inr (.inr (some 0))), some (.inl c), some (.inl k)]) (st' := [.inl 0]) rfl ?_
      refine r_ret (rr := some (.inl 0)) (I := .ireturn) (pc0 := 26) (len := 1) rfl rfl ?_
      exact hQ 
  · show WV _ _ _ 5 _ _ _ _ _
    rw [if_neg h_2] at hQ
    refine r_ex 2 (pc' := 26) (lo' := [some (.inr (.inr (some 0))), some (.inl c), some (.inl k)]) (st' := [.inl 0]) rfl ?_
    refine r_ret (rr := some (.inl 0)) (I := .ireturn) (pc0 := 26) (len := 1) rfl rfl ?_
    exact hQ 

theorem q_cl_areTwo {X : PX} {d b : Nat} {v : VS} {c : Int} {k : Int} (hX : XI v) (hp_a : R32 c) (hp_b : R32 k) : EvV X (d + 1) 103 [.inr (.inr (some 0)), .inl c, .inl k] b v (some (.inl (cl_areTwo v c k))) b v := EvV.of (w_cl_areTwo hX hp_a hp_b (⟨rfl, rfl, rfl⟩))

theorem p_cl_areTwo {v : VS} {c : Int} {k : Int} : (cl_areTwo v c k) = (if (0 ≤ c ∧ c < v 33 0) ∧ (0 ≤ k ∧ k < v 33 0) ∧ c ≠ k then 1 else 0) := by
  unfold cl_areTwo
  repeat' split
  all_goals omega

theorem e_cl_areTwo {X : PX} {d b : Nat} {v : VS} {c : Int} {k : Int} (hX : XI v) (hp_a : R32 c) (hp_b : R32 k) : EvV X (d + 1) 103 [.inr (.inr (some 0)), .inl c, .inl k] b v (some (.inl (if (0 ≤ c ∧ c < v 33 0) ∧ (0 ≤ k ∧ k < v 33 0) ∧ c ≠ k then 1 else 0))) b v := by
  rw [← p_cl_areTwo]
  exact q_cl_areTwo hX hp_a hp_b

def cl_bit (v : VS) (c : Int) (k : Int) : Int :=
  (bt c k)
theorem w_cl_bit {X : PX} {d b : Nat} {v : VS} {c : Int} {k : Int} (hX : XI v) (hp_a : 0 ≤ c ∧ c < 4096) (hp_b : 0 ≤ k ∧ k < 12) {Q : Option PV → Nat → VS → Prop} (hQ : (0 ≤ (cl_bit v c k) ∧ (cl_bit v c k) ≤ 1) → Q (some (.inl (cl_bit v c k))) b v) : WV X d 63 0 [some (.inl c), some (.inl k)] [] b v Q := by
  rw [cl_bit] at hQ
  refine r_ex 5 (pc' := 5) (lo' := [some (.inl c), some (.inl k)]) (st' := [.inl (pm_and (pm_shr c k) 1)]) rfl ?_
  rw [bit_eq (x := c) (c := k) (by first | assumption | omega | (unfold R32 at *; omega) | (unfold R64 at *; omega) | (simp only [R32, R64] at *; omega)) (by first | assumption | omega | (unfold R32 at *; omega) | (unfold R64 at *; omega) | (simp only [R32, R64] at *; omega))]
  have hb_1 := bt01 c k
  refine r_ret (rr := some (.inl (bt c k))) (I := .ireturn) (pc0 := 5) (len := 1) rfl rfl ?_
  exact hQ (by first | assumption | omega | (unfold R32 at *; omega) | (unfold R64 at *; omega) | (simp only [R32, R64] at *; omega))

theorem e_cl_bit {X : PX} {d b : Nat} {v : VS} {c : Int} {k : Int} (hX : XI v) (hp_a : 0 ≤ c ∧ c < 4096) (hp_b : 0 ≤ k ∧ k < 12) : EvV X d 63 [.inl c, .inl k] b v (some (.inl (cl_bit v c k))) b v := EvV.of (w_cl_bit hX hp_a hp_b (fun _ => ⟨rfl, rfl, rfl⟩))

theorem n_cl_bit {v : VS} {c : Int} {k : Int} (hX : XI v) (hp_a : 0 ≤ c ∧ c < 4096) (hp_b : 0 ≤ k ∧ k < 12) : 0 ≤ (cl_bit v c k) ∧ (cl_bit v c k) ≤ 1 := by
  have q : WV (0, fun _ => 0, none) 0 63 0 [some (.inl c), some (.inl k)] [] 1 v (fun _ _ _ => 0 ≤ (cl_bit v c k) ∧ (cl_bit v c k) ≤ 1) := w_cl_bit (X := (0, fun _ => 0, none)) (d := 0) (b := 1) hX hp_a hp_b (fun q => q)
  obtain ⟨_, _, _, _, _, _, _, q⟩ := q
  exact q

def cl_withBit (v : VS) (c : Int) (k : Int) (s : Int) : Int :=
  (if s = 1 then (setb c k) else (clrb c k))
theorem w_cl_withBit {X : PX} {d b : Nat} {v : VS} {c : Int} {k : Int} {s : Int} (hX : XI v) (hp_a : 0 ≤ c ∧ c < 4096) (hp_b : 0 ≤ k ∧ k < 12) (hp_c : R32 s) {Q : Option PV → Nat → VS → Prop} (hQ : Q (some (.inl (cl_withBit v c k s))) b v) : WV X d 107 0 [some (.inl c), some (.inl k), some (.inl s)] [] b v Q := by
  rw [cl_withBit] at hQ
  refine r_ex 2 (pc' := 2) (lo' := [some (.inl c), some (.inl k), some (.inl s)]) (st' := [.inl 1, .inl s]) rfl ?_
  refine n_ic_ne (pc0 := 2) (len := 3) (t := 13) rfl (by first | assumption | omega | (unfold R32 at *; omega) | (unfold R64 at *; omega) | (simp only [R32, R64] at *; omega)) (by first | assumption | omega | (unfold R32 at *; omega) | (unfold R64 at *; omega) | (simp only [R32, R64] at *; omega)) (fun h_2 => ?_) (fun h_2 => ?_)
  · show WV _ _ _ 13 _ _ _ _ _
    rw [if_neg h_2] at hQ
    refine r_ex 7 (pc' := 20) (lo' := [some (.inl c), some (.inl k), some (.inl s)]) (st' := [.inl (pm_and c (pm_xor (pm_shl 1 k) (-1)))]) rfl ?_
    rw [clr_eq (x := c) (c := k) (by first | assumption | omega | (unfold R32 at *; omega) | (unfold R64 at *; omega) | (simp only [R32, R64] at *; omega)) (by first | assumption | omega | (unfold R32 at *; omega) | (unfold R64 at *; omega) | (simp only [R32, R64] at *; omega))]
    refine r_ret (rr := some (.inl (clrb c k))) (I := .ireturn) (pc0 := 20) (len := 1) rfl rfl ?_
    exact hQ 
  · show WV _ _ _ 5 _ _ _ _ _
    rw [if_pos h_2] at hQ
    refine r_ex 5 (pc' := 10) (lo' := [some (.inl c), some (.inl k), some (.inl s)]) (st' := [.inl (pm_or c (pm_shl 1 k))]) rfl ?_
    rw [or_eq (x := c) (c := k) (by first | assumption | omega | (unfold R32 at *; omega) | (unfold R64 at *; omega) | (simp only [R32, R64] at *; omega)) (by first | assumption | omega | (unfold R32 at *; omega) | (unfold R64 at *; omega) | (simp only [R32, R64] at *; omega))]
    have hb_1 := setb_in (x := c) (c := k) (k := 12) (by first | assumption | omega | (unfold R32 at *; omega) | (unfold R64 at *; omega) | (simp only [R32, R64] at *; omega)) (by first | assumption | omega | (unfold R32 at *; omega) | (unfold R64 at *; omega) | (simp only [R32, R64] at *; omega))
    refine r_ex 1 (pc' := 20) (lo' := [some (.inl c), some (.inl k), some (.inl s)]) (st' := [.inl (setb c k)]) rfl ?_
    refine r_ret (rr := some (.inl (setb c k))) (I := .ireturn) (pc0 := 20) (len := 1) rfl rfl ?_
    exact hQ 

theorem e_cl_withBit {X : PX} {d b : Nat} {v : VS} {c : Int} {k : Int} {s : Int} (hX : XI v) (hp_a : 0 ≤ c ∧ c < 4096) (hp_b : 0 ≤ k ∧ k < 12) (hp_c : R32 s) : EvV X d 107 [.inl c, .inl k, .inl s] b v (some (.inl (cl_withBit v c k s))) b v := EvV.of (w_cl_withBit hX hp_a hp_b hp_c (⟨rfl, rfl, rfl⟩))

def cl_has79 (v : VS) (i : Int) : Int :=
  (if i < 0 then 0 else (if i < (v 79 4) then 1 else 0))
theorem w_cl_has79 {X : PX} {d b : Nat} {v : VS} {i : Int} (hX : XI v) (hp_a : R32 i) {Q : Option PV → Nat → VS → Prop} (hQ : Q (some (.inl (cl_has79 v i))) b v) : WV X d 87 0 [some (.inr (.inr (some 79))), some (.inl i)] [] b v Q := by
  rw [cl_has79] at hQ
  refine r_ex 1 (pc' := 1) (lo' := [some (.inr (.inr (some 79))), some (.inl i)]) (st' := [.inl i]) rfl ?_
  refine n_if_lt (pc0 := 1) (len := 3) (t := 16) rfl (by first | assumption | omega | (unfold R32 at *; omega) | (unfold R64 at *; omega) | (simp only [R32, R64] at *; omega)) (fun h_1 => ?_) (fun h_1 => ?_)
  · show WV _ _ _ 16 _ _ _ _ _
    rw [if_pos h_1] at hQ
    refine r_ex 1 (pc' := 17) (lo' := [some (.inr (.inr (some 79))), some (.inl i)]) (st' := [.inl 0]) rfl ?_
    refine r_ret (rr := some (.inl 0)) (I := .ireturn) (pc0 := 17) (len := 1) rfl rfl ?_
    exact hQ 
  · show WV _ _ _ 4 _ _ _ _ _
    rw [if_neg h_1] at hQ
    refine r_ex 3 (pc' := 9) (lo' := [some (.inr (.inr (some 79))), some (.inl i)]) (st' := [.inl (v 79 4), .inl i]) rfl ?_
    have hb_1 : 0 ≤ (v 79 4) ∧ (v 79 4) ≤ 300 := hX 79 4
    refine n_ic_ge (pc0 := 9) (len := 3) (t := 16) rfl (by first | assumption | omega | (unfold R32 at *; omega) | (unfold R64 at *; omega) | (simp only [R32, R64] at *; omega)) (by first | assumption | omega | (unfold R32 at *; omega) | (unfold R64 at *; omega) | (simp only [R32, R64] at *; omega)) (fun h_9 => ?_) (fun h_9 => ?_)
    · show WV _ _ _ 16 _ _ _ _ _
      rw [if_neg h_9] at hQ
      refine r_ex 1 (pc' := 17) (lo' := [some (.inr (.inr (some 79))), some (.inl i)]) (st' := [.inl 0]) rfl ?_
      refine r_ret (rr := some (.inl 0)) (I := .ireturn) (pc0 := 17) (len := 1) rfl rfl ?_
      exact hQ 
    · show WV _ _ _ 12 _ _ _ _ _
      rw [if_pos h_9] at hQ
      refine r_ex 2 (pc' := 17) (lo' := [some (.inr (.inr (some 79))), some (.inl i)]) (st' := [.inl 1]) rfl ?_
      refine r_ret (rr := some (.inl 1)) (I := .ireturn) (pc0 := 17) (len := 1) rfl rfl ?_
      exact hQ 

theorem q_cl_has79 {X : PX} {d b : Nat} {v : VS} {i : Int} (hX : XI v) (hp_a : R32 i) : EvV X d 87 [.inr (.inr (some 79)), .inl i] b v (some (.inl (cl_has79 v i))) b v := EvV.of (w_cl_has79 hX hp_a (⟨rfl, rfl, rfl⟩))

theorem p_cl_has79 {v : VS} {i : Int} : (cl_has79 v i) = (if 0 ≤ i ∧ i < v 79 4 then 1 else 0) := by
  unfold cl_has79
  repeat' split
  all_goals omega

theorem e_cl_has79 {X : PX} {d b : Nat} {v : VS} {i : Int} (hX : XI v) (hp_a : R32 i) : EvV X d 87 [.inr (.inr (some 79)), .inl i] b v (some (.inl (if 0 ≤ i ∧ i < v 79 4 then 1 else 0))) b v := by
  rw [← p_cl_has79]
  exact q_cl_has79 hX hp_a

def cl_latest79 (v : VS)  : Int :=
  (if (v 79 4) = 0 then (-1) else (v 80 ((((v 79 4) - 1)).toNat)))
theorem w_cl_latest79 {X : PX} {d b : Nat} {v : VS}  (hX : XI v)  {Q : Option PV → Nat → VS → Prop} (hQ : (-1 ≤ (cl_latest79 v) ∧ (cl_latest79 v) ≤ 299) → Q (some (.inl (cl_latest79 v))) b v) : WV X d 105 0 [some (.inr (.inr (some 79)))] [] b v Q := by
  rw [cl_latest79] at hQ
  refine r_ex 2 (pc' := 4) (lo' := [some (.inr (.inr (some 79)))]) (st' := [.inl (v 79 4)]) rfl ?_
  have hb_1 : 0 ≤ (v 79 4) ∧ (v 79 4) ≤ 300 := hX 79 4
  refine n_if_ne (pc0 := 4) (len := 3) (t := 11) rfl (by first | assumption | omega | (unfold R32 at *; omega) | (unfold R64 at *; omega) | (simp only [R32, R64] at *; omega)) (fun h_4 => ?_) (fun h_4 => ?_)
  · show WV _ _ _ 11 _ _ _ _ _
    rw [if_neg h_4] at hQ
    refine r_ex 6 (pc' := 21) (lo' := [some (.inr (.inr (some 79)))]) (st' := [.inl ((v 79 4) - 1), .inr (.inr (some 80))]) rfl ?_
    refine r_iald2 (j := 0) (x := (v 80 ((((v 79 4) - 1)).toNat))) (pc' := 22) (pc0 := 21) (len := 1) rfl (s_80 _) (by first | assumption | omega | (unfold R32 at *; omega) | (unfold R64 at *; omega) | (simp only [R32, R64] at *; omega)) (by decide) rfl rfl ?_
    have hb_2 : 0 ≤ (v 80 ((((v 79 4) - 1)).toNat)) ∧ (v 80 ((((v 79 4) - 1)).toNat)) ≤ 299 := hX 80 ((((v 79 4) - 1)).toNat)
    refine r_ret (rr := some (.inl (v 80 ((((v 79 4) - 1)).toNat)))) (I := .ireturn) (pc0 := 22) (len := 1) rfl rfl ?_
    exact hQ (by first | assumption | omega | (unfold R32 at *; omega) | (unfold R64 at *; omega) | (simp only [R32, R64] at *; omega))
  · show WV _ _ _ 7 _ _ _ _ _
    rw [if_pos h_4] at hQ
    refine r_ex 2 (pc' := 22) (lo' := [some (.inr (.inr (some 79)))]) (st' := [.inl (-1)]) rfl ?_
    refine r_ret (rr := some (.inl (-1))) (I := .ireturn) (pc0 := 22) (len := 1) rfl rfl ?_
    exact hQ (by first | assumption | omega | (unfold R32 at *; omega) | (unfold R64 at *; omega) | (simp only [R32, R64] at *; omega))

theorem e_cl_latest79 {X : PX} {d b : Nat} {v : VS}  (hX : XI v)  : EvV X d 105 [.inr (.inr (some 79))] b v (some (.inl (cl_latest79 v))) b v := EvV.of (w_cl_latest79 hX  (fun _ => ⟨rfl, rfl, rfl⟩))

theorem n_cl_latest79 {v : VS}  (hX : XI v)  : -1 ≤ (cl_latest79 v) ∧ (cl_latest79 v) ≤ 299 := by
  have q : WV (0, fun _ => 0, none) 0 105 0 [some (.inr (.inr (some 79)))] [] 1 v (fun _ _ _ => -1 ≤ (cl_latest79 v) ∧ (cl_latest79 v) ≤ 299) := w_cl_latest79 (X := (0, fun _ => 0, none)) (d := 0) (b := 1) hX  (fun q => q)
  obtain ⟨_, _, _, _, _, _, _, q⟩ := q
  exact q

def cl_nextOf79_2 : Nat → VS → Int → Int → Int
  | 0, v, c, i => 0
  | f + 1, v, c, i => (if i < (v 79 4) then (if (v 81 ((i).toNat)) = c then i else (cl_nextOf79_2 f v c (i + 1))) else (-1))
def cl_nextOf79 (v : VS) (c : Int) (s : Int) : Int :=
  (cl_nextOf79_2 301 v c s)
theorem l_cl_nextOf79_2 {X : PX} {d b : Nat} {Q : Option PV → Nat → VS → Prop}  : ∀ (f : Nat) (v : VS) (c : Int) (i : Int) (z2 : Int), XI v → (0 ≤ i ∧ i ≤ 300) → (R32 c) → (300 < i + f) → ((-1 ≤ (cl_nextOf79_2 f v c i) ∧ (cl_nextOf79_2 f v c i) < v 79 4 ∧ (cl_nextOf79_2 f v c i) ≤ 299) → Q (some (.inl (cl_nextOf79_2 f v c i))) b v) → WV X d 93 2 [some (.inr (.inr (some 79))), some (.inl c), some (.inl z2), some (.inl i)] [] b v Q := by
  intro f
  induction f with
  | zero =>
    intro v c i z2 hX hi_0 hi_1 hf hQ
    exfalso
    omega
  | succ f ih =>
    intro v c i z2 hX hi_0 hi_1 hf hQ
    rw [cl_nextOf79_2] at hQ
    refine r_ex 3 (pc' := 7) (lo' := [some (.inr (.inr (some 79))), some (.inl c), some (.inl z2), some (.inl i)]) (st' := [.inl (v 79 4), .inl i]) rfl ?_
    have hb_1 : 0 ≤ (v 79 4) ∧ (v 79 4) ≤ 300 := hX 79 4
    refine n_ic_ge (pc0 := 7) (len := 3) (t := 28) rfl (by first | assumption | omega | (unfold R32 at *; omega) | (unfold R64 at *; omega) | (simp only [R32, R64] at *; omega)) (by first | assumption | omega | (unfold R32 at *; omega) | (unfold R64 at *; omega) | (simp only [R32, R64] at *; omega)) (fun h_7 => ?_) (fun h_7 => ?_)
    · show WV _ _ _ 28 _ _ _ _ _
      rw [if_neg h_7] at hQ
      refine r_ex 1 (pc' := 29) (lo' := [some (.inr (.inr (some 79))), some (.inl c), some (.inl z2), some (.inl i)]) (st' := [.inl (-1)]) rfl ?_
      refine r_ret (rr := some (.inl (-1))) (I := .ireturn) (pc0 := 29) (len := 1) rfl rfl ?_
      exact hQ (by first | assumption | omega | (unfold R32 at *; omega) | (unfold R64 at *; omega) | (simp only [R32, R64] at *; omega))
    · show WV _ _ _ 10 _ _ _ _ _
      rw [if_pos h_7] at hQ
      refine r_ex 3 (pc' := 15) (lo' := [some (.inr (.inr (some 79))), some (.inl c), some (.inl z2), some (.inl i)]) (st' := [.inl i, .inr (.inr (some 81))]) rfl ?_
      refine r_iald2 (j := 0) (x := (v 81 ((i).toNat))) (pc' := 16) (pc0 := 15) (len := 1) rfl (s_81 _) (by first | assumption | omega | (unfold R32 at *; omega) | (unfold R64 at *; omega) | (simp only [R32, R64] at *; omega)) (by decide) rfl rfl ?_
      have hb_2 : 0 ≤ (v 81 ((i).toNat)) ∧ (v 81 ((i).toNat)) ≤ 8 := hX 81 ((i).toNat)
      refine r_ex 1 (pc' := 17) (lo' := [some (.inr (.inr (some 79))), some (.inl c), some (.inl z2), some (.inl i)]) (st' := [.inl c, .inl (v 81 ((i).toNat))]) rfl ?_
      refine n_ic_ne (pc0 := 17) (len := 3) (t := 22) rfl (by first | assumption | omega | (unfold R32 at *; omega) | (unfold R64 at *; omega) | (simp only [R32, R64] at *; omega)) (by first | assumption | omega | (unfold R32 at *; omega) | (unfold R64 at *; omega) | (simp only [R32, R64] at *; omega)) (fun h_17 => ?_) (fun h_17 => ?_)
      · show WV _ _ _ 22 _ _ _ _ _
        rw [if_neg h_17] at hQ
        refine r_ex 2 (pc' := 2) (lo' := [some (.inr (.inr (some 79))), some (.inl c), some (.inl z2), some (.inl (i + 1))]) (st' := []) rfl ?_
        refine ih v c (i + 1) _ hX (by first | assumption | omega | (unfold R32 at *; omega) | (unfold R64 at *; omega) | (simp only [R32, R64] at *; omega)) (by first | assumption | omega | (unfold R32 at *; omega) | (unfold R64 at *; omega) | (simp only [R32, R64] at *; omega)) (by first | assumption | omega | (unfold R32 at *; omega) | (unfold R64 at *; omega) | (simp only [R32, R64] at *; omega)) hQ
      · show WV _ _ _ 20 _ _ _ _ _
        rw [if_pos h_17] at hQ
        refine r_ex 1 (pc' := 21) (lo' := [some (.inr (.inr (some 79))), some (.inl c), some (.inl z2), some (.inl i)]) (st' := [.inl i]) rfl ?_
        refine r_ret (rr := some (.inl i)) (I := .ireturn) (pc0 := 21) (len := 1) rfl rfl ?_
        exact hQ (by first | assumption | omega | (unfold R32 at *; omega) | (unfold R64 at *; omega) | (simp only [R32, R64] at *; omega))

theorem w_cl_nextOf79 {X : PX} {d b : Nat} {v : VS} {c : Int} {s : Int} (hX : XI v) (hp_a : R32 c) (hp_b : 0 ≤ s ∧ s ≤ 300) {Q : Option PV → Nat → VS → Prop} (hQ : (-1 ≤ (cl_nextOf79 v c s) ∧ (cl_nextOf79 v c s) < v 79 4 ∧ (cl_nextOf79 v c s) ≤ 299) → Q (some (.inl (cl_nextOf79 v c s))) b v) : WV X d 93 0 [some (.inr (.inr (some 79))), some (.inl c), some (.inl s), none] [] b v Q := by
  rw [cl_nextOf79] at hQ
  refine r_ex 2 (pc' := 2) (lo' := [some (.inr (.inr (some 79))), some (.inl c), some (.inl s), some (.inl s)]) (st' := []) rfl ?_
  exact l_cl_nextOf79_2 301 v c s _ hX (by first | assumption | omega | (unfold R32 at *; omega) | (unfold R64 at *; omega) | (simp only [R32, R64] at *; omega)) (by first | assumption | omega | (unfold R32 at *; omega) | (unfold R64 at *; omega) | (simp only [R32, R64] at *; omega)) (by first | assumption | omega | (unfold R32 at *; omega) | (unfold R64 at *; omega) | (simp only [R32, R64] at *; omega)) hQ

theorem e_cl_nextOf79 {X : PX} {d b : Nat} {v : VS} {c : Int} {s : Int} (hX : XI v) (hp_a : R32 c) (hp_b : 0 ≤ s ∧ s ≤ 300) : EvV X d 93 [.inr (.inr (some 79)), .inl c, .inl s] b v (some (.inl (cl_nextOf79 v c s))) b v := EvV.of (w_cl_nextOf79 hX hp_a hp_b (fun _ => ⟨rfl, rfl, rfl⟩))

theorem n_cl_nextOf79 {v : VS} {c : Int} {s : Int} (hX : XI v) (hp_a : R32 c) (hp_b : 0 ≤ s ∧ s ≤ 300) : -1 ≤ (cl_nextOf79 v c s) ∧ (cl_nextOf79 v c s) < v 79 4 ∧ (cl_nextOf79 v c s) ≤ 299 := by
  have q : WV (0, fun _ => 0, none) 0 93 0 [some (.inr (.inr (some 79))), some (.inl c), some (.inl s), none] [] 1 v (fun _ _ _ => -1 ≤ (cl_nextOf79 v c s) ∧ (cl_nextOf79 v c s) < v 79 4 ∧ (cl_nextOf79 v c s) ≤ 299) := w_cl_nextOf79 (X := (0, fun _ => 0, none)) (d := 0) (b := 1) hX hp_a hp_b (fun q => q)
  obtain ⟨_, _, _, _, _, _, _, q⟩ := q
  exact q

def cl_earliestOf79_2 : Nat → VS → Int → Int → Int
  | 0, v, h, i => 0
  | f + 1, v, h, i => (if i < (v 79 4) then (if (v 82 ((i).toNat)) = h then i else (cl_earliestOf79_2 f v h (i + 1))) else (-1))
def cl_earliestOf79 (v : VS) (h : Int) : Int :=
  (cl_earliestOf79_2 301 v h 0)
theorem l_cl_earliestOf79_2 {X : PX} {d b : Nat} {Q : Option PV → Nat → VS → Prop}  : ∀ (f : Nat) (v : VS) (h : Int) (i : Int), XI v → (0 ≤ i ∧ i ≤ 300) → (R32 h) → (300 < i + f) → ((-1 ≤ (cl_earliestOf79_2 f v h i) ∧ (cl_earliestOf79_2 f v h i) < v 79 4 ∧ (cl_earliestOf79_2 f v h i) ≤ 299) → Q (some (.inl (cl_earliestOf79_2 f v h i))) b v) → WV X d 101 2 [some (.inr (.inr (some 79))), some (.inl h), some (.inl i)] [] b v Q := by
  intro f
  induction f with
  | zero =>
    intro v h i hX hi_0 hi_1 hf hQ
    exfalso
    omega
  | succ f ih =>
    intro v h i hX hi_0 hi_1 hf hQ
    rw [cl_earliestOf79_2] at hQ
    refine r_ex 3 (pc' := 7) (lo' := [some (.inr (.inr (some 79))), some (.inl h), some (.inl i)]) (st' := [.inl (v 79 4), .inl i]) rfl ?_
    have hb_1 : 0 ≤ (v 79 4) ∧ (v 79 4) ≤ 300 := hX 79 4
    refine n_ic_ge (pc0 := 7) (len := 3) (t := 28) rfl (by first | assumption | omega | (unfold R32 at *; omega) | (unfold R64 at *; omega) | (simp only [R32, R64] at *; omega)) (by first | assumption | omega | (unfold R32 at *; omega) | (unfold R64 at *; omega) | (simp only [R32, R64] at *; omega)) (fun h_7 => ?_) (fun h_7 => ?_)
    · show WV _ _ _ 28 _ _ _ _ _
      rw [if_neg h_7] at hQ
      refine r_ex 1 (pc' := 29) (lo' := [some (.inr (.inr (some 79))), some (.inl h), some (.inl i)]) (st' := [.inl (-1)]) rfl ?_
      refine r_ret (rr := some (.inl (-1))) (I := .ireturn) (pc0 := 29) (len := 1) rfl rfl ?_
      exact hQ (by first | assumption | omega | (unfold R32 at *; omega) | (unfold R64 at *; omega) | (simp only [R32, R64] at *; omega))
    · show WV _ _ _ 10 _ _ _ _ _
      rw [if_pos h_7] at hQ
      refine r_ex 3 (pc' := 15) (lo' := [some (.inr (.inr (some 79))), some (.inl h), some (.inl i)]) (st' := [.inl i, .inr (.inr (some 82))]) rfl ?_
      refine r_iald2 (j := 0) (x := (v 82 ((i).toNat))) (pc' := 16) (pc0 := 15) (len := 1) rfl (s_82 _) (by first | assumption | omega | (unfold R32 at *; omega) | (unfold R64 at *; omega) | (simp only [R32, R64] at *; omega)) (by decide) rfl rfl ?_
      have hb_2 : 0 ≤ (v 82 ((i).toNat)) ∧ (v 82 ((i).toNat)) ≤ 99 := hX 82 ((i).toNat)
      refine r_ex 1 (pc' := 17) (lo' := [some (.inr (.inr (some 79))), some (.inl h), some (.inl i)]) (st' := [.inl h, .inl (v 82 ((i).toNat))]) rfl ?_
      refine n_ic_ne (pc0 := 17) (len := 3) (t := 22) rfl (by first | assumption | omega | (unfold R32 at *; omega) | (unfold R64 at *; omega) | (simp only [R32, R64] at *; omega)) (by first | assumption | omega | (unfold R32 at *; omega) | (unfold R64 at *; omega) | (simp only [R32, R64] at *; omega)) (fun h_17 => ?_) (fun h_17 => ?_)
      · show WV _ _ _ 22 _ _ _ _ _
        rw [if_neg h_17] at hQ
        refine r_ex 2 (pc' := 2) (lo' := [some (.inr (.inr (some 79))), some (.inl h), some (.inl (i + 1))]) (st' := []) rfl ?_
        refine ih v h (i + 1)  hX (by first | assumption | omega | (unfold R32 at *; omega) | (unfold R64 at *; omega) | (simp only [R32, R64] at *; omega)) (by first | assumption | omega | (unfold R32 at *; omega) | (unfold R64 at *; omega) | (simp only [R32, R64] at *; omega)) (by first | assumption | omega | (unfold R32 at *; omega) | (unfold R64 at *; omega) | (simp only [R32, R64] at *; omega)) hQ
      · show WV _ _ _ 20 _ _ _ _ _
        rw [if_pos h_17] at hQ
        refine r_ex 1 (pc' := 21) (lo' := [some (.inr (.inr (some 79))), some (.inl h), some (.inl i)]) (st' := [.inl i]) rfl ?_
        refine r_ret (rr := some (.inl i)) (I := .ireturn) (pc0 := 21) (len := 1) rfl rfl ?_
        exact hQ (by first | assumption | omega | (unfold R32 at *; omega) | (unfold R64 at *; omega) | (simp only [R32, R64] at *; omega))

theorem w_cl_earliestOf79 {X : PX} {d b : Nat} {v : VS} {h : Int} (hX : XI v) (hp_a : R32 h) {Q : Option PV → Nat → VS → Prop} (hQ : (-1 ≤ (cl_earliestOf79 v h) ∧ (cl_earliestOf79 v h) < v 79 4 ∧ (cl_earliestOf79 v h) ≤ 299) → Q (some (.inl (cl_earliestOf79 v h))) b v) : WV X d 101 0 [some (.inr (.inr (some 79))), some (.inl h), none] [] b v Q := by
  rw [cl_earliestOf79] at hQ
  refine r_ex 2 (pc' := 2) (lo' := [some (.inr (.inr (some 79))), some (.inl h), some (.inl 0)]) (st' := []) rfl ?_
  exact l_cl_earliestOf79_2 301 v h 0  hX (by first | assumption | omega | (unfold R32 at *; omega) | (unfold R64 at *; omega) | (simp only [R32, R64] at *; omega)) (by first | assumption | omega | (unfold R32 at *; omega) | (unfold R64 at *; omega) | (simp only [R32, R64] at *; omega)) (by first | assumption | omega | (unfold R32 at *; omega) | (unfold R64 at *; omega) | (simp only [R32, R64] at *; omega)) hQ

theorem e_cl_earliestOf79 {X : PX} {d b : Nat} {v : VS} {h : Int} (hX : XI v) (hp_a : R32 h) : EvV X d 101 [.inr (.inr (some 79)), .inl h] b v (some (.inl (cl_earliestOf79 v h))) b v := EvV.of (w_cl_earliestOf79 hX hp_a (fun _ => ⟨rfl, rfl, rfl⟩))

theorem n_cl_earliestOf79 {v : VS} {h : Int} (hX : XI v) (hp_a : R32 h) : -1 ≤ (cl_earliestOf79 v h) ∧ (cl_earliestOf79 v h) < v 79 4 ∧ (cl_earliestOf79 v h) ≤ 299 := by
  have q : WV (0, fun _ => 0, none) 0 101 0 [some (.inr (.inr (some 79))), some (.inl h), none] [] 1 v (fun _ _ _ => -1 ≤ (cl_earliestOf79 v h) ∧ (cl_earliestOf79 v h) < v 79 4 ∧ (cl_earliestOf79 v h) ≤ 299) := w_cl_earliestOf79 (X := (0, fun _ => 0, none)) (d := 0) (b := 1) hX hp_a (fun q => q)
  obtain ⟨_, _, _, _, _, _, _, q⟩ := q
  exact q

def cl_latestOf79_7 : Nat → VS → Int → Int → Int
  | 0, v, h, i => 0
  | f + 1, v, h, i => (if i < 0 then (-1) else (if (v 82 ((i).toNat)) = h then i else (cl_latestOf79_7 f v h (i + (-1)))))
def cl_latestOf79 (v : VS) (h : Int) : Int :=
  (cl_latestOf79_7 302 v h ((v 79 4) - 1))
theorem l_cl_latestOf79_7 {X : PX} {d b : Nat} {Q : Option PV → Nat → VS → Prop}  : ∀ (f : Nat) (v : VS) (h : Int) (i : Int), XI v → (-1 ≤ i ∧ i < v 79 4) → (R32 h) → (i + 2 ≤ f) → ((-1 ≤ (cl_latestOf79_7 f v h i) ∧ (cl_latestOf79_7 f v h i) < v 79 4 ∧ (cl_latestOf79_7 f v h i) ≤ 299) → Q (some (.inl (cl_latestOf79_7 f v h i))) b v) → WV X d 100 7 [some (.inr (.inr (some 79))), some (.inl h), some (.inl i)] [] b v Q := by
  intro f
  induction f with
  | zero =>
    intro v h i hX hi_0 hi_1 hf hQ
    have hb_0 : 0 ≤ v 79 4 ∧ v 79 4 ≤ 300 := hX 79 4
    exfalso
    omega
  | succ f ih =>
    intro v h i hX hi_0 hi_1 hf hQ
    rw [cl_latestOf79_7] at hQ
    have hb_0 : 0 ≤ v 79 4 ∧ v 79 4 ≤ 300 := hX 79 4
    refine r_ex 1 (pc' := 8) (lo' := [some (.inr (.inr (some 79))), some (.inl h), some (.inl i)]) (st' := [.inl i]) rfl ?_
    refine n_if_lt (pc0 := 8) (len := 3) (t := 29) rfl (by first | assumption | omega | (unfold R32 at *; omega) | (unfold R64 at *; omega) | (simp only [R32, R64] at *; omega)) (fun h_8 => ?_) (fun h_8 => ?_)
    · show WV _ _ _ 29 _ _ _ _ _
      rw [if_pos h_8] at hQ
      refine r_ex 1 (pc' := 30) (lo' := [some (.inr (.inr (some 79))), some (.inl h), some (.inl i)]) (st' := [.inl (-1)]) rfl ?_
      refine r_ret (rr := some (.inl (-1))) (I := .ireturn) (pc0 := 30) (len := 1) rfl rfl ?_
      exact hQ (by first | assumption | omega | (unfold R32 at *; omega) | (unfold R64 at *; omega) | (simp only [R32, R64] at *; omega))
    · show WV _ _ _ 11 _ _ _ _ _
      rw [if_neg h_8] at hQ
      refine r_ex 3 (pc' := 16) (lo' := [some (.inr (.inr (some 79))), some (.inl h), some (.inl i)]) (st' := [.inl i, .inr (.inr (some 82))]) rfl ?_
      refine r_iald2 (j := 0) (x := (v 82 ((i).toNat))) (pc' := 17) (pc0 := 16) (len := 1) rfl (s_82 _) (by first | assumption | omega | (unfold R32 at *; omega) | (unfold R64 at *; omega) | (simp only [R32, R64] at *; omega)) (by decide) rfl rfl ?_
      have hb_2 : 0 ≤ (v 82 ((i).toNat)) ∧ (v 82 ((i).toNat)) ≤ 99 := hX 82 ((i).toNat)
      refine r_ex 1 (pc' := 18) (lo' := [some (.inr (.inr (some 79))), some (.inl h), some (.inl i)]) (st' := [.inl h, .inl (v 82 ((i).toNat))]) rfl ?_
      refine n_ic_ne (pc0 := 18) (len := 3) (t := 23) rfl (by first | assumption | omega | (unfold R32 at *; omega) | (unfold R64 at *; omega) | (simp only [R32, R64] at *; omega)) (by first | assumption | omega | (unfold R32 at *; omega) | (unfold R64 at *; omega) | (simp only [R32, R64] at *; omega)) (fun h_18 => ?_) (fun h_18 => ?_)
      · show WV _ _ _ 23 _ _ _ _ _
        rw [if_neg h_18] at hQ
        refine r_ex 2 (pc' := 7) (lo' := [some (.inr (.inr (some 79))), some (.inl h), some (.inl (i + (-1)))]) (st' := []) rfl ?_
        refine ih v h (i + (-1))  hX (by first | assumption | omega | (unfold R32 at *; omega) | (unfold R64 at *; omega) | (simp only [R32, R64] at *; omega)) (by first | assumption | omega | (unfold R32 at *; omega) | (unfold R64 at *; omega) | (simp only [R32, R64] at *; omega)) (by first | assumption | omega | (unfold R32 at *; omega) | (unfold R64 at *; omega) | (simp only [R32, R64] at *; omega)) hQ
      · show WV _ _ _ 21 _ _ _ _ _
        rw [if_pos h_18] at hQ
        refine r_ex 1 (pc' := 22) (lo' := [some (.inr (.inr (some 79))), some (.inl h), some (.inl i)]) (st' := [.inl i]) rfl ?_
        refine r_ret (rr := some (.inl i)) (I := .ireturn) (pc0 := 22) (len := 1) rfl rfl ?_
        exact hQ (by first | assumption | omega | (unfold R32 at *; omega) | (unfold R64 at *; omega) | (simp only [R32, R64] at *; omega))

theorem w_cl_latestOf79 {X : PX} {d b : Nat} {v : VS} {h : Int} (hX : XI v) (hp_a : R32 h) {Q : Option PV → Nat → VS → Prop} (hQ : (-1 ≤ (cl_latestOf79 v h) ∧ (cl_latestOf79 v h) < v 79 4 ∧ (cl_latestOf79 v h) ≤ 299) → Q (some (.inl (cl_latestOf79 v h))) b v) : WV X d 100 0 [some (.inr (.inr (some 79))), some (.inl h), none] [] b v Q := by
  rw [cl_latestOf79] at hQ
  have hb_0 : 0 ≤ v 79 4 ∧ v 79 4 ≤ 300 := hX 79 4
  refine r_ex 5 (pc' := 7) (lo' := [some (.inr (.inr (some 79))), some (.inl h), some (.inl ((v 79 4) - 1))]) (st' := []) rfl ?_
  have hb_1 : 0 ≤ (v 79 4) ∧ (v 79 4) ≤ 300 := hX 79 4
  exact l_cl_latestOf79_7 302 v h ((v 79 4) - 1)  hX (by first | assumption | omega | (unfold R32 at *; omega) | (unfold R64 at *; omega) | (simp only [R32, R64] at *; omega)) (by first | assumption | omega | (unfold R32 at *; omega) | (unfold R64 at *; omega) | (simp only [R32, R64] at *; omega)) (by first | assumption | omega | (unfold R32 at *; omega) | (unfold R64 at *; omega) | (simp only [R32, R64] at *; omega)) hQ

theorem e_cl_latestOf79 {X : PX} {d b : Nat} {v : VS} {h : Int} (hX : XI v) (hp_a : R32 h) : EvV X d 100 [.inr (.inr (some 79)), .inl h] b v (some (.inl (cl_latestOf79 v h))) b v := EvV.of (w_cl_latestOf79 hX hp_a (fun _ => ⟨rfl, rfl, rfl⟩))

theorem n_cl_latestOf79 {v : VS} {h : Int} (hX : XI v) (hp_a : R32 h) : -1 ≤ (cl_latestOf79 v h) ∧ (cl_latestOf79 v h) < v 79 4 ∧ (cl_latestOf79 v h) ≤ 299 := by
  have q : WV (0, fun _ => 0, none) 0 100 0 [some (.inr (.inr (some 79))), some (.inl h), none] [] 1 v (fun _ _ _ => -1 ≤ (cl_latestOf79 v h) ∧ (cl_latestOf79 v h) < v 79 4 ∧ (cl_latestOf79 v h) ≤ 299) := w_cl_latestOf79 (X := (0, fun _ => 0, none)) (d := 0) (b := 1) hX hp_a (fun q => q)
  obtain ⟨_, _, _, _, _, _, _, q⟩ := q
  exact q

def cl_timesOf79_4 : Nat → VS → Int → Int → Int → Int
  | 0, v, h, s, i => 0
  | f + 1, v, h, s, i => (if i < (v 79 4) then (if (v 82 ((i).toNat)) = h then (cl_timesOf79_4 f v h (s + 1) (i + 1)) else (cl_timesOf79_4 f v h s (i + 1))) else s)
def cl_timesOf79 (v : VS) (h : Int) : Int :=
  (cl_timesOf79_4 301 v h 0 0)
theorem l_cl_timesOf79_4 {X : PX} {d b : Nat} {Q : Option PV → Nat → VS → Prop}  : ∀ (f : Nat) (v : VS) (h : Int) (s : Int) (i : Int), XI v → (0 ≤ i ∧ i ≤ 300) → (R32 h) → (0 ≤ s ∧ s ≤ i) → (300 < i + f) → ((0 ≤ (cl_timesOf79_4 f v h s i) ∧ (cl_timesOf79_4 f v h s i) ≤ 300) → Q (some (.inl (cl_timesOf79_4 f v h s i))) b v) → WV X d 99 4 [some (.inr (.inr (some 79))), some (.inl h), some (.inl s), some (.inl i)] [] b v Q := by
  intro f
  induction f with
  | zero =>
    intro v h s i hX hi_0 hi_1 hi_2 hf hQ
    exfalso
    omega
  | succ f ih =>
    intro v h s i hX hi_0 hi_1 hi_2 hf hQ
    rw [cl_timesOf79_4] at hQ
    refine r_ex 3 (pc' := 9) (lo' := [some (.inr (.inr (some 79))), some (.inl h), some (.inl s), some (.inl i)]) (st' := [.inl (v 79 4), .inl i]) rfl ?_
    have hb_1 : 0 ≤ (v 79 4) ∧ (v 79 4) ≤ 300 := hX 79 4
    refine n_ic_ge (pc0 := 9) (len := 3) (t := 31) rfl (by first | assumption | omega | (unfold R32 at *; omega) | (unfold R64 at *; omega) | (simp only [R32, R64] at *; omega)) (by first | assumption | omega | (unfold R32 at *; omega) | (unfold R64 at *; omega) | (simp only [R32, R64] at *; omega)) (fun h_9 => ?_) (fun h_9 => ?_)
    · show WV _ _ _ 31 _ _ _ _ _
      rw [if_neg h_9] at hQ
      refine r_ex 1 (pc' := 32) (lo' := [some (.inr (.inr (some 79))), some (.inl h), some (.inl s), some (.inl i)]) (st' := [.inl s]) rfl ?_
      refine r_ret (rr := some (.inl s)) (I := .ireturn) (pc0 := 32) (len := 1) rfl rfl ?_
      exact hQ (by first | assumption | omega | (unfold R32 at *; omega) | (unfold R64 at *; omega) | (simp only [R32, R64] at *; omega))
    · show WV _ _ _ 12 _ _ _ _ _
      rw [if_pos h_9] at hQ
      refine r_ex 3 (pc' := 17) (lo' := [some (.inr (.inr (some 79))), some (.inl h), some (.inl s), some (.inl i)]) (st' := [.inl i, .inr (.inr (some 82))]) rfl ?_
      refine r_iald2 (j := 0) (x := (v 82 ((i).toNat))) (pc' := 18) (pc0 := 17) (len := 1) rfl (s_82 _) (by first | assumption | omega | (unfold R32 at *; omega) | (unfold R64 at *; omega) | (simp only [R32, R64] at *; omega)) (by decide) rfl rfl ?_
      have hb_2 : 0 ≤ (v 82 ((i).toNat)) ∧ (v 82 ((i).toNat)) ≤ 99 := hX 82 ((i).toNat)
      refine r_ex 1 (pc' := 19) (lo' := [some (.inr (.inr (some 79))), some (.inl h), some (.inl s), some (.inl i)]) (st' := [.inl h, .inl (v 82 ((i).toNat))]) rfl ?_
      refine n_ic_ne (pc0 := 19) (len := 3) (t := 25) rfl (by first | assumption | omega | (unfold R32 at *; omega) | (unfold R64 at *; omega) | (simp only [R32, R64] at *; omega)) (by first | assumption | omega | (unfold R32 at *; omega) | (unfold R64 at *; omega) | (simp only [R32, R64] at *; omega)) (fun h_19 => ?_) (fun h_19 => ?_)
      · show WV _ _ _ 25 _ _ _ _ _
        rw [if_neg h_19] at hQ
        refine r_ex 2 (pc' := 4) (lo' := [some (.inr (.inr (some 79))), some (.inl h), some (.inl s), some (.inl (i + 1))]) (st' := []) rfl ?_
        refine ih v h s (i + 1)  hX (by first | assumption | omega | (unfold R32 at *; omega) | (unfold R64 at *; omega) | (simp only [R32, R64] at *; omega)) (by first | assumption | omega | (unfold R32 at *; omega) | (unfold R64 at *; omega) | (simp only [R32, R64] at *; omega)) (by first | assumption | omega | (unfold R32 at *; omega) | (unfold R64 at *; omega) | (simp only [R32, R64] at *; omega)) (by first | assumption | omega | (unfold R32 at *; omega) | (unfold R64 at *; omega) | (simp only [R32, R64] at *; omega)) hQ
      · show WV _ _ _ 22 _ _ _ _ _
        rw [if_pos h_19] at hQ
        refine r_ex 3 (pc' := 4) (lo' := [some (.inr (.inr (some 79))), some (.inl h), some (.inl (s + 1)), some (.inl (i + 1))]) (st' := []) rfl ?_
        refine ih v h (s + 1) (i + 1)  hX (by first | assumption | omega | (unfold R32 at *; omega) | (unfold R64 at *; omega) | (simp only [R32, R64] at *; omega)) (by first | assumption | omega | (unfold R32 at *; omega) | (unfold R64 at *; omega) | (simp only [R32, R64] at *; omega)) (by first | assumption | omega | (unfold R32 at *; omega) | (unfold R64 at *; omega) | (simp only [R32, R64] at *; omega)) (by first | assumption | omega | (unfold R32 at *; omega) | (unfold R64 at *; omega) | (simp only [R32, R64] at *; omega)) hQ

theorem w_cl_timesOf79 {X : PX} {d b : Nat} {v : VS} {h : Int} (hX : XI v) (hp_a : R32 h) {Q : Option PV → Nat → VS → Prop} (hQ : (0 ≤ (cl_timesOf79 v h) ∧ (cl_timesOf79 v h) ≤ 300) → Q (some (.inl (cl_timesOf79 v h))) b v) : WV X d 99 0 [some (.inr (.inr (some 79))), some (.inl h), none, none] [] b v Q := by
  rw [cl_timesOf79] at hQ
  refine r_ex 4 (pc' := 4) (lo' := [some (.inr (.inr (some 79))), some (.inl h), some (.inl 0), some (.inl 0)]) (st' := []) rfl ?_
  exact l_cl_timesOf79_4 301 v h 0 0  hX (by first | assumption | omega | (unfold R32 at *; omega) | (unfold R64 at *; omega) | (simp only [R32, R64] at *; omega)) (by first | assumption | omega | (unfold R32 at *; omega) | (unfold R64 at *; omega) | (simp only [R32, R64] at *; omega)) (by first | assumption | omega | (unfold R32 at *; omega) | (unfold R64 at *; omega) | (simp only [R32, R64] at *; omega)) (by first | assumption | omega | (unfold R32 at *; omega) | (unfold R64 at *; omega) | (simp only [R32, R64] at *; omega)) hQ

theorem e_cl_timesOf79 {X : PX} {d b : Nat} {v : VS} {h : Int} (hX : XI v) (hp_a : R32 h) : EvV X d 99 [.inr (.inr (some 79)), .inl h] b v (some (.inl (cl_timesOf79 v h))) b v := EvV.of (w_cl_timesOf79 hX hp_a (fun _ => ⟨rfl, rfl, rfl⟩))

theorem n_cl_timesOf79 {v : VS} {h : Int} (hX : XI v) (hp_a : R32 h) : 0 ≤ (cl_timesOf79 v h) ∧ (cl_timesOf79 v h) ≤ 300 := by
  have q : WV (0, fun _ => 0, none) 0 99 0 [some (.inr (.inr (some 79))), some (.inl h), none, none] [] 1 v (fun _ _ _ => 0 ≤ (cl_timesOf79 v h) ∧ (cl_timesOf79 v h) ≤ 300) := w_cl_timesOf79 (X := (0, fun _ => 0, none)) (d := 0) (b := 1) hX hp_a (fun q => q)
  obtain ⟨_, _, _, _, _, _, _, q⟩ := q
  exact q

def cl_earliestBy79_2 : Nat → VS → Int → Int → Int → Int
  | 0, v, c, h, i => 0
  | f + 1, v, c, h, i => (if i < (v 79 4) then (if (v 81 ((i).toNat)) = c then (if (v 82 ((i).toNat)) = h then i else (cl_earliestBy79_2 f v c h (i + 1))) else (cl_earliestBy79_2 f v c h (i + 1))) else (-1))
def cl_earliestBy79 (v : VS) (c : Int) (h : Int) : Int :=
  (cl_earliestBy79_2 301 v c h 0)
theorem l_cl_earliestBy79_2 {X : PX} {d b : Nat} {Q : Option PV → Nat → VS → Prop}  : ∀ (f : Nat) (v : VS) (c : Int) (h : Int) (i : Int), XI v → (0 ≤ i ∧ i ≤ 300) → (R32 c) → (R32 h) → (300 < i + f) → ((-1 ≤ (cl_earliestBy79_2 f v c h i) ∧ (cl_earliestBy79_2 f v c h i) < v 79 4 ∧ (cl_earliestBy79_2 f v c h i) ≤ 299) → Q (some (.inl (cl_earliestBy79_2 f v c h i))) b v) → WV X d 156 2 [some (.inr (.inr (some 79))), some (.inl c), some (.inl h), some (.inl i)] [] b v Q := by
  intro f
  induction f with
  | zero =>
    intro v c h i hX hi_0 hi_1 hi_2 hf hQ
    exfalso
    omega
  | succ f ih =>
    intro v c h i hX hi_0 hi_1 hi_2 hf hQ
    rw [cl_earliestBy79_2] at hQ
    refine r_ex 3 (pc' := 7) (lo' := [some (.inr (.inr (some 79))), some (.inl c), some (.inl h), some (.inl i)]) (st' := [.inl (v 79 4), .inl i]) rfl ?_
    have hb_1 : 0 ≤ (v 79 4) ∧ (v 79 4) ≤ 300 := hX 79 4
    refine n_ic_ge (pc0 := 7) (len := 3) (t := 38) rfl (by first | assumption | omega | (unfold R32 at *; omega) | (unfold R64 at *; omega) | (simp only [R32, R64] at *; omega)) (by first | assumption | omega | (unfold R32 at *; omega) | (unfold R64 at *; omega) | (simp only [R32, R64] at *; omega)) (fun h_7 => ?_) (fun h_7 => ?_)
    · show WV _ _ _ 38 _ _ _ _ _
      rw [if_neg h_7] at hQ
      refine r_ex 1 (pc' := 39) (lo' := [some (.inr (.inr (some 79))), some (.inl c), some (.inl h), some (.inl i)]) (st' := [.inl (-1)]) rfl ?_
      refine r_ret (rr := some (.inl (-1))) (I := .ireturn) (pc0 := 39) (len := 1) rfl rfl ?_
      exact hQ (by first | assumption | omega | (unfold R32 at *; omega) | (unfold R64 at *; omega) | (simp only [R32, R64] at *; omega))
    · show WV _ _ _ 10 _ _ _ _ _
      rw [if_pos h_7] at hQ
      refine r_ex 3 (pc' := 15) (lo' := [some (.inr (.inr (some 79))), some (.inl c), some (.inl h), some (.inl i)]) (st' := [.inl i, .inr (.inr (some 81))]) rfl ?_
      refine r_iald2 (j := 0) (x := (v 81 ((i).toNat))) (pc' := 16) (pc0 := 15) (len := 1) rfl (s_81 _) (by first | assumption | omega | (unfold R32 at *; omega) | (unfold R64 at *; omega) | (simp only [R32, R64] at *; omega)) (by decide) rfl rfl ?_
      have hb_2 : 0 ≤ (v 81 ((i).toNat)) ∧ (v 81 ((i).toNat)) ≤ 8 := hX 81 ((i).toNat)
      refine r_ex 1 (pc' := 17) (lo' := [some (.inr (.inr (some 79))), some (.inl c), some (.inl h), some (.inl i)]) (st' := [.inl c, .inl (v 81 ((i).toNat))]) rfl ?_
      refine n_ic_ne (pc0 := 17) (len := 3) (t := 32) rfl (by first | assumption | omega | (unfold R32 at *; omega) | (unfold R64 at *; omega) | (simp only [R32, R64] at *; omega)) (by first | assumption | omega | (unfold R32 at *; omega) | (unfold R64 at *; omega) | (simp only [R32, R64] at *; omega)) (fun h_17 => ?_) (fun h_17 => ?_)
      · show WV _ _ _ 32 _ _ _ _ _
        rw [if_neg h_17] at hQ
        refine r_ex 2 (pc' := 2) (lo' := [some (.inr (.inr (some 79))), some (.inl c), some (.inl h), some (.inl (i + 1))]) (st' := []) rfl ?_
        refine ih v c h (i + 1)  hX (by first | assumption | omega | (unfold R32 at *; omega) | (unfold R64 at *; omega) | (simp only [R32, R64] at *; omega)) (by first | assumption | omega | (unfold R32 at *; omega) | (unfold R64 at *; omega) | (simp only [R32, R64] at *; omega)) (by first | assumption | omega | (unfold R32 at *; omega) | (unfold R64 at *; omega) | (simp only [R32, R64] at *; omega)) (by first | assumption | omega | (unfold R32 at *; omega) | (unfold R64 at *; omega) | (simp only [R32, R64] at *; omega)) hQ
      · show WV _ _ _ 20 _ _ _ _ _
        rw [if_pos h_17] at hQ
        refine r_ex 3 (pc' := 25) (lo' := [some (.inr (.inr (some 79))), some (.inl c), some (.inl h), some (.inl i)]) (st' := [.inl i, .inr (.inr (some 82))]) rfl ?_
        refine r_iald2 (j := 0) (x := (v 82 ((i).toNat))) (pc' := 26) (pc0 := 25) (len := 1) rfl (s_82 _) (by first | assumption | omega | (unfold R32 at *; omega) | (unfold R64 at *; omega) | (simp only [R32, R64] at *; omega)) (by decide) rfl rfl ?_
        have hb_3 : 0 ≤ (v 82 ((i).toNat)) ∧ (v 82 ((i).toNat)) ≤ 99 := hX 82 ((i).toNat)
        refine r_ex 1 (pc' := 27) (lo' := [some (.inr (.inr (some 79))), some (.inl c), some (.inl h), some (.inl i)]) (st' := [.inl h, .inl (v 82 ((i).toNat))]) rfl ?_
        refine n_ic_ne (pc0 := 27) (len := 3) (t := 32) rfl (by first | assumption | omega | (unfold R32 at *; omega) | (unfold R64 at *; omega) | (simp only [R32, R64] at *; omega)) (by first | assumption | omega | (unfold R32 at *; omega) | (unfold R64 at *; omega) | (simp only [R32, R64] at *; omega)) (fun h_27 => ?_) (fun h_27 => ?_)
        · show WV _ _ _ 32 _ _ _ _ _
          rw [if_neg h_27] at hQ
          refine r_ex 2 (pc' := 2) (lo' := [some (.inr (.inr (some 79))), some (.inl c), some (.inl h), some (.inl (i + 1))]) (st' := []) rfl ?_
          refine ih v c h (i + 1)  hX (by first | assumption | omega | (unfold R32 at *; omega) | (unfold R64 at *; omega) | (simp only [R32, R64] at *; omega)) (by first | assumption | omega | (unfold R32 at *; omega) | (unfold R64 at *; omega) | (simp only [R32, R64] at *; omega)) (by first | assumption | omega | (unfold R32 at *; omega) | (unfold R64 at *; omega) | (simp only [R32, R64] at *; omega)) (by first | assumption | omega | (unfold R32 at *; omega) | (unfold R64 at *; omega) | (simp only [R32, R64] at *; omega)) hQ
        · show WV _ _ _ 30 _ _ _ _ _
          rw [if_pos h_27] at hQ
          refine r_ex 1 (pc' := 31) (lo' := [some (.inr (.inr (some 79))), some (.inl c), some (.inl h), some (.inl i)]) (st' := [.inl i]) rfl ?_
          refine r_ret (rr := some (.inl i)) (I := .ireturn) (pc0 := 31) (len := 1) rfl rfl ?_
          exact hQ (by first | assumption | omega | (unfold R32 at *; omega) | (unfold R64 at *; omega) | (simp only [R32, R64] at *; omega))

theorem w_cl_earliestBy79 {X : PX} {d b : Nat} {v : VS} {c : Int} {h : Int} (hX : XI v) (hp_a : R32 c) (hp_b : R32 h) {Q : Option PV → Nat → VS → Prop} (hQ : (-1 ≤ (cl_earliestBy79 v c h) ∧ (cl_earliestBy79 v c h) < v 79 4 ∧ (cl_earliestBy79 v c h) ≤ 299) → Q (some (.inl (cl_earliestBy79 v c h))) b v) : WV X d 156 0 [some (.inr (.inr (some 79))), some (.inl c), some (.inl h), none] [] b v Q := by
  rw [cl_earliestBy79] at hQ
  refine r_ex 2 (pc' := 2) (lo' := [some (.inr (.inr (some 79))), some (.inl c), some (.inl h), some (.inl 0)]) (st' := []) rfl ?_
  exact l_cl_earliestBy79_2 301 v c h 0  hX (by first | assumption | omega | (unfold R32 at *; omega) | (unfold R64 at *; omega) | (simp only [R32, R64] at *; omega)) (by first | assumption | omega | (unfold R32 at *; omega) | (unfold R64 at *; omega) | (simp only [R32, R64] at *; omega)) (by first | assumption | omega | (unfold R32 at *; omega) | (unfold R64 at *; omega) | (simp only [R32, R64] at *; omega)) (by first | assumption | omega | (unfold R32 at *; omega) | (unfold R64 at *; omega) | (simp only [R32, R64] at *; omega)) hQ

theorem e_cl_earliestBy79 {X : PX} {d b : Nat} {v : VS} {c : Int} {h : Int} (hX : XI v) (hp_a : R32 c) (hp_b : R32 h) : EvV X d 156 [.inr (.inr (some 79)), .inl c, .inl h] b v (some (.inl (cl_earliestBy79 v c h))) b v := EvV.of (w_cl_earliestBy79 hX hp_a hp_b (fun _ => ⟨rfl, rfl, rfl⟩))

theorem n_cl_earliestBy79 {v : VS} {c : Int} {h : Int} (hX : XI v) (hp_a : R32 c) (hp_b : R32 h) : -1 ≤ (cl_earliestBy79 v c h) ∧ (cl_earliestBy79 v c h) < v 79 4 ∧ (cl_earliestBy79 v c h) ≤ 299 := by
  have q : WV (0, fun _ => 0, none) 0 156 0 [some (.inr (.inr (some 79))), some (.inl c), some (.inl h), none] [] 1 v (fun _ _ _ => -1 ≤ (cl_earliestBy79 v c h) ∧ (cl_earliestBy79 v c h) < v 79 4 ∧ (cl_earliestBy79 v c h) ≤ 299) := w_cl_earliestBy79 (X := (0, fun _ => 0, none)) (d := 0) (b := 1) hX hp_a hp_b (fun q => q)
  obtain ⟨_, _, _, _, _, _, _, q⟩ := q
  exact q

def cl_allStruckBy79_4 : Nat → VS → Int → Int → Int → Int
  | 0, v, n, s, i => 0
  | f + 1, v, n, s, i => (if i < n then (if (cl_nextOf79 v i 0) = (-1) then (-1) else (cl_allStruckBy79_4 f v n (max s (v 80 (((cl_nextOf79 v i 0)).toNat))) (i + 1))) else s)
def cl_allStruckBy79 (v : VS) (n : Int) : Int :=
  (cl_allStruckBy79_4 10 v n (-1) 0)
theorem l_cl_allStruckBy79_4 {X : PX} {d b : Nat} {Q : Option PV → Nat → VS → Prop}  : ∀ (f : Nat) (v : VS) (n : Int) (s : Int) (i : Int) (o4 : Option PV), XI v → (0 ≤ i ∧ i ≤ 9) → (-1 ≤ s ∧ s ≤ 299) → (0 ≤ n ∧ n ≤ 9) → (9 < i + f) → ((-1 ≤ (cl_allStruckBy79_4 f v n s i) ∧ (cl_allStruckBy79_4 f v n s i) ≤ 299) → Q (some (.inl (cl_allStruckBy79_4 f v n s i))) b v) → WV X (d + 1) 129 4 [some (.inr (.inr (some 79))), some (.inl n), some (.inl s), some (.inl i), o4] [] b v Q := by
  intro f
  induction f with
  | zero =>
    intro v n s i o4 hX hi_0 hi_1 hi_2 hf hQ
    exfalso
    omega
  | succ f ih =>
    intro v n s i o4 hX hi_0 hi_1 hi_2 hf hQ
    rw [cl_allStruckBy79_4] at hQ
    refine r_ex 2 (pc' := 6) (lo' := [some (.inr (.inr (some 79))), some (.inl n), some (.inl s), some (.inl i), o4]) (st' := [.inl n, .inl i]) rfl ?_
    refine n_ic_ge (pc0 := 6) (len := 3) (t := 43) rfl (by first | assumption | omega | (unfold R32 at *; omega) | (unfold R64 at *; omega) | (simp only [R32, R64] at *; omega)) (by first | assumption | omega | (unfold R32 at *; omega) | (unfold R64 at *; omega) | (simp only [R32, R64] at *; omega)) (fun h_6 => ?_) (fun h_6 => ?_)
    · show WV _ _ _ 43 _ _ _ _ _
      rw [if_neg h_6] at hQ
      refine r_ex 1 (pc' := 44) (lo' := [some (.inr (.inr (some 79))), some (.inl n), some (.inl s), some (.inl i), o4]) (st' := [.inl s]) rfl ?_
      refine r_ret (rr := some (.inl s)) (I := .ireturn) (pc0 := 44) (len := 1) rfl rfl ?_
      exact hQ (by first | assumption | omega | (unfold R32 at *; omega) | (unfold R64 at *; omega) | (simp only [R32, R64] at *; omega))
    · show WV _ _ _ 9 _ _ _ _ _
      rw [if_pos h_6] at hQ
      refine r_ex 3 (pc' := 12) (lo' := [some (.inr (.inr (some 79))), some (.inl n), some (.inl s), some (.inl i), o4]) (st' := [.inl 0, .inl i, .inr (.inr (some 79))]) rfl ?_
      have hp_1 : R32 i := (by first | assumption | omega | (unfold R32 at *; omega) | (unfold R64 at *; omega) | (simp only [R32, R64] at *; omega))
      have hp_2 : 0 ≤ (0 : Int) ∧ (0 : Int) ≤ 300 := (by first | assumption | omega | (unfold R32 at *; omega) | (unfold R64 at *; omega) | (simp only [R32, R64] at *; omega))
      refine r_call (m := 93) (args := [.inr (.inr (some 79)), .inl i, .inl 0]) (n' := 129) (pc' := 15) (lo' := [some (.inr (.inr (some 79))), some (.inl n), some (.inl s), some (.inl i), o4]) (st' := []) (I := .invokevirtual 93) (pc0 := 12) (len := 3) rfl rfl rfl (e_cl_nextOf79 hX hp_1 hp_2) ?_
      show WV _ _ _ 15 _ [.inl (cl_nextOf79 v i 0)] _ _ _
      have hb_3 := n_cl_nextOf79 (v := v) (c := i) (s := 0) hX hp_1 hp_2
      refine r_ex 3 (pc' := 20) (lo' := [some (.inr (.inr (some 79))), some (.inl n), some (.inl s), some (.inl i), some (.inl (cl_nextOf79 v i 0))]) (st' := [.inl (-1), .inl (cl_nextOf79 v i 0)]) rfl ?_
      refine n_ic_ne (pc0 := 20) (len := 3) (t := 25) rfl (by first | assumption | omega | (unfold R32 at *; omega) | (unfold R64 at *; omega) | (simp only [R32, R64] at *; omega)) (by first | assumption | omega | (unfold R32 at *; omega) | (unfold R64 at *; omega) | (simp only [R32, R64] at *; omega)) (fun h_20 => ?_) (fun h_20 => ?_)
      · show WV _ _ _ 25 _ _ _ _ _
        rw [if_neg h_20] at hQ
        refine r_ex 4 (pc' := 32) (lo' := [some (.inr (.inr (some 79))), some (.inl n), some (.inl s), some (.inl i), some (.inl (cl_nextOf79 v i 0))]) (st' := [.inl (cl_nextOf79 v i 0), .inr (.inr (some 80)), .inl s]) rfl ?_
        refine r_iald2 (j := 0) (x := (v 80 (((cl_nextOf79 v i 0)).toNat))) (pc' := 33) (pc0 := 32) (len := 1) rfl (s_80 _) (by first | assumption | omega | (unfold R32 at *; omega) | (unfold R64 at *; omega) | (simp only [R32, R64] at *; omega)) (by decide) rfl rfl ?_
        have hb_4 : 0 ≤ (v 80 (((cl_nextOf79 v i 0)).toNat)) ∧ (v 80 (((cl_nextOf79 v i 0)).toNat)) ≤ 299 := hX 80 (((cl_nextOf79 v i 0)).toNat)
        refine r_prim (x := .inl (if w32 s < w32 (v 80 (((cl_nextOf79 v i 0)).toNat)) then (v 80 (((cl_nextOf79 v i 0)).toNat)) else s)) (m := 69) (args := [.inl s, .inl (v 80 (((cl_nextOf79 v i 0)).toNat))]) (n' := 129) (pc' := 36) (lo' := [some (.inr (.inr (some 79))), some (.inl n), some (.inl s), some (.inl i), some (.inl (cl_nextOf79 v i 0))]) (st' := []) (I := .invokestatic 69) (pc0 := 33) (len := 3) rfl rfl rfl ?_
        rw [mx32 (by first | assumption | omega | (unfold R32 at *; omega) | (unfold R64 at *; omega) | (simp only [R32, R64] at *; omega)) (by first | assumption | omega | (unfold R32 at *; omega) | (unfold R64 at *; omega) | (simp only [R32, R64] at *; omega))]
        refine r_ex 3 (pc' := 4) (lo' := [some (.inr (.inr (some 79))), some (.inl n), some (.inl (max s (v 80 (((cl_nextOf79 v i 0)).toNat)))), some (.inl (i + 1)), some (.inl (cl_nextOf79 v i 0))]) (st' := []) rfl ?_
        refine ih v n (max s (v 80 (((cl_nextOf79 v i 0)).toNat))) (i + 1) _ hX (by first | assumption | omega | (unfold R32 at *; omega) | (unfold R64 at *; omega) | (simp only [R32, R64] at *; omega)) (by first | assumption | omega | (unfold R32 at *; omega) | (unfold R64 at *; omega) | (simp only [R32, R64] at *; omega)) (by first | assumption | omega | (unfold R32 at *; omega) | (unfold R64 at *; omega) | (simp only [R32, R64] at *; omega)) (by first | assumption | omega | (unfold R32 at *; omega) | (unfold R64 at *; omega) | (simp only [R32, R64] at *; omega)) hQ
      · show WV _ _ _ 23 _ _ _ _ _
        rw [if_pos h_20] at hQ
        refine r_ex 1 (pc' := 24) (lo' := [some (.inr (.inr (some 79))), some (.inl n), some (.inl s), some (.inl i), some (.inl (cl_nextOf79 v i 0))]) (st' := [.inl (-1)]) rfl ?_
        refine r_ret (rr := some (.inl (-1))) (I := .ireturn) (pc0 := 24) (len := 1) rfl rfl ?_
        exact hQ (by first | assumption | omega | (unfold R32 at *; omega) | (unfold R64 at *; omega) | (simp only [R32, R64] at *; omega))

theorem w_cl_allStruckBy79 {X : PX} {d b : Nat} {v : VS} {n : Int} (hX : XI v) (hp_a : 0 ≤ n ∧ n ≤ 9) {Q : Option PV → Nat → VS → Prop} (hQ : (-1 ≤ (cl_allStruckBy79 v n) ∧ (cl_allStruckBy79 v n) ≤ 299) → Q (some (.inl (cl_allStruckBy79 v n))) b v) : WV X (d + 1) 129 0 [some (.inr (.inr (some 79))), some (.inl n), none, none, none] [] b v Q := by
  rw [cl_allStruckBy79] at hQ
  refine r_ex 4 (pc' := 4) (lo' := [some (.inr (.inr (some 79))), some (.inl n), some (.inl (-1)), some (.inl 0), none]) (st' := []) rfl ?_
  exact l_cl_allStruckBy79_4 10 v n (-1) 0 _ hX (by first | assumption | omega | (unfold R32 at *; omega) | (unfold R64 at *; omega) | (simp only [R32, R64] at *; omega)) (by first | assumption | omega | (unfold R32 at *; omega) | (unfold R64 at *; omega) | (simp only [R32, R64] at *; omega)) (by first | assumption | omega | (unfold R32 at *; omega) | (unfold R64 at *; omega) | (simp only [R32, R64] at *; omega)) (by first | assumption | omega | (unfold R32 at *; omega) | (unfold R64 at *; omega) | (simp only [R32, R64] at *; omega)) hQ

theorem e_cl_allStruckBy79 {X : PX} {d b : Nat} {v : VS} {n : Int} (hX : XI v) (hp_a : 0 ≤ n ∧ n ≤ 9) : EvV X (d + 1) 129 [.inr (.inr (some 79)), .inl n] b v (some (.inl (cl_allStruckBy79 v n))) b v := EvV.of (w_cl_allStruckBy79 hX hp_a (fun _ => ⟨rfl, rfl, rfl⟩))

theorem n_cl_allStruckBy79 {v : VS} {n : Int} (hX : XI v) (hp_a : 0 ≤ n ∧ n ≤ 9) : -1 ≤ (cl_allStruckBy79 v n) ∧ (cl_allStruckBy79 v n) ≤ 299 := by
  have q : WV (0, fun _ => 0, none) (0 + 1) 129 0 [some (.inr (.inr (some 79))), some (.inl n), none, none, none] [] 1 v (fun _ _ _ => -1 ≤ (cl_allStruckBy79 v n) ∧ (cl_allStruckBy79 v n) ≤ 299) := w_cl_allStruckBy79 (X := (0, fun _ => 0, none)) (d := 0) (b := 1) hX hp_a (fun q => q)
  obtain ⟨_, _, _, _, _, _, _, q⟩ := q
  exact q

def cl_comesOf79_5 : Nat → VS → Int → Int → Int → Int
  | 0, v, o, a, s => 0
  | f + 1, v, o, a, s => (if s < (v 79 4) then (if o < a then (cl_comesOf79_5 f v o (v 83 ((a).toNat)) (s + 1)) else (if a = o then 1 else 0)) else (if a = o then 1 else 0))
def cl_comesOf79 (v : VS) (i : Int) (o : Int) : Int :=
  (cl_comesOf79_5 301 v o i 0)
theorem l_cl_comesOf79_5 {X : PX} {d b : Nat} {Q : Option PV → Nat → VS → Prop}  : ∀ (f : Nat) (v : VS) (o : Int) (a : Int) (s : Int) (o1 : Option PV), XI v → (-1 ≤ a ∧ a ≤ 299) → (0 ≤ s ∧ s ≤ 300) → (0 ≤ o ∧ o ≤ 299) → (300 < s + f) → ((0 ≤ (cl_comesOf79_5 f v o a s) ∧ (cl_comesOf79_5 f v o a s) ≤ 1) → Q (some (.inl (cl_comesOf79_5 f v o a s))) b v) → WV X d 134 5 [some (.inr (.inr (some 79))), o1, some (.inl o), some (.inl a), some (.inl s)] [] b v Q := by
  intro f
  induction f with
  | zero =>
    intro v o a s o1 hX hi_0 hi_1 hi_2 hf hQ
    exfalso
    omega
  | succ f ih =>
    intro v o a s o1 hX hi_0 hi_1 hi_2 hf hQ
    rw [cl_comesOf79_5] at hQ
    refine r_ex 3 (pc' := 11) (lo' := [some (.inr (.inr (some 79))), o1, some (.inl o), some (.inl a), some (.inl s)]) (st' := [.inl (v 79 4), .inl s]) rfl ?_
    have hb_1 : 0 ≤ (v 79 4) ∧ (v 79 4) ≤ 300 := hX 79 4
    refine n_ic_ge (pc0 := 11) (len := 3) (t := 32) rfl (by first | assumption | omega | (unfold R32 at *; omega) | (unfold R64 at *; omega) | (simp only [R32, R64] at *; omega)) (by first | assumption | omega | (unfold R32 at *; omega) | (unfold R64 at *; omega) | (simp only [R32, R64] at *; omega)) (fun h_11 => ?_) (fun h_11 => ?_)
    · show WV _ _ _ 32 _ _ _ _ _
      rw [if_neg h_11] at hQ
      refine r_ex 2 (pc' := 34) (lo' := [some (.inr (.inr (some 79))), o1, some (.inl o), some (.inl a), some (.inl s)]) (st' := [.inl o, .inl a]) rfl ?_
      refine n_ic_ne (pc0 := 34) (len := 3) (t := 41) rfl (by first | assumption | omega | (unfold R32 at *; omega) | (unfold R64 at *; omega) | (simp only [R32, R64] at *; omega)) (by first | assumption | omega | (unfold R32 at *; omega) | (unfold R64 at *; omega) | (simp only [R32, R64] at *; omega)) (fun h_34 => ?_) (fun h_34 => ?_)
      · show WV _ _ _ 41 _ _ _ _ _
        rw [if_neg h_34] at hQ
        refine r_ex 1 (pc' := 42) (lo' := [some (.inr (.inr (some 79))), o1, some (.inl o), some (.inl a), some (.inl s)]) (st' := [.inl 0]) rfl ?_
        refine r_ret (rr := some (.inl 0)) (I := .ireturn) (pc0 := 42) (len := 1) rfl rfl ?_
        exact hQ (by first | assumption | omega | (unfold R32 at *; omega) | (unfold R64 at *; omega) | (simp only [R32, R64] at *; omega))
      · show WV _ _ _ 37 _ _ _ _ _
        rw [if_pos h_34] at hQ
        refine r_ex 2 (pc' := 42) (lo' := [some (.inr (.inr (some 79))), o1, some (.inl o), some (.inl a), some (.inl s)]) (st' := [.inl 1]) rfl ?_
        refine r_ret (rr := some (.inl 1)) (I := .ireturn) (pc0 := 42) (len := 1) rfl rfl ?_
        exact hQ (by first | assumption | omega | (unfold R32 at *; omega) | (unfold R64 at *; omega) | (simp only [R32, R64] at *; omega))
    · show WV _ _ _ 14 _ _ _ _ _
      rw [if_pos h_11] at hQ
      refine r_ex 2 (pc' := 16) (lo' := [some (.inr (.inr (some 79))), o1, some (.inl o), some (.inl a), some (.inl s)]) (st' := [.inl o, .inl a]) rfl ?_
      refine n_ic_le (pc0 := 16) (len := 3) (t := 32) rfl (by first | assumption | omega | (unfold R32 at *; omega) | (unfold R64 at *; omega) | (simp only [R32, R64] at *; omega)) (by first | assumption | omega | (unfold R32 at *; omega) | (unfold R64 at *; omega) | (simp only [R32, R64] at *; omega)) (fun h_16 => ?_) (fun h_16 => ?_)
      · show WV _ _ _ 32 _ _ _ _ _
        rw [if_neg h_16] at hQ
        refine r_ex 2 (pc' := 34) (lo' := [some (.inr (.inr (some 79))), o1, some (.inl o), some (.inl a), some (.inl s)]) (st' := [.inl o, .inl a]) rfl ?_
        refine n_ic_ne (pc0 := 34) (len := 3) (t := 41) rfl (by first | assumption | omega | (unfold R32 at *; omega) | (unfold R64 at *; omega) | (simp only [R32, R64] at *; omega)) (by first | assumption | omega | (unfold R32 at *; omega) | (unfold R64 at *; omega) | (simp only [R32, R64] at *; omega)) (fun h_34 => ?_) (fun h_34 => ?_)
        · show WV _ _ _ 41 _ _ _ _ _
          rw [if_neg h_34] at hQ
          refine r_ex 1 (pc' := 42) (lo' := [some (.inr (.inr (some 79))), o1, some (.inl o), some (.inl a), some (.inl s)]) (st' := [.inl 0]) rfl ?_
          refine r_ret (rr := some (.inl 0)) (I := .ireturn) (pc0 := 42) (len := 1) rfl rfl ?_
          exact hQ (by first | assumption | omega | (unfold R32 at *; omega) | (unfold R64 at *; omega) | (simp only [R32, R64] at *; omega))
        · show WV _ _ _ 37 _ _ _ _ _
          rw [if_pos h_34] at hQ
          refine r_ex 2 (pc' := 42) (lo' := [some (.inr (.inr (some 79))), o1, some (.inl o), some (.inl a), some (.inl s)]) (st' := [.inl 1]) rfl ?_
          refine r_ret (rr := some (.inl 1)) (I := .ireturn) (pc0 := 42) (len := 1) rfl rfl ?_
          exact hQ (by first | assumption | omega | (unfold R32 at *; omega) | (unfold R64 at *; omega) | (simp only [R32, R64] at *; omega))
      · show WV _ _ _ 19 _ _ _ _ _
        rw [if_pos h_16] at hQ
        refine r_ex 3 (pc' := 24) (lo' := [some (.inr (.inr (some 79))), o1, some (.inl o), some (.inl a), some (.inl s)]) (st' := [.inl a, .inr (.inr (some 83))]) rfl ?_
        refine r_iald2 (j := 0) (x := (v 83 ((a).toNat))) (pc' := 25) (pc0 := 24) (len := 1) rfl (s_83 _) (by first | assumption | omega | (unfold R32 at *; omega) | (unfold R64 at *; omega) | (simp only [R32, R64] at *; omega)) (by decide) rfl rfl ?_
        have hb_2 : -1 ≤ (v 83 ((a).toNat)) ∧ (v 83 ((a).toNat)) ≤ 299 := hX 83 ((a).toNat)
        refine r_ex 3 (pc' := 5) (lo' := [some (.inr (.inr (some 79))), o1, some (.inl o), some (.inl (v 83 ((a).toNat))), some (.inl (s + 1))]) (st' := []) rfl ?_
        refine ih v o (v 83 ((a).toNat)) (s + 1) _ hX (by first | assumption | omega | (unfold R32 at *; omega) | (unfold R64 at *; omega) | (simp only [R32, R64] at *; omega)) (by first | assumption | omega | (unfold R32 at *; omega) | (unfold R64 at *; omega) | (simp only [R32, R64] at *; omega)) (by first | assumption | omega | (unfold R32 at *; omega) | (unfold R64 at *; omega) | (simp only [R32, R64] at *; omega)) (by first | assumption | omega | (unfold R32 at *; omega) | (unfold R64 at *; omega) | (simp only [R32, R64] at *; omega)) hQ

theorem w_cl_comesOf79 {X : PX} {d b : Nat} {v : VS} {i : Int} {o : Int} (hX : XI v) (hp_a : 0 ≤ i ∧ i ≤ 299) (hp_b : 0 ≤ o ∧ o ≤ 299) {Q : Option PV → Nat → VS → Prop} (hQ : (0 ≤ (cl_comesOf79 v i o) ∧ (cl_comesOf79 v i o) ≤ 1) → Q (some (.inl (cl_comesOf79 v i o))) b v) : WV X d 134 0 [some (.inr (.inr (some 79))), some (.inl i), some (.inl o), none, none] [] b v Q := by
  rw [cl_comesOf79] at hQ
  refine r_ex 4 (pc' := 5) (lo' := [some (.inr (.inr (some 79))), some (.inl i), some (.inl o), some (.inl i), some (.inl 0)]) (st' := []) rfl ?_
  exact l_cl_comesOf79_5 301 v o i 0 _ hX (by first | assumption | omega | (unfold R32 at *; omega) | (unfold R64 at *; omega) | (simp only [R32, R64] at *; omega)) (by first | assumption | omega | (unfold R32 at *; omega) | (unfold R64 at *; omega) | (simp only [R32, R64] at *; omega)) (by first | assumption | omega | (unfold R32 at *; omega) | (unfold R64 at *; omega) | (simp only [R32, R64] at *; omega)) (by first | assumption | omega | (unfold R32 at *; omega) | (unfold R64 at *; omega) | (simp only [R32, R64] at *; omega)) hQ

theorem e_cl_comesOf79 {X : PX} {d b : Nat} {v : VS} {i : Int} {o : Int} (hX : XI v) (hp_a : 0 ≤ i ∧ i ≤ 299) (hp_b : 0 ≤ o ∧ o ≤ 299) : EvV X d 134 [.inr (.inr (some 79)), .inl i, .inl o] b v (some (.inl (cl_comesOf79 v i o))) b v := EvV.of (w_cl_comesOf79 hX hp_a hp_b (fun _ => ⟨rfl, rfl, rfl⟩))

theorem n_cl_comesOf79 {v : VS} {i : Int} {o : Int} (hX : XI v) (hp_a : 0 ≤ i ∧ i ≤ 299) (hp_b : 0 ≤ o ∧ o ≤ 299) : 0 ≤ (cl_comesOf79 v i o) ∧ (cl_comesOf79 v i o) ≤ 1 := by
  have q : WV (0, fun _ => 0, none) 0 134 0 [some (.inr (.inr (some 79))), some (.inl i), some (.inl o), none, none] [] 1 v (fun _ _ _ => 0 ≤ (cl_comesOf79 v i o) ∧ (cl_comesOf79 v i o) ≤ 1) := w_cl_comesOf79 (X := (0, fun _ => 0, none)) (d := 0) (b := 1) hX hp_a hp_b (fun q => q)
  obtain ⟨_, _, _, _, _, _, _, q⟩ := q
  exact q

def cl_stepsOf79_4 : Nat → VS → Int → Int → Int
  | 0, v, s, a => 0
  | f + 1, v, s, a => (if (v 83 ((a).toNat)) = (-1) then s else (if s < (v 79 4) then (cl_stepsOf79_4 f v (s + 1) (v 83 ((a).toNat))) else s))
def cl_stepsOf79 (v : VS) (i : Int) : Int :=
  (cl_stepsOf79_4 301 v 0 i)
theorem l_cl_stepsOf79_4 {X : PX} {d b : Nat} {Q : Option PV → Nat → VS → Prop}  : ∀ (f : Nat) (v : VS) (s : Int) (a : Int) (z1 : Int), XI v → (0 ≤ a ∧ a ≤ 299) → (0 ≤ s ∧ s ≤ 300) → (300 < s + f) → ((0 ≤ (cl_stepsOf79_4 f v s a) ∧ (cl_stepsOf79_4 f v s a) ≤ 300) → Q (some (.inl (cl_stepsOf79_4 f v s a))) b v) → WV X d 136 4 [some (.inr (.inr (some 79))), some (.inl z1), some (.inl s), some (.inl a)] [] b v Q := by
  intro f
  induction f with
  | zero =>
    intro v s a z1 hX hi_0 hi_1 hf hQ
    exfalso
    omega
  | succ f ih =>
    intro v s a z1 hX hi_0 hi_1 hf hQ
    rw [cl_stepsOf79_4] at hQ
    refine r_ex 3 (pc' := 9) (lo' := [some (.inr (.inr (some 79))), some (.inl z1), some (.inl s), some (.inl a)]) (st' := [.inl a, .inr (.inr (some 83))]) rfl ?_
    refine r_iald2 (j := 0) (x := (v 83 ((a).toNat))) (pc' := 10) (pc0 := 9) (len := 1) rfl (s_83 _) (by first | assumption | omega | (unfold R32 at *; omega) | (unfold R64 at *; omega) | (simp only [R32, R64] at *; omega)) (by decide) rfl rfl ?_
    have hb_1 : -1 ≤ (v 83 ((a).toNat)) ∧ (v 83 ((a).toNat)) ≤ 299 := hX 83 ((a).toNat)
    refine r_ex 1 (pc' := 11) (lo' := [some (.inr (.inr (some 79))), some (.inl z1), some (.inl s), some (.inl a)]) (st' := [.inl (-1), .inl (v 83 ((a).toNat))]) rfl ?_
    refine n_ic_eq (pc0 := 11) (len := 3) (t := 35) rfl (by first | assumption | omega | (unfold R32 at *; omega) | (unfold R64 at *; omega) | (simp only [R32, R64] at *; omega)) (by first | assumption | omega | (unfold R32 at *; omega) | (unfold R64 at *; omega) | (simp only [R32, R64] at *; omega)) (fun h_11 => ?_) (fun h_11 => ?_)
    · show WV _ _ _ 35 _ _ _ _ _
      rw [if_pos h_11] at hQ
      refine r_ex 1 (pc' := 36) (lo' := [some (.inr (.inr (some 79))), some (.inl z1), some (.inl s), some (.inl a)]) (st' := [.inl s]) rfl ?_
      refine r_ret (rr := some (.inl s)) (I := .ireturn) (pc0 := 36) (len := 1) rfl rfl ?_
      exact hQ (by first | assumption | omega | (unfold R32 at *; omega) | (unfold R64 at *; omega) | (simp only [R32, R64] at *; omega))
    · show WV _ _ _ 14 _ _ _ _ _
      rw [if_neg h_11] at hQ
      refine r_ex 3 (pc' := 19) (lo' := [some (.inr (.inr (some 79))), some (.inl z1), some (.inl s), some (.inl a)]) (st' := [.inl (v 79 4), .inl s]) rfl ?_
      have hb_2 : 0 ≤ (v 79 4) ∧ (v 79 4) ≤ 300 := hX 79 4
      refine n_ic_ge (pc0 := 19) (len := 3) (t := 35) rfl (by first | assumption | omega | (unfold R32 at *; omega) | (unfold R64 at *; omega) | (simp only [R32, R64] at *; omega)) (by first | assumption | omega | (unfold R32 at *; omega) | (unfold R64 at *; omega) | (simp only [R32, R64] at *; omega)) (fun h_19 => ?_) (fun h_19 => ?_)
      · show WV _ _ _ 35 _ _ _ _ _
        rw [if_neg h_19] at hQ
        refine r_ex 1 (pc' := 36) (lo' := [some (.inr (.inr (some 79))), some (.inl z1), some (.inl s), some (.inl a)]) (st' := [.inl s]) rfl ?_
        refine r_ret (rr := some (.inl s)) (I := .ireturn) (pc0 := 36) (len := 1) rfl rfl ?_
        exact hQ (by first | assumption | omega | (unfold R32 at *; omega) | (unfold R64 at *; omega) | (simp only [R32, R64] at *; omega))
      · show WV _ _ _ 22 _ _ _ _ _
        rw [if_pos h_19] at hQ
        refine r_ex 4 (pc' := 30) (lo' := [some (.inr (.inr (some 79))), some (.inl z1), some (.inl (s + 1)), some (.inl a)]) (st' := [.inl a, .inr (.inr (some 83))]) rfl ?_
        refine r_iald2 (j := 0) (x := (v 83 ((a).toNat))) (pc' := 31) (pc0 := 30) (len := 1) rfl (s_83 _) (by first | assumption | omega | (unfold R32 at *; omega) | (unfold R64 at *; omega) | (simp only [R32, R64] at *; omega)) (by decide) rfl rfl ?_
        refine r_ex 2 (pc' := 4) (lo' := [some (.inr (.inr (some 79))), some (.inl z1), some (.inl (s + 1)), some (.inl (v 83 ((a).toNat)))]) (st' := []) rfl ?_
        refine ih v (s + 1) (v 83 ((a).toNat)) _ hX (by first | assumption | omega | (unfold R32 at *; omega) | (unfold R64 at *; omega) | (simp only [R32, R64] at *; omega)) (by first | assumption | omega | (unfold R32 at *; omega) | (unfold R64 at *; omega) | (simp only [R32, R64] at *; omega)) (by first | assumption | omega | (unfold R32 at *; omega) | (unfold R64 at *; omega) | (simp only [R32, R64] at *; omega)) hQ

theorem w_cl_stepsOf79 {X : PX} {d b : Nat} {v : VS} {i : Int} (hX : XI v) (hp_a : 0 ≤ i ∧ i ≤ 299) {Q : Option PV → Nat → VS → Prop} (hQ : (0 ≤ (cl_stepsOf79 v i) ∧ (cl_stepsOf79 v i) ≤ 300) → Q (some (.inl (cl_stepsOf79 v i))) b v) : WV X d 136 0 [some (.inr (.inr (some 79))), some (.inl i), none, none] [] b v Q := by
  rw [cl_stepsOf79] at hQ
  refine r_ex 4 (pc' := 4) (lo' := [some (.inr (.inr (some 79))), some (.inl i), some (.inl 0), some (.inl i)]) (st' := []) rfl ?_
  exact l_cl_stepsOf79_4 301 v 0 i _ hX (by first | assumption | omega | (unfold R32 at *; omega) | (unfold R64 at *; omega) | (simp only [R32, R64] at *; omega)) (by first | assumption | omega | (unfold R32 at *; omega) | (unfold R64 at *; omega) | (simp only [R32, R64] at *; omega)) (by first | assumption | omega | (unfold R32 at *; omega) | (unfold R64 at *; omega) | (simp only [R32, R64] at *; omega)) hQ

theorem e_cl_stepsOf79 {X : PX} {d b : Nat} {v : VS} {i : Int} (hX : XI v) (hp_a : 0 ≤ i ∧ i ≤ 299) : EvV X d 136 [.inr (.inr (some 79)), .inl i] b v (some (.inl (cl_stepsOf79 v i))) b v := EvV.of (w_cl_stepsOf79 hX hp_a (fun _ => ⟨rfl, rfl, rfl⟩))

theorem n_cl_stepsOf79 {v : VS} {i : Int} (hX : XI v) (hp_a : 0 ≤ i ∧ i ≤ 299) : 0 ≤ (cl_stepsOf79 v i) ∧ (cl_stepsOf79 v i) ≤ 300 := by
  have q : WV (0, fun _ => 0, none) 0 136 0 [some (.inr (.inr (some 79))), some (.inl i), none, none] [] 1 v (fun _ _ _ => 0 ≤ (cl_stepsOf79 v i) ∧ (cl_stepsOf79 v i) ≤ 300) := w_cl_stepsOf79 (X := (0, fun _ => 0, none)) (d := 0) (b := 1) hX hp_a (fun q => q)
  obtain ⟨_, _, _, _, _, _, _, q⟩ := q
  exact q

def cl_startOf79_4 : Nat → VS → Int → Int → Int
  | 0, v, a, s => 0
  | f + 1, v, a, s => (if s < (v 79 4) then (if (v 83 ((a).toNat)) = (-1) then a else (cl_startOf79_4 f v (v 83 ((a).toNat)) (s + 1))) else a)
def cl_startOf79 (v : VS) (i : Int) : Int :=
  (cl_startOf79_4 301 v i 0)
theorem l_cl_startOf79_4 {X : PX} {d b : Nat} {Q : Option PV → Nat → VS → Prop}  : ∀ (f : Nat) (v : VS) (a : Int) (s : Int) (z1 : Int), XI v → (0 ≤ a ∧ a ≤ 299) → (0 ≤ s ∧ s ≤ 300) → (300 < s + f) → ((0 ≤ (cl_startOf79_4 f v a s) ∧ (cl_startOf79_4 f v a s) ≤ 299) → Q (some (.inl (cl_startOf79_4 f v a s))) b v) → WV X d 138 4 [some (.inr (.inr (some 79))), some (.inl z1), some (.inl a), some (.inl s)] [] b v Q := by
  intro f
  induction f with
  | zero =>
    intro v a s z1 hX hi_0 hi_1 hf hQ
    exfalso
    omega
  | succ f ih =>
    intro v a s z1 hX hi_0 hi_1 hf hQ
    rw [cl_startOf79_4] at hQ
    refine r_ex 3 (pc' := 9) (lo' := [some (.inr (.inr (some 79))), some (.inl z1), some (.inl a), some (.inl s)]) (st' := [.inl (v 79 4), .inl s]) rfl ?_
    have hb_1 : 0 ≤ (v 79 4) ∧ (v 79 4) ≤ 300 := hX 79 4
    refine n_ic_ge (pc0 := 9) (len := 3) (t := 35) rfl (by first | assumption | omega | (unfold R32 at *; omega) | (unfold R64 at *; omega) | (simp only [R32, R64] at *; omega)) (by first | assumption | omega | (unfold R32 at *; omega) | (unfold R64 at *; omega) | (simp only [R32, R64] at *; omega)) (fun h_9 => ?_) (fun h_9 => ?_)
    · show WV _ _ _ 35 _ _ _ _ _
      rw [if_neg h_9] at hQ
      refine r_ex 1 (pc' := 36) (lo' := [some (.inr (.inr (some 79))), some (.inl z1), some (.inl a), some (.inl s)]) (st' := [.inl a]) rfl ?_
      refine r_ret (rr := some (.inl a)) (I := .ireturn) (pc0 := 36) (len := 1) rfl rfl ?_
      exact hQ (by first | assumption | omega | (unfold R32 at *; omega) | (unfold R64 at *; omega) | (simp only [R32, R64] at *; omega))
    · show WV _ _ _ 12 _ _ _ _ _
      rw [if_pos h_9] at hQ
      refine r_ex 3 (pc' := 17) (lo' := [some (.inr (.inr (some 79))), some (.inl z1), some (.inl a), some (.inl s)]) (st' := [.inl a, .inr (.inr (some 83))]) rfl ?_
      refine r_iald2 (j := 0) (x := (v 83 ((a).toNat))) (pc' := 18) (pc0 := 17) (len := 1) rfl (s_83 _) (by first | assumption | omega | (unfold R32 at *; omega) | (unfold R64 at *; omega) | (simp only [R32, R64] at *; omega)) (by decide) rfl rfl ?_
      have hb_2 : -1 ≤ (v 83 ((a).toNat)) ∧ (v 83 ((a).toNat)) ≤ 299 := hX 83 ((a).toNat)
      refine r_ex 1 (pc' := 19) (lo' := [some (.inr (.inr (some 79))), some (.inl z1), some (.inl a), some (.inl s)]) (st' := [.inl (-1), .inl (v 83 ((a).toNat))]) rfl ?_
      refine n_ic_eq (pc0 := 19) (len := 3) (t := 35) rfl (by first | assumption | omega | (unfold R32 at *; omega) | (unfold R64 at *; omega) | (simp only [R32, R64] at *; omega)) (by first | assumption | omega | (unfold R32 at *; omega) | (unfold R64 at *; omega) | (simp only [R32, R64] at *; omega)) (fun h_19 => ?_) (fun h_19 => ?_)
      · show WV _ _ _ 35 _ _ _ _ _
        rw [if_pos h_19] at hQ
        refine r_ex 1 (pc' := 36) (lo' := [some (.inr (.inr (some 79))), some (.inl z1), some (.inl a), some (.inl s)]) (st' := [.inl a]) rfl ?_
        refine r_ret (rr := some (.inl a)) (I := .ireturn) (pc0 := 36) (len := 1) rfl rfl ?_
        exact hQ (by first | assumption | omega | (unfold R32 at *; omega) | (unfold R64 at *; omega) | (simp only [R32, R64] at *; omega))
      · show WV _ _ _ 22 _ _ _ _ _
        rw [if_neg h_19] at hQ
        refine r_ex 3 (pc' := 27) (lo' := [some (.inr (.inr (some 79))), some (.inl z1), some (.inl a), some (.inl s)]) (st' := [.inl a, .inr (.inr (some 83))]) rfl ?_
        refine r_iald2 (j := 0) (x := (v 83 ((a).toNat))) (pc' := 28) (pc0 := 27) (len := 1) rfl (s_83 _) (by first | assumption | omega | (unfold R32 at *; omega) | (unfold R64 at *; omega) | (simp only [R32, R64] at *; omega)) (by decide) rfl rfl ?_
        refine r_ex 3 (pc' := 4) (lo' := [some (.inr (.inr (some 79))), some (.inl z1), some (.inl (v 83 ((a).toNat))), some (.inl (s + 1))]) (st' := []) rfl ?_
        refine ih v (v 83 ((a).toNat)) (s + 1) _ hX (by first | assumption | omega | (unfold R32 at *; omega) | (unfold R64 at *; omega) | (simp only [R32, R64] at *; omega)) (by first | assumption | omega | (unfold R32 at *; omega) | (unfold R64 at *; omega) | (simp only [R32, R64] at *; omega)) (by first | assumption | omega | (unfold R32 at *; omega) | (unfold R64 at *; omega) | (simp only [R32, R64] at *; omega)) hQ

theorem w_cl_startOf79 {X : PX} {d b : Nat} {v : VS} {i : Int} (hX : XI v) (hp_a : 0 ≤ i ∧ i ≤ 299) {Q : Option PV → Nat → VS → Prop} (hQ : (0 ≤ (cl_startOf79 v i) ∧ (cl_startOf79 v i) ≤ 299) → Q (some (.inl (cl_startOf79 v i))) b v) : WV X d 138 0 [some (.inr (.inr (some 79))), some (.inl i), none, none] [] b v Q := by
  rw [cl_startOf79] at hQ
  refine r_ex 4 (pc' := 4) (lo' := [some (.inr (.inr (some 79))), some (.inl i), some (.inl i), some (.inl 0)]) (st' := []) rfl ?_
  exact l_cl_startOf79_4 301 v i 0 _ hX (by first | assumption | omega | (unfold R32 at *; omega) | (unfold R64 at *; omega) | (simp only [R32, R64] at *; omega)) (by first | assumption | omega | (unfold R32 at *; omega) | (unfold R64 at *; omega) | (simp only [R32, R64] at *; omega)) (by first | assumption | omega | (unfold R32 at *; omega) | (unfold R64 at *; omega) | (simp only [R32, R64] at *; omega)) hQ

theorem e_cl_startOf79 {X : PX} {d b : Nat} {v : VS} {i : Int} (hX : XI v) (hp_a : 0 ≤ i ∧ i ≤ 299) : EvV X d 138 [.inr (.inr (some 79)), .inl i] b v (some (.inl (cl_startOf79 v i))) b v := EvV.of (w_cl_startOf79 hX hp_a (fun _ => ⟨rfl, rfl, rfl⟩))

theorem n_cl_startOf79 {v : VS} {i : Int} (hX : XI v) (hp_a : 0 ≤ i ∧ i ≤ 299) : 0 ≤ (cl_startOf79 v i) ∧ (cl_startOf79 v i) ≤ 299 := by
  have q : WV (0, fun _ => 0, none) 0 138 0 [some (.inr (.inr (some 79))), some (.inl i), none, none] [] 1 v (fun _ _ _ => 0 ≤ (cl_startOf79 v i) ∧ (cl_startOf79 v i) ≤ 299) := w_cl_startOf79 (X := (0, fun _ => 0, none)) (d := 0) (b := 1) hX hp_a (fun q => q)
  obtain ⟨_, _, _, _, _, _, _, q⟩ := q
  exact q

def cl_has91 (v : VS) (i : Int) : Int :=
  (if i < 0 then 0 else (if i < (v 91 4) then 1 else 0))
theorem w_cl_has91 {X : PX} {d b : Nat} {v : VS} {i : Int} (hX : XI v) (hp_a : R32 i) {Q : Option PV → Nat → VS → Prop} (hQ : Q (some (.inl (cl_has91 v i))) b v) : WV X d 87 0 [some (.inr (.inr (some 91))), some (.inl i)] [] b v Q := by
  rw [cl_has91] at hQ
  refine r_ex 1 (pc' := 1) (lo' := [some (.inr (.inr (some 91))), some (.inl i)]) (st' := [.inl i]) rfl ?_
  refine n_if_lt (pc0 := 1) (len := 3) (t := 16) rfl (by first | assumption | omega | (unfold R32 at *; omega) | (unfold R64 at *; omega) | (simp only [R32, R64] at *; omega)) (fun h_1 => ?_) (fun h_1 => ?_)
  · show WV _ _ _ 16 _ _ _ _ _
    rw [if_pos h_1] at hQ
    refine r_ex 1 (pc' := 17) (lo' := [some (.inr (.inr (some 91))), some (.inl i)]) (st' := [.inl 0]) rfl ?_
    refine r_ret (rr := some (.inl 0)) (I := .ireturn) (pc0 := 17) (len := 1) rfl rfl ?_
    exact hQ 
  · show WV _ _ _ 4 _ _ _ _ _
    rw [if_neg h_1] at hQ
    refine r_ex 3 (pc' := 9) (lo' := [some (.inr (.inr (some 91))), some (.inl i)]) (st' := [.inl (v 91 4), .inl i]) rfl ?_
    have hb_1 : 0 ≤ (v 91 4) ∧ (v 91 4) ≤ 300 := hX 91 4
    refine n_ic_ge (pc0 := 9) (len := 3) (t := 16) rfl (by first | assumption | omega | (unfold R32 at *; omega) | (unfold R64 at *; omega) | (simp only [R32, R64] at *; omega)) (by first | assumption | omega | (unfold R32 at *; omega) | (unfold R64 at *; omega) | (simp only [R32, R64] at *; omega)) (fun h_9 => ?_) (fun h_9 => ?_)
    · show WV _ _ _ 16 _ _ _ _ _
      rw [if_neg h_9] at hQ
      refine r_ex 1 (pc' := 17) (lo' := [some (.inr (.inr (some 91))), some (.inl i)]) (st' := [.inl 0]) rfl ?_
      refine r_ret (rr := some (.inl 0)) (I := .ireturn) (pc0 := 17) (len := 1) rfl rfl ?_
      exact hQ 
    · show WV _ _ _ 12 _ _ _ _ _
      rw [if_pos h_9] at hQ
      refine r_ex 2 (pc' := 17) (lo' := [some (.inr (.inr (some 91))), some (.inl i)]) (st' := [.inl 1]) rfl ?_
      refine r_ret (rr := some (.inl 1)) (I := .ireturn) (pc0 := 17) (len := 1) rfl rfl ?_
      exact hQ 

theorem q_cl_has91 {X : PX} {d b : Nat} {v : VS} {i : Int} (hX : XI v) (hp_a : R32 i) : EvV X d 87 [.inr (.inr (some 91)), .inl i] b v (some (.inl (cl_has91 v i))) b v := EvV.of (w_cl_has91 hX hp_a (⟨rfl, rfl, rfl⟩))

theorem p_cl_has91 {v : VS} {i : Int} : (cl_has91 v i) = (if 0 ≤ i ∧ i < v 91 4 then 1 else 0) := by
  unfold cl_has91
  repeat' split
  all_goals omega

theorem e_cl_has91 {X : PX} {d b : Nat} {v : VS} {i : Int} (hX : XI v) (hp_a : R32 i) : EvV X d 87 [.inr (.inr (some 91)), .inl i] b v (some (.inl (if 0 ≤ i ∧ i < v 91 4 then 1 else 0))) b v := by
  rw [← p_cl_has91]
  exact q_cl_has91 hX hp_a

def cl_latest91 (v : VS)  : Int :=
  (if (v 91 4) = 0 then (-1) else (v 92 ((((v 91 4) - 1)).toNat)))
theorem w_cl_latest91 {X : PX} {d b : Nat} {v : VS}  (hX : XI v)  {Q : Option PV → Nat → VS → Prop} (hQ : (-1 ≤ (cl_latest91 v) ∧ (cl_latest91 v) ≤ 299) → Q (some (.inl (cl_latest91 v))) b v) : WV X d 105 0 [some (.inr (.inr (some 91)))] [] b v Q := by
  rw [cl_latest91] at hQ
  refine r_ex 2 (pc' := 4) (lo' := [some (.inr (.inr (some 91)))]) (st' := [.inl (v 91 4)]) rfl ?_
  have hb_1 : 0 ≤ (v 91 4) ∧ (v 91 4) ≤ 300 := hX 91 4
  refine n_if_ne (pc0 := 4) (len := 3) (t := 11) rfl (by first | assumption | omega | (unfold R32 at *; omega) | (unfold R64 at *; omega) | (simp only [R32, R64] at *; omega)) (fun h_4 => ?_) (fun h_4 => ?_)
  · show WV _ _ _ 11 _ _ _ _ _
    rw [if_neg h_4] at hQ
    refine r_ex 6 (pc' := 21) (lo' := [some (.inr (.inr (some 91)))]) (st' := [.inl ((v 91 4) - 1), .inr (.inr (some 92))]) rfl ?_
    refine r_iald2 (j := 0) (x := (v 92 ((((v 91 4) - 1)).toNat))) (pc' := 22) (pc0 := 21) (len := 1) rfl (s_92 _) (by first | assumption | omega | (unfold R32 at *; omega) | (unfold R64 at *; omega) | (simp only [R32, R64] at *; omega)) (by decide) rfl rfl ?_
    have hb_2 : 0 ≤ (v 92 ((((v 91 4) - 1)).toNat)) ∧ (v 92 ((((v 91 4) - 1)).toNat)) ≤ 299 := hX 92 ((((v 91 4) - 1)).toNat)
    refine r_ret (rr := some (.inl (v 92 ((((v 91 4) - 1)).toNat)))) (I := .ireturn) (pc0 := 22) (len := 1) rfl rfl ?_
    exact hQ (by first | assumption | omega | (unfold R32 at *; omega) | (unfold R64 at *; omega) | (simp only [R32, R64] at *; omega))
  · show WV _ _ _ 7 _ _ _ _ _
    rw [if_pos h_4] at hQ
    refine r_ex 2 (pc' := 22) (lo' := [some (.inr (.inr (some 91)))]) (st' := [.inl (-1)]) rfl ?_
    refine r_ret (rr := some (.inl (-1))) (I := .ireturn) (pc0 := 22) (len := 1) rfl rfl ?_
    exact hQ (by first | assumption | omega | (unfold R32 at *; omega) | (unfold R64 at *; omega) | (simp only [R32, R64] at *; omega))

theorem e_cl_latest91 {X : PX} {d b : Nat} {v : VS}  (hX : XI v)  : EvV X d 105 [.inr (.inr (some 91))] b v (some (.inl (cl_latest91 v))) b v := EvV.of (w_cl_latest91 hX  (fun _ => ⟨rfl, rfl, rfl⟩))

theorem n_cl_latest91 {v : VS}  (hX : XI v)  : -1 ≤ (cl_latest91 v) ∧ (cl_latest91 v) ≤ 299 := by
  have q : WV (0, fun _ => 0, none) 0 105 0 [some (.inr (.inr (some 91)))] [] 1 v (fun _ _ _ => -1 ≤ (cl_latest91 v) ∧ (cl_latest91 v) ≤ 299) := w_cl_latest91 (X := (0, fun _ => 0, none)) (d := 0) (b := 1) hX  (fun q => q)
  obtain ⟨_, _, _, _, _, _, _, q⟩ := q
  exact q

def cl_nextOf91_2 : Nat → VS → Int → Int → Int
  | 0, v, c, i => 0
  | f + 1, v, c, i => (if i < (v 91 4) then (if (v 93 ((i).toNat)) = c then i else (cl_nextOf91_2 f v c (i + 1))) else (-1))
def cl_nextOf91 (v : VS) (c : Int) (s : Int) : Int :=
  (cl_nextOf91_2 301 v c s)
theorem l_cl_nextOf91_2 {X : PX} {d b : Nat} {Q : Option PV → Nat → VS → Prop}  : ∀ (f : Nat) (v : VS) (c : Int) (i : Int) (z2 : Int), XI v → (0 ≤ i ∧ i ≤ 300) → (R32 c) → (300 < i + f) → ((-1 ≤ (cl_nextOf91_2 f v c i) ∧ (cl_nextOf91_2 f v c i) < v 91 4 ∧ (cl_nextOf91_2 f v c i) ≤ 299) → Q (some (.inl (cl_nextOf91_2 f v c i))) b v) → WV X d 93 2 [some (.inr (.inr (some 91))), some (.inl c), some (.inl z2), some (.inl i)] [] b v Q := by
  intro f
  induction f with
  | zero =>
    intro v c i z2 hX hi_0 hi_1 hf hQ
    exfalso
    omega
  | succ f ih =>
    intro v c i z2 hX hi_0 hi_1 hf hQ
    rw [cl_nextOf91_2] at hQ
    refine r_ex 3 (pc' := 7) (lo' := [some (.inr (.inr (some 91))), some (.inl c), some (.inl z2), some (.inl i)]) (st' := [.inl (v 91 4), .inl i]) rfl ?_
    have hb_1 : 0 ≤ (v 91 4) ∧ (v 91 4) ≤ 300 := hX 91 4
    refine n_ic_ge (pc0 := 7) (len := 3) (t := 28) rfl (by first | assumption | omega | (unfold R32 at *; omega) | (unfold R64 at *; omega) | (simp only [R32, R64] at *; omega)) (by first | assumption | omega | (unfold R32 at *; omega) | (unfold R64 at *; omega) | (simp only [R32, R64] at *; omega)) (fun h_7 => ?_) (fun h_7 => ?_)
    · show WV _ _ _ 28 _ _ _ _ _
      rw [if_neg h_7] at hQ
      refine r_ex 1 (pc' := 29) (lo' := [some (.inr (.inr (some 91))), some (.inl c), some (.inl z2), some (.inl i)]) (st' := [.inl (-1)]) rfl ?_
      refine r_ret (rr := some (.inl (-1))) (I := .ireturn) (pc0 := 29) (len := 1) rfl rfl ?_
      exact hQ (by first | assumption | omega | (unfold R32 at *; omega) | (unfold R64 at *; omega) | (simp only [R32, R64] at *; omega))
    · show WV _ _ _ 10 _ _ _ _ _
      rw [if_pos h_7] at hQ
      refine r_ex 3 (pc' := 15) (lo' := [some (.inr (.inr (some 91))), some (.inl c), some (.inl z2), some (.inl i)]) (st' := [.inl i, .inr (.inr (some 93))]) rfl ?_
      refine r_iald2 (j := 0) (x := (v 93 ((i).toNat))) (pc' := 16) (pc0 := 15) (len := 1) rfl (s_93 _) (by first | assumption | omega | (unfold R32 at *; omega) | (unfold R64 at *; omega) | (simp only [R32, R64] at *; omega)) (by decide) rfl rfl ?_
      have hb_2 : 0 ≤ (v 93 ((i).toNat)) ∧ (v 93 ((i).toNat)) ≤ 8 := hX 93 ((i).toNat)
      refine r_ex 1 (pc' := 17) (lo' := [some (.inr (.inr (some 91))), some (.inl c), some (.inl z2), some (.inl i)]) (st' := [.inl c, .inl (v 93 ((i).toNat))]) rfl ?_
      refine n_ic_ne (pc0 := 17) (len := 3) (t := 22) rfl (by first | assumption | omega | (unfold R32 at *; omega) | (unfold R64 at *; omega) | (simp only [R32, R64] at *; omega)) (by first | assumption | omega | (unfold R32 at *; omega) | (unfold R64 at *; omega) | (simp only [R32, R64] at *; omega)) (fun h_17 => ?_) (fun h_17 => ?_)
      · show WV _ _ _ 22 _ _ _ _ _
        rw [if_neg h_17] at hQ
        refine r_ex 2 (pc' := 2) (lo' := [some (.inr (.inr (some 91))), some (.inl c), some (.inl z2), some (.inl (i + 1))]) (st' := []) rfl ?_
        refine ih v c (i + 1) _ hX (by first | assumption | omega | (unfold R32 at *; omega) | (unfold R64 at *; omega) | (simp only [R32, R64] at *; omega)) (by first | assumption | omega | (unfold R32 at *; omega) | (unfold R64 at *; omega) | (simp only [R32, R64] at *; omega)) (by first | assumption | omega | (unfold R32 at *; omega) | (unfold R64 at *; omega) | (simp only [R32, R64] at *; omega)) hQ
      · show WV _ _ _ 20 _ _ _ _ _
        rw [if_pos h_17] at hQ
        refine r_ex 1 (pc' := 21) (lo' := [some (.inr (.inr (some 91))), some (.inl c), some (.inl z2), some (.inl i)]) (st' := [.inl i]) rfl ?_
        refine r_ret (rr := some (.inl i)) (I := .ireturn) (pc0 := 21) (len := 1) rfl rfl ?_
        exact hQ (by first | assumption | omega | (unfold R32 at *; omega) | (unfold R64 at *; omega) | (simp only [R32, R64] at *; omega))

theorem w_cl_nextOf91 {X : PX} {d b : Nat} {v : VS} {c : Int} {s : Int} (hX : XI v) (hp_a : R32 c) (hp_b : 0 ≤ s ∧ s ≤ 300) {Q : Option PV → Nat → VS → Prop} (hQ : (-1 ≤ (cl_nextOf91 v c s) ∧ (cl_nextOf91 v c s) < v 91 4 ∧ (cl_nextOf91 v c s) ≤ 299) → Q (some (.inl (cl_nextOf91 v c s))) b v) : WV X d 93 0 [some (.inr (.inr (some 91))), some (.inl c), some (.inl s), none] [] b v Q := by
  rw [cl_nextOf91] at hQ
  refine r_ex 2 (pc' := 2) (lo' := [some (.inr (.inr (some 91))), some (.inl c), some (.inl s), some (.inl s)]) (st' := []) rfl ?_
  exact l_cl_nextOf91_2 301 v c s _ hX (by first | assumption | omega | (unfold R32 at *; omega) | (unfold R64 at *; omega) | (simp only [R32, R64] at *; omega)) (by first | assumption | omega | (unfold R32 at *; omega) | (unfold R64 at *; omega) | (simp only [R32, R64] at *; omega)) (by first | assumption | omega | (unfold R32 at *; omega) | (unfold R64 at *; omega) | (simp only [R32, R64] at *; omega)) hQ

theorem e_cl_nextOf91 {X : PX} {d b : Nat} {v : VS} {c : Int} {s : Int} (hX : XI v) (hp_a : R32 c) (hp_b : 0 ≤ s ∧ s ≤ 300) : EvV X d 93 [.inr (.inr (some 91)), .inl c, .inl s] b v (some (.inl (cl_nextOf91 v c s))) b v := EvV.of (w_cl_nextOf91 hX hp_a hp_b (fun _ => ⟨rfl, rfl, rfl⟩))

theorem n_cl_nextOf91 {v : VS} {c : Int} {s : Int} (hX : XI v) (hp_a : R32 c) (hp_b : 0 ≤ s ∧ s ≤ 300) : -1 ≤ (cl_nextOf91 v c s) ∧ (cl_nextOf91 v c s) < v 91 4 ∧ (cl_nextOf91 v c s) ≤ 299 := by
  have q : WV (0, fun _ => 0, none) 0 93 0 [some (.inr (.inr (some 91))), some (.inl c), some (.inl s), none] [] 1 v (fun _ _ _ => -1 ≤ (cl_nextOf91 v c s) ∧ (cl_nextOf91 v c s) < v 91 4 ∧ (cl_nextOf91 v c s) ≤ 299) := w_cl_nextOf91 (X := (0, fun _ => 0, none)) (d := 0) (b := 1) hX hp_a hp_b (fun q => q)
  obtain ⟨_, _, _, _, _, _, _, q⟩ := q
  exact q

def cl_earliestOf91_2 : Nat → VS → Int → Int → Int
  | 0, v, h, i => 0
  | f + 1, v, h, i => (if i < (v 91 4) then (if (v 94 ((i).toNat)) = h then i else (cl_earliestOf91_2 f v h (i + 1))) else (-1))
def cl_earliestOf91 (v : VS) (h : Int) : Int :=
  (cl_earliestOf91_2 301 v h 0)
theorem l_cl_earliestOf91_2 {X : PX} {d b : Nat} {Q : Option PV → Nat → VS → Prop}  : ∀ (f : Nat) (v : VS) (h : Int) (i : Int), XI v → (0 ≤ i ∧ i ≤ 300) → (R32 h) → (300 < i + f) → ((-1 ≤ (cl_earliestOf91_2 f v h i) ∧ (cl_earliestOf91_2 f v h i) < v 91 4 ∧ (cl_earliestOf91_2 f v h i) ≤ 299) → Q (some (.inl (cl_earliestOf91_2 f v h i))) b v) → WV X d 101 2 [some (.inr (.inr (some 91))), some (.inl h), some (.inl i)] [] b v Q := by
  intro f
  induction f with
  | zero =>
    intro v h i hX hi_0 hi_1 hf hQ
    exfalso
    omega
  | succ f ih =>
    intro v h i hX hi_0 hi_1 hf hQ
    rw [cl_earliestOf91_2] at hQ
    refine r_ex 3 (pc' := 7) (lo' := [some (.inr (.inr (some 91))), some (.inl h), some (.inl i)]) (st' := [.inl (v 91 4), .inl i]) rfl ?_
    have hb_1 : 0 ≤ (v 91 4) ∧ (v 91 4) ≤ 300 := hX 91 4
    refine n_ic_ge (pc0 := 7) (len := 3) (t := 28) rfl (by first | assumption | omega | (unfold R32 at *; omega) | (unfold R64 at *; omega) | (simp only [R32, R64] at *; omega)) (by first | assumption | omega | (unfold R32 at *; omega) | (unfold R64 at *; omega) | (simp only [R32, R64] at *; omega)) (fun h_7 => ?_) (fun h_7 => ?_)
    · show WV _ _ _ 28 _ _ _ _ _
      rw [if_neg h_7] at hQ
      refine r_ex 1 (pc' := 29) (lo' := [some (.inr (.inr (some 91))), some (.inl h), some (.inl i)]) (st' := [.inl (-1)]) rfl ?_
      refine r_ret (rr := some (.inl (-1))) (I := .ireturn) (pc0 := 29) (len := 1) rfl rfl ?_
      exact hQ (by first | assumption | omega | (unfold R32 at *; omega) | (unfold R64 at *; omega) | (simp only [R32, R64] at *; omega))
    · show WV _ _ _ 10 _ _ _ _ _
      rw [if_pos h_7] at hQ
      refine r_ex 3 (pc' := 15) (lo' := [some (.inr (.inr (some 91))), some (.inl h), some (.inl i)]) (st' := [.inl i, .inr (.inr (some 94))]) rfl ?_
      refine r_iald2 (j := 0) (x := (v 94 ((i).toNat))) (pc' := 16) (pc0 := 15) (len := 1) rfl (s_94 _) (by first | assumption | omega | (unfold R32 at *; omega) | (unfold R64 at *; omega) | (simp only [R32, R64] at *; omega)) (by decide) rfl rfl ?_
      have hb_2 : 0 ≤ (v 94 ((i).toNat)) ∧ (v 94 ((i).toNat)) ≤ 99 := hX 94 ((i).toNat)
      refine r_ex 1 (pc' := 17) (lo' := [some (.inr (.inr (some 91))), some (.inl h), some (.inl i)]) (st' := [.inl h, .inl (v 94 ((i).toNat))]) rfl ?_
      refine n_ic_ne (pc0 := 17) (len := 3) (t := 22) rfl (by first | assumption | omega | (unfold R32 at *; omega) | (unfold R64 at *; omega) | (simp only [R32, R64] at *; omega)) (by first | assumption | omega | (unfold R32 at *; omega) | (unfold R64 at *; omega) | (simp only [R32, R64] at *; omega)) (fun h_17 => ?_) (fun h_17 => ?_)
      · show WV _ _ _ 22 _ _ _ _ _
        rw [if_neg h_17] at hQ
        refine r_ex 2 (pc' := 2) (lo' := [some (.inr (.inr (some 91))), some (.inl h), some (.inl (i + 1))]) (st' := []) rfl ?_
        refine ih v h (i + 1)  hX (by first | assumption | omega | (unfold R32 at *; omega) | (unfold R64 at *; omega) | (simp only [R32, R64] at *; omega)) (by first | assumption | omega | (unfold R32 at *; omega) | (unfold R64 at *; omega) | (simp only [R32, R64] at *; omega)) (by first | assumption | omega | (unfold R32 at *; omega) | (unfold R64 at *; omega) | (simp only [R32, R64] at *; omega)) hQ
      · show WV _ _ _ 20 _ _ _ _ _
        rw [if_pos h_17] at hQ
        refine r_ex 1 (pc' := 21) (lo' := [some (.inr (.inr (some 91))), some (.inl h), some (.inl i)]) (st' := [.inl i]) rfl ?_
        refine r_ret (rr := some (.inl i)) (I := .ireturn) (pc0 := 21) (len := 1) rfl rfl ?_
        exact hQ (by first | assumption | omega | (unfold R32 at *; omega) | (unfold R64 at *; omega) | (simp only [R32, R64] at *; omega))

theorem w_cl_earliestOf91 {X : PX} {d b : Nat} {v : VS} {h : Int} (hX : XI v) (hp_a : R32 h) {Q : Option PV → Nat → VS → Prop} (hQ : (-1 ≤ (cl_earliestOf91 v h) ∧ (cl_earliestOf91 v h) < v 91 4 ∧ (cl_earliestOf91 v h) ≤ 299) → Q (some (.inl (cl_earliestOf91 v h))) b v) : WV X d 101 0 [some (.inr (.inr (some 91))), some (.inl h), none] [] b v Q := by
  rw [cl_earliestOf91] at hQ
  refine r_ex 2 (pc' := 2) (lo' := [some (.inr (.inr (some 91))), some (.inl h), some (.inl 0)]) (st' := []) rfl ?_
  exact l_cl_earliestOf91_2 301 v h 0  hX (by first | assumption | omega | (unfold R32 at *; omega) | (unfold R64 at *; omega) | (simp only [R32, R64] at *; omega)) (by first | assumption | omega | (unfold R32 at *; omega) | (unfold R64 at *; omega) | (simp only [R32, R64] at *; omega)) (by first | assumption | omega | (unfold R32 at *; omega) | (unfold R64 at *; omega) | (simp only [R32, R64] at *; omega)) hQ

theorem e_cl_earliestOf91 {X : PX} {d b : Nat} {v : VS} {h : Int} (hX : XI v) (hp_a : R32 h) : EvV X d 101 [.inr (.inr (some 91)), .inl h] b v (some (.inl (cl_earliestOf91 v h))) b v := EvV.of (w_cl_earliestOf91 hX hp_a (fun _ => ⟨rfl, rfl, rfl⟩))

theorem n_cl_earliestOf91 {v : VS} {h : Int} (hX : XI v) (hp_a : R32 h) : -1 ≤ (cl_earliestOf91 v h) ∧ (cl_earliestOf91 v h) < v 91 4 ∧ (cl_earliestOf91 v h) ≤ 299 := by
  have q : WV (0, fun _ => 0, none) 0 101 0 [some (.inr (.inr (some 91))), some (.inl h), none] [] 1 v (fun _ _ _ => -1 ≤ (cl_earliestOf91 v h) ∧ (cl_earliestOf91 v h) < v 91 4 ∧ (cl_earliestOf91 v h) ≤ 299) := w_cl_earliestOf91 (X := (0, fun _ => 0, none)) (d := 0) (b := 1) hX hp_a (fun q => q)
  obtain ⟨_, _, _, _, _, _, _, q⟩ := q
  exact q

def cl_latestOf91_7 : Nat → VS → Int → Int → Int
  | 0, v, h, i => 0
  | f + 1, v, h, i => (if i < 0 then (-1) else (if (v 94 ((i).toNat)) = h then i else (cl_latestOf91_7 f v h (i + (-1)))))
def cl_latestOf91 (v : VS) (h : Int) : Int :=
  (cl_latestOf91_7 302 v h ((v 91 4) - 1))
theorem l_cl_latestOf91_7 {X : PX} {d b : Nat} {Q : Option PV → Nat → VS → Prop}  : ∀ (f : Nat) (v : VS) (h : Int) (i : Int), XI v → (-1 ≤ i ∧ i < v 91 4) → (R32 h) → (i + 2 ≤ f) → ((-1 ≤ (cl_latestOf91_7 f v h i) ∧ (cl_latestOf91_7 f v h i) < v 91 4 ∧ (cl_latestOf91_7 f v h i) ≤ 299) → Q (some (.inl (cl_latestOf91_7 f v h i))) b v) → WV X d 100 7 [some (.inr (.inr (some 91))), some (.inl h), some (.inl i)] [] b v Q := by
  intro f
  induction f with
  | zero =>
    intro v h i hX hi_0 hi_1 hf hQ
    have hb_0 : 0 ≤ v 91 4 ∧ v 91 4 ≤ 300 := hX 91 4
    exfalso
    omega
  | succ f ih =>
    intro v h i hX hi_0 hi_1 hf hQ
    rw [cl_latestOf91_7] at hQ
    have hb_0 : 0 ≤ v 91 4 ∧ v 91 4 ≤ 300 := hX 91 4
    refine r_ex 1 (pc' := 8) (lo' := [some (.inr (.inr (some 91))), some (.inl h), some (.inl i)]) (st' := [.inl i]) rfl ?_
    refine n_if_lt (pc0 := 8) (len := 3) (t := 29) rfl (by first | assumption | omega | (unfold R32 at *; omega) | (unfold R64 at *; omega) | (simp only [R32, R64] at *; omega)) (fun h_8 => ?_) (fun h_8 => ?_)
    · show WV _ _ _ 29 _ _ _ _ _
      rw [if_pos h_8] at hQ
      refine r_ex 1 (pc' := 30) (lo' := [some (.inr (.inr (some 91))), some (.inl h), some (.inl i)]) (st' := [.inl (-1)]) rfl ?_
      refine r_ret (rr := some (.inl (-1))) (I := .ireturn) (pc0 := 30) (len := 1) rfl rfl ?_
      exact hQ (by first | assumption | omega | (unfold R32 at *; omega) | (unfold R64 at *; omega) | (simp only [R32, R64] at *; omega))
    · show WV _ _ _ 11 _ _ _ _ _
      rw [if_neg h_8] at hQ
      refine r_ex 3 (pc' := 16) (lo' := [some (.inr (.inr (some 91))), some (.inl h), some (.inl i)]) (st' := [.inl i, .inr (.inr (some 94))]) rfl ?_
      refine r_iald2 (j := 0) (x := (v 94 ((i).toNat))) (pc' := 17) (pc0 := 16) (len := 1) rfl (s_94 _) (by first | assumption | omega | (unfold R32 at *; omega) | (unfold R64 at *; omega) | (simp only [R32, R64] at *; omega)) (by decide) rfl rfl ?_
      have hb_2 : 0 ≤ (v 94 ((i).toNat)) ∧ (v 94 ((i).toNat)) ≤ 99 := hX 94 ((i).toNat)
      refine r_ex 1 (pc' := 18) (lo' := [some (.inr (.inr (some 91))), some (.inl h), some (.inl i)]) (st' := [.inl h, .inl (v 94 ((i).toNat))]) rfl ?_
      refine n_ic_ne (pc0 := 18) (len := 3) (t := 23) rfl (by first | assumption | omega | (unfold R32 at *; omega) | (unfold R64 at *; omega) | (simp only [R32, R64] at *; omega)) (by first | assumption | omega | (unfold R32 at *; omega) | (unfold R64 at *; omega) | (simp only [R32, R64] at *; omega)) (fun h_18 => ?_) (fun h_18 => ?_)
      · show WV _ _ _ 23 _ _ _ _ _
        rw [if_neg h_18] at hQ
        refine r_ex 2 (pc' := 7) (lo' := [some (.inr (.inr (some 91))), some (.inl h), some (.inl (i + (-1)))]) (st' := []) rfl ?_
        refine ih v h (i + (-1))  hX (by first | assumption | omega | (unfold R32 at *; omega) | (unfold R64 at *; omega) | (simp only [R32, R64] at *; omega)) (by first | assumption | omega | (unfold R32 at *; omega) | (unfold R64 at *; omega) | (simp only [R32, R64] at *; omega)) (by first | assumption | omega | (unfold R32 at *; omega) | (unfold R64 at *; omega) | (simp only [R32, R64] at *; omega)) hQ
      · show WV _ _ _ 21 _ _ _ _ _
        rw [if_pos h_18] at hQ
        refine r_ex 1 (pc' := 22) (lo' := [some (.inr (.inr (some 91))), some (.inl h), some (.inl i)]) (st' := [.inl i]) rfl ?_
        refine r_ret (rr := some (.inl i)) (I := .ireturn) (pc0 := 22) (len := 1) rfl rfl ?_
        exact hQ (by first | assumption | omega | (unfold R32 at *; omega) | (unfold R64 at *; omega) | (simp only [R32, R64] at *; omega))

theorem w_cl_latestOf91 {X : PX} {d b : Nat} {v : VS} {h : Int} (hX : XI v) (hp_a : R32 h) {Q : Option PV → Nat → VS → Prop} (hQ : (-1 ≤ (cl_latestOf91 v h) ∧ (cl_latestOf91 v h) < v 91 4 ∧ (cl_latestOf91 v h) ≤ 299) → Q (some (.inl (cl_latestOf91 v h))) b v) : WV X d 100 0 [some (.inr (.inr (some 91))), some (.inl h), none] [] b v Q := by
  rw [cl_latestOf91] at hQ
  have hb_0 : 0 ≤ v 91 4 ∧ v 91 4 ≤ 300 := hX 91 4
  refine r_ex 5 (pc' := 7) (lo' := [some (.inr (.inr (some 91))), some (.inl h), some (.inl ((v 91 4) - 1))]) (st' := []) rfl ?_
  have hb_1 : 0 ≤ (v 91 4) ∧ (v 91 4) ≤ 300 := hX 91 4
  exact l_cl_latestOf91_7 302 v h ((v 91 4) - 1)  hX (by first | assumption | omega | (unfold R32 at *; omega) | (unfold R64 at *; omega) | (simp only [R32, R64] at *; omega)) (by first | assumption | omega | (unfold R32 at *; omega) | (unfold R64 at *; omega) | (simp only [R32, R64] at *; omega)) (by first | assumption | omega | (unfold R32 at *; omega) | (unfold R64 at *; omega) | (simp only [R32, R64] at *; omega)) hQ

theorem e_cl_latestOf91 {X : PX} {d b : Nat} {v : VS} {h : Int} (hX : XI v) (hp_a : R32 h) : EvV X d 100 [.inr (.inr (some 91)), .inl h] b v (some (.inl (cl_latestOf91 v h))) b v := EvV.of (w_cl_latestOf91 hX hp_a (fun _ => ⟨rfl, rfl, rfl⟩))

theorem n_cl_latestOf91 {v : VS} {h : Int} (hX : XI v) (hp_a : R32 h) : -1 ≤ (cl_latestOf91 v h) ∧ (cl_latestOf91 v h) < v 91 4 ∧ (cl_latestOf91 v h) ≤ 299 := by
  have q : WV (0, fun _ => 0, none) 0 100 0 [some (.inr (.inr (some 91))), some (.inl h), none] [] 1 v (fun _ _ _ => -1 ≤ (cl_latestOf91 v h) ∧ (cl_latestOf91 v h) < v 91 4 ∧ (cl_latestOf91 v h) ≤ 299) := w_cl_latestOf91 (X := (0, fun _ => 0, none)) (d := 0) (b := 1) hX hp_a (fun q => q)
  obtain ⟨_, _, _, _, _, _, _, q⟩ := q
  exact q

def cl_timesOf91_4 : Nat → VS → Int → Int → Int → Int
  | 0, v, h, s, i => 0
  | f + 1, v, h, s, i => (if i < (v 91 4) then (if (v 94 ((i).toNat)) = h then (cl_timesOf91_4 f v h (s + 1) (i + 1)) else (cl_timesOf91_4 f v h s (i + 1))) else s)
def cl_timesOf91 (v : VS) (h : Int) : Int :=
  (cl_timesOf91_4 301 v h 0 0)
theorem l_cl_timesOf91_4 {X : PX} {d b : Nat} {Q : Option PV → Nat → VS → Prop}  : ∀ (f : Nat) (v : VS) (h : Int) (s : Int) (i : Int), XI v → (0 ≤ i ∧ i ≤ 300) → (R32 h) → (0 ≤ s ∧ s ≤ i) → (300 < i + f) → ((0 ≤ (cl_timesOf91_4 f v h s i) ∧ (cl_timesOf91_4 f v h s i) ≤ 300) → Q (some (.inl (cl_timesOf91_4 f v h s i))) b v) → WV X d 99 4 [some (.inr (.inr (some 91))), some (.inl h), some (.inl s), some (.inl i)] [] b v Q := by
  intro f
  induction f with
  | zero =>
    intro v h s i hX hi_0 hi_1 hi_2 hf hQ
    exfalso
    omega
  | succ f ih =>
    intro v h s i hX hi_0 hi_1 hi_2 hf hQ
    rw [cl_timesOf91_4] at hQ
    refine r_ex 3 (pc' := 9) (lo' := [some (.inr (.inr (some 91))), some (.inl h), some (.inl s), some (.inl i)]) (st' := [.inl (v 91 4), .inl i]) rfl ?_
    have hb_1 : 0 ≤ (v 91 4) ∧ (v 91 4) ≤ 300 := hX 91 4
    refine n_ic_ge (pc0 := 9) (len := 3) (t := 31) rfl (by first | assumption | omega | (unfold R32 at *; omega) | (unfold R64 at *; omega) | (simp only [R32, R64] at *; omega)) (by first | assumption | omega | (unfold R32 at *; omega) | (unfold R64 at *; omega) | (simp only [R32, R64] at *; omega)) (fun h_9 => ?_) (fun h_9 => ?_)
    · show WV _ _ _ 31 _ _ _ _ _
      rw [if_neg h_9] at hQ
      refine r_ex 1 (pc' := 32) (lo' := [some (.inr (.inr (some 91))), some (.inl h), some (.inl s), some (.inl i)]) (st' := [.inl s]) rfl ?_
      refine r_ret (rr := some (.inl s)) (I := .ireturn) (pc0 := 32) (len := 1) rfl rfl ?_
      exact hQ (by first | assumption | omega | (unfold R32 at *; omega) | (unfold R64 at *; omega) | (simp only [R32, R64] at *; omega))
    · show WV _ _ _ 12 _ _ _ _ _
      rw [if_pos h_9] at hQ
      refine r_ex 3 (pc' := 17) (lo' := [some (.inr (.inr (some 91))), some (.inl h), some (.inl s), some (.inl i)]) (st' := [.inl i, .inr (.inr (some 94))]) rfl ?_
      refine r_iald2 (j := 0) (x := (v 94 ((i).toNat))) (pc' := 18) (pc0 := 17) (len := 1) rfl (s_94 _) (by first | assumption | omega | (unfold R32 at *; omega) | (unfold R64 at *; omega) | (simp only [R32, R64] at *; omega)) (by decide) rfl rfl ?_
      have hb_2 : 0 ≤ (v 94 ((i).toNat)) ∧ (v 94 ((i).toNat)) ≤ 99 := hX 94 ((i).toNat)
      refine r_ex 1 (pc' := 19) (lo' := [some (.inr (.inr (some 91))), some (.inl h), some (.inl s), some (.inl i)]) (st' := [.inl h, .inl (v 94 ((i).toNat))]) rfl ?_
      refine n_ic_ne (pc0 := 19) (len := 3) (t := 25) rfl (by first | assumption | omega | (unfold R32 at *; omega) | (unfold R64 at *; omega) | (simp only [R32, R64] at *; omega)) (by first | assumption | omega | (unfold R32 at *; omega) | (unfold R64 at *; omega) | (simp only [R32, R64] at *; omega)) (fun h_19 => ?_) (fun h_19 => ?_)
      · show WV _ _ _ 25 _ _ _ _ _
        rw [if_neg h_19] at hQ
        refine r_ex 2 (pc' := 4) (lo' := [some (.inr (.inr (some 91))), some (.inl h), some (.inl s), some (.inl (i + 1))]) (st' := []) rfl ?_
        refine ih v h s (i + 1)  hX (by first | assumption | omega | (unfold R32 at *; omega) | (unfold R64 at *; omega) | (simp only [R32, R64] at *; omega)) (by first | assumption | omega | (unfold R32 at *; omega) | (unfold R64 at *; omega) | (simp only [R32, R64] at *; omega)) (by first | assumption | omega | (unfold R32 at *; omega) | (unfold R64 at *; omega) | (simp only [R32, R64] at *; omega)) (by first | assumption | omega | (unfold R32 at *; omega) | (unfold R64 at *; omega) | (simp only [R32, R64] at *; omega)) hQ
      · show WV _ _ _ 22 _ _ _ _ _
        rw [if_pos h_19] at hQ
        refine r_ex 3 (pc' := 4) (lo' := [some (.inr (.inr (some 91))), some (.inl h), some (.inl (s + 1)), some (.inl (i + 1))]) (st' := []) rfl ?_
        refine ih v h (s + 1) (i + 1)  hX (by first | assumption | omega | (unfold R32 at *; omega) | (unfold R64 at *; omega) | (simp only [R32, R64] at *; omega)) (by first | assumption | omega | (unfold R32 at *; omega) | (unfold R64 at *; omega) | (simp only [R32, R64] at *; omega)) (by first | assumption | omega | (unfold R32 at *; omega) | (unfold R64 at *; omega) | (simp only [R32, R64] at *; omega)) (by first | assumption | omega | (unfold R32 at *; omega) | (unfold R64 at *; omega) | (simp only [R32, R64] at *; omega)) hQ

theorem w_cl_timesOf91 {X : PX} {d b : Nat} {v : VS} {h : Int} (hX : XI v) (hp_a : R32 h) {Q : Option PV → Nat → VS → Prop} (hQ : (0 ≤ (cl_timesOf91 v h) ∧ (cl_timesOf91 v h) ≤ 300) → Q (some (.inl (cl_timesOf91 v h))) b v) : WV X d 99 0 [some (.inr (.inr (some 91))), some (.inl h), none, none] [] b v Q := by
  rw [cl_timesOf91] at hQ
  refine r_ex 4 (pc' := 4) (lo' := [some (.inr (.inr (some 91))), some (.inl h), some (.inl 0), some (.inl 0)]) (st' := []) rfl ?_
  exact l_cl_timesOf91_4 301 v h 0 0  hX (by first | assumption | omega | (unfold R32 at *; omega) | (unfold R64 at *; omega) | (simp only [R32, R64] at *; omega)) (by first | assumption | omega | (unfold R32 at *; omega) | (unfold R64 at *; omega) | (simp only [R32, R64] at *; omega)) (by first | assumption | omega | (unfold R32 at *; omega) | (unfold R64 at *; omega) | (simp only [R32, R64] at *; omega)) (by first | assumption | omega | (unfold R32 at *; omega) | (unfold R64 at *; omega) | (simp only [R32, R64] at *; omega)) hQ

theorem e_cl_timesOf91 {X : PX} {d b : Nat} {v : VS} {h : Int} (hX : XI v) (hp_a : R32 h) : EvV X d 99 [.inr (.inr (some 91)), .inl h] b v (some (.inl (cl_timesOf91 v h))) b v := EvV.of (w_cl_timesOf91 hX hp_a (fun _ => ⟨rfl, rfl, rfl⟩))

theorem n_cl_timesOf91 {v : VS} {h : Int} (hX : XI v) (hp_a : R32 h) : 0 ≤ (cl_timesOf91 v h) ∧ (cl_timesOf91 v h) ≤ 300 := by
  have q : WV (0, fun _ => 0, none) 0 99 0 [some (.inr (.inr (some 91))), some (.inl h), none, none] [] 1 v (fun _ _ _ => 0 ≤ (cl_timesOf91 v h) ∧ (cl_timesOf91 v h) ≤ 300) := w_cl_timesOf91 (X := (0, fun _ => 0, none)) (d := 0) (b := 1) hX hp_a (fun q => q)
  obtain ⟨_, _, _, _, _, _, _, q⟩ := q
  exact q

def cl_earliestBy91_2 : Nat → VS → Int → Int → Int → Int
  | 0, v, c, h, i => 0
  | f + 1, v, c, h, i => (if i < (v 91 4) then (if (v 93 ((i).toNat)) = c then (if (v 94 ((i).toNat)) = h then i else (cl_earliestBy91_2 f v c h (i + 1))) else (cl_earliestBy91_2 f v c h (i + 1))) else (-1))
def cl_earliestBy91 (v : VS) (c : Int) (h : Int) : Int :=
  (cl_earliestBy91_2 301 v c h 0)
theorem l_cl_earliestBy91_2 {X : PX} {d b : Nat} {Q : Option PV → Nat → VS → Prop}  : ∀ (f : Nat) (v : VS) (c : Int) (h : Int) (i : Int), XI v → (0 ≤ i ∧ i ≤ 300) → (R32 c) → (R32 h) → (300 < i + f) → ((-1 ≤ (cl_earliestBy91_2 f v c h i) ∧ (cl_earliestBy91_2 f v c h i) < v 91 4 ∧ (cl_earliestBy91_2 f v c h i) ≤ 299) → Q (some (.inl (cl_earliestBy91_2 f v c h i))) b v) → WV X d 156 2 [some (.inr (.inr (some 91))), some (.inl c), some (.inl h), some (.inl i)] [] b v Q := by
  intro f
  induction f with
  | zero =>
    intro v c h i hX hi_0 hi_1 hi_2 hf hQ
    exfalso
    omega
  | succ f ih =>
    intro v c h i hX hi_0 hi_1 hi_2 hf hQ
    rw [cl_earliestBy91_2] at hQ
    refine r_ex 3 (pc' := 7) (lo' := [some (.inr (.inr (some 91))), some (.inl c), some (.inl h), some (.inl i)]) (st' := [.inl (v 91 4), .inl i]) rfl ?_
    have hb_1 : 0 ≤ (v 91 4) ∧ (v 91 4) ≤ 300 := hX 91 4
    refine n_ic_ge (pc0 := 7) (len := 3) (t := 38) rfl (by first | assumption | omega | (unfold R32 at *; omega) | (unfold R64 at *; omega) | (simp only [R32, R64] at *; omega)) (by first | assumption | omega | (unfold R32 at *; omega) | (unfold R64 at *; omega) | (simp only [R32, R64] at *; omega)) (fun h_7 => ?_) (fun h_7 => ?_)
    · show WV _ _ _ 38 _ _ _ _ _
      rw [if_neg h_7] at hQ
      refine r_ex 1 (pc' := 39) (lo' := [some (.inr (.inr (some 91))), some (.inl c), some (.inl h), some (.inl i)]) (st' := [.inl (-1)]) rfl ?_
      refine r_ret (rr := some (.inl (-1))) (I := .ireturn) (pc0 := 39) (len := 1) rfl rfl ?_
      exact hQ (by first | assumption | omega | (unfold R32 at *; omega) | (unfold R64 at *; omega) | (simp only [R32, R64] at *; omega))
    · show WV _ _ _ 10 _ _ _ _ _
      rw [if_pos h_7] at hQ
      refine r_ex 3 (pc' := 15) (lo' := [some (.inr (.inr (some 91))), some (.inl c), some (.inl h), some (.inl i)]) (st' := [.inl i, .inr (.inr (some 93))]) rfl ?_
      refine r_iald2 (j := 0) (x := (v 93 ((i).toNat))) (pc' := 16) (pc0 := 15) (len := 1) rfl (s_93 _) (by first | assumption | omega | (unfold R32 at *; omega) | (unfold R64 at *; omega) | (simp only [R32, R64] at *; omega)) (by decide) rfl rfl ?_
      have hb_2 : 0 ≤ (v 93 ((i).toNat)) ∧ (v 93 ((i).toNat)) ≤ 8 := hX 93 ((i).toNat)
      refine r_ex 1 (pc' := 17) (lo' := [some (.inr (.inr (some 91))), some (.inl c), some (.inl h), some (.inl i)]) (st' := [.inl c, .inl (v 93 ((i).toNat))]) rfl ?_
      refine n_ic_ne (pc0 := 17) (len := 3) (t := 32) rfl (by first | assumption | omega | (unfold R32 at *; omega) | (unfold R64 at *; omega) | (simp only [R32, R64] at *; omega)) (by first | assumption | omega | (unfold R32 at *; omega) | (unfold R64 at *; omega) | (simp only [R32, R64] at *; omega)) (fun h_17 => ?_) (fun h_17 => ?_)
      · show WV _ _ _ 32 _ _ _ _ _
        rw [if_neg h_17] at hQ
        refine r_ex 2 (pc' := 2) (lo' := [some (.inr (.inr (some 91))), some (.inl c), some (.inl h), some (.inl (i + 1))]) (st' := []) rfl ?_
        refine ih v c h (i + 1)  hX (by first | assumption | omega | (unfold R32 at *; omega) | (unfold R64 at *; omega) | (simp only [R32, R64] at *; omega)) (by first | assumption | omega | (unfold R32 at *; omega) | (unfold R64 at *; omega) | (simp only [R32, R64] at *; omega)) (by first | assumption | omega | (unfold R32 at *; omega) | (unfold R64 at *; omega) | (simp only [R32, R64] at *; omega)) (by first | assumption | omega | (unfold R32 at *; omega) | (unfold R64 at *; omega) | (simp only [R32, R64] at *; omega)) hQ
      · show WV _ _ _ 20 _ _ _ _ _
        rw [if_pos h_17] at hQ
        refine r_ex 3 (pc' := 25) (lo' := [some (.inr (.inr (some 91))), some (.inl c), some (.inl h), some (.inl i)]) (st' := [.inl i, .inr (.inr (some 94))]) rfl ?_
        refine r_iald2 (j := 0) (x := (v 94 ((i).toNat))) (pc' := 26) (pc0 := 25) (len := 1) rfl (s_94 _) (by first | assumption | omega | (unfold R32 at *; omega) | (unfold R64 at *; omega) | (simp only [R32, R64] at *; omega)) (by decide) rfl rfl ?_
        have hb_3 : 0 ≤ (v 94 ((i).toNat)) ∧ (v 94 ((i).toNat)) ≤ 99 := hX 94 ((i).toNat)
        refine r_ex 1 (pc' := 27) (lo' := [some (.inr (.inr (some 91))), some (.inl c), some (.inl h), some (.inl i)]) (st' := [.inl h, .inl (v 94 ((i).toNat))]) rfl ?_
        refine n_ic_ne (pc0 := 27) (len := 3) (t := 32) rfl (by first | assumption | omega | (unfold R32 at *; omega) | (unfold R64 at *; omega) | (simp only [R32, R64] at *; omega)) (by first | assumption | omega | (unfold R32 at *; omega) | (unfold R64 at *; omega) | (simp only [R32, R64] at *; omega)) (fun h_27 => ?_) (fun h_27 => ?_)
        · show WV _ _ _ 32 _ _ _ _ _
          rw [if_neg h_27] at hQ
          refine r_ex 2 (pc' := 2) (lo' := [some (.inr (.inr (some 91))), some (.inl c), some (.inl h), some (.inl (i + 1))]) (st' := []) rfl ?_
          refine ih v c h (i + 1)  hX (by first | assumption | omega | (unfold R32 at *; omega) | (unfold R64 at *; omega) | (simp only [R32, R64] at *; omega)) (by first | assumption | omega | (unfold R32 at *; omega) | (unfold R64 at *; omega) | (simp only [R32, R64] at *; omega)) (by first | assumption | omega | (unfold R32 at *; omega) | (unfold R64 at *; omega) | (simp only [R32, R64] at *; omega)) (by first | assumption | omega | (unfold R32 at *; omega) | (unfold R64 at *; omega) | (simp only [R32, R64] at *; omega)) hQ
        · show WV _ _ _ 30 _ _ _ _ _
          rw [if_pos h_27] at hQ
          refine r_ex 1 (pc' := 31) (lo' := [some (.inr (.inr (some 91))), some (.inl c), some (.inl h), some (.inl i)]) (st' := [.inl i]) rfl ?_
          refine r_ret (rr := some (.inl i)) (I := .ireturn) (pc0 := 31) (len := 1) rfl rfl ?_
          exact hQ (by first | assumption | omega | (unfold R32 at *; omega) | (unfold R64 at *; omega) | (simp only [R32, R64] at *; omega))

theorem w_cl_earliestBy91 {X : PX} {d b : Nat} {v : VS} {c : Int} {h : Int} (hX : XI v) (hp_a : R32 c) (hp_b : R32 h) {Q : Option PV → Nat → VS → Prop} (hQ : (-1 ≤ (cl_earliestBy91 v c h) ∧ (cl_earliestBy91 v c h) < v 91 4 ∧ (cl_earliestBy91 v c h) ≤ 299) → Q (some (.inl (cl_earliestBy91 v c h))) b v) : WV X d 156 0 [some (.inr (.inr (some 91))), some (.inl c), some (.inl h), none] [] b v Q := by
  rw [cl_earliestBy91] at hQ
  refine r_ex 2 (pc' := 2) (lo' := [some (.inr (.inr (some 91))), some (.inl c), some (.inl h), some (.inl 0)]) (st' := []) rfl ?_
  exact l_cl_earliestBy91_2 301 v c h 0  hX (by first | assumption | omega | (unfold R32 at *; omega) | (unfold R64 at *; omega) | (simp only [R32, R64] at *; omega)) (by first | assumption | omega | (unfold R32 at *; omega) | (unfold R64 at *; omega) | (simp only [R32, R64] at *; omega)) (by first | assumption | omega | (unfold R32 at *; omega) | (unfold R64 at *; omega) | (simp only [R32, R64] at *; omega)) (by first | assumption | omega | (unfold R32 at *; omega) | (unfold R64 at *; omega) | (simp only [R32, R64] at *; omega)) hQ

theorem e_cl_earliestBy91 {X : PX} {d b : Nat} {v : VS} {c : Int} {h : Int} (hX : XI v) (hp_a : R32 c) (hp_b : R32 h) : EvV X d 156 [.inr (.inr (some 91)), .inl c, .inl h] b v (some (.inl (cl_earliestBy91 v c h))) b v := EvV.of (w_cl_earliestBy91 hX hp_a hp_b (fun _ => ⟨rfl, rfl, rfl⟩))

theorem n_cl_earliestBy91 {v : VS} {c : Int} {h : Int} (hX : XI v) (hp_a : R32 c) (hp_b : R32 h) : -1 ≤ (cl_earliestBy91 v c h) ∧ (cl_earliestBy91 v c h) < v 91 4 ∧ (cl_earliestBy91 v c h) ≤ 299 := by
  have q : WV (0, fun _ => 0, none) 0 156 0 [some (.inr (.inr (some 91))), some (.inl c), some (.inl h), none] [] 1 v (fun _ _ _ => -1 ≤ (cl_earliestBy91 v c h) ∧ (cl_earliestBy91 v c h) < v 91 4 ∧ (cl_earliestBy91 v c h) ≤ 299) := w_cl_earliestBy91 (X := (0, fun _ => 0, none)) (d := 0) (b := 1) hX hp_a hp_b (fun q => q)
  obtain ⟨_, _, _, _, _, _, _, q⟩ := q
  exact q

def cl_allStruckBy91_4 : Nat → VS → Int → Int → Int → Int
  | 0, v, n, s, i => 0
  | f + 1, v, n, s, i => (if i < n then (if (cl_nextOf91 v i 0) = (-1) then (-1) else (cl_allStruckBy91_4 f v n (max s (v 92 (((cl_nextOf91 v i 0)).toNat))) (i + 1))) else s)
def cl_allStruckBy91 (v : VS) (n : Int) : Int :=
  (cl_allStruckBy91_4 10 v n (-1) 0)
theorem l_cl_allStruckBy91_4 {X : PX} {d b : Nat} {Q : Option PV → Nat → VS → Prop}  : ∀ (f : Nat) (v : VS) (n : Int) (s : Int) (i : Int) (o4 : Option PV), XI v → (0 ≤ i ∧ i ≤ 9) → (-1 ≤ s ∧ s ≤ 299) → (0 ≤ n ∧ n ≤ 9) → (9 < i + f) → ((-1 ≤ (cl_allStruckBy91_4 f v n s i) ∧ (cl_allStruckBy91_4 f v n s i) ≤ 299) → Q (some (.inl (cl_allStruckBy91_4 f v n s i))) b v) → WV X (d + 1) 129 4 [some (.inr (.inr (some 91))), some (.inl n), some (.inl s), some (.inl i), o4] [] b v Q := by
  intro f
  induction f with
  | zero =>
    intro v n s i o4 hX hi_0 hi_1 hi_2 hf hQ
    exfalso
    omega
  | succ f ih =>
    intro v n s i o4 hX hi_0 hi_1 hi_2 hf hQ
    rw [cl_allStruckBy91_4] at hQ
    refine r_ex 2 (pc' := 6) (lo' := [some (.inr (.inr (some 91))), some (.inl n), some (.inl s), some (.inl i), o4]) (st' := [.inl n, .inl i]) rfl ?_
    refine n_ic_ge (pc0 := 6) (len := 3) (t := 43) rfl (by first | assumption | omega | (unfold R32 at *; omega) | (unfold R64 at *; omega) | (simp only [R32, R64] at *; omega)) (by first | assumption | omega | (unfold R32 at *; omega) | (unfold R64 at *; omega) | (simp only [R32, R64] at *; omega)) (fun h_6 => ?_) (fun h_6 => ?_)
    · show WV _ _ _ 43 _ _ _ _ _
      rw [if_neg h_6] at hQ
      refine r_ex 1 (pc' := 44) (lo' := [some (.inr (.inr (some 91))), some (.inl n), some (.inl s), some (.inl i), o4]) (st' := [.inl s]) rfl ?_
      refine r_ret (rr := some (.inl s)) (I := .ireturn) (pc0 := 44) (len := 1) rfl rfl ?_
      exact hQ (by first | assumption | omega | (unfold R32 at *; omega) | (unfold R64 at *; omega) | (simp only [R32, R64] at *; omega))
    · show WV _ _ _ 9 _ _ _ _ _
      rw [if_pos h_6] at hQ
      refine r_ex 3 (pc' := 12) (lo' := [some (.inr (.inr (some 91))), some (.inl n), some (.inl s), some (.inl i), o4]) (st' := [.inl 0, .inl i, .inr (.inr (some 91))]) rfl ?_
      have hp_1 : R32 i := (by first | assumption | omega | (unfold R32 at *; omega) | (unfold R64 at *; omega) | (simp only [R32, R64] at *; omega))
      have hp_2 : 0 ≤ (0 : Int) ∧ (0 : Int) ≤ 300 := (by first | assumption | omega | (unfold R32 at *; omega) | (unfold R64 at *; omega) | (simp only [R32, R64] at *; omega))
      refine r_call (m := 93) (args := [.inr (.inr (some 91)), .inl i, .inl 0]) (n' := 129) (pc' := 15) (lo' := [some (.inr (.inr (some 91))), some (.inl n), some (.inl s), some (.inl i), o4]) (st' := []) (I := .invokevirtual 93) (pc0 := 12) (len := 3) rfl rfl rfl (e_cl_nextOf91 hX hp_1 hp_2) ?_
      show WV _ _ _ 15 _ [.inl (cl_nextOf91 v i 0)] _ _ _
      have hb_3 := n_cl_nextOf91 (v := v) (c := i) (s := 0) hX hp_1 hp_2
      refine r_ex 3 (pc' := 20) (lo' := [some (.inr (.inr (some 91))), some (.inl n), some (.inl s), some (.inl i), some (.inl (cl_nextOf91 v i 0))]) (st' := [.inl (-1), .inl (cl_nextOf91 v i 0)]) rfl ?_
      refine n_ic_ne (pc0 := 20) (len := 3) (t := 25) rfl (by first | assumption | omega | (unfold R32 at *; omega) | (unfold R64 at *; omega) | (simp only [R32, R64] at *; omega)) (by first | assumption | omega | (unfold R32 at *; omega) | (unfold R64 at *; omega) | (simp only [R32, R64] at *; omega)) (fun h_20 => ?_) (fun h_20 => ?_)
      · show WV _ _ _ 25 _ _ _ _ _
        rw [if_neg h_20] at hQ
        refine r_ex 4 (pc' := 32) (lo' := [some (.inr (.inr (some 91))), some (.inl n), some (.inl s), some (.inl i), some (.inl (cl_nextOf91 v i 0))]) (st' := [.inl (cl_nextOf91 v i 0), .inr (.inr (some 92)), .inl s]) rfl ?_
        refine r_iald2 (j := 0) (x := (v 92 (((cl_nextOf91 v i 0)).toNat))) (pc' := 33) (pc0 := 32) (len := 1) rfl (s_92 _) (by first | assumption | omega | (unfold R32 at *; omega) | (unfold R64 at *; omega) | (simp only [R32, R64] at *; omega)) (by decide) rfl rfl ?_
        have hb_4 : 0 ≤ (v 92 (((cl_nextOf91 v i 0)).toNat)) ∧ (v 92 (((cl_nextOf91 v i 0)).toNat)) ≤ 299 := hX 92 (((cl_nextOf91 v i 0)).toNat)
        refine r_prim (x := .inl (if w32 s < w32 (v 92 (((cl_nextOf91 v i 0)).toNat)) then (v 92 (((cl_nextOf91 v i 0)).toNat)) else s)) (m := 69) (args := [.inl s, .inl (v 92 (((cl_nextOf91 v i 0)).toNat))]) (n' := 129) (pc' := 36) (lo' := [some (.inr (.inr (some 91))), some (.inl n), some (.inl s), some (.inl i), some (.inl (cl_nextOf91 v i 0))]) (st' := []) (I := .invokestatic 69) (pc0 := 33) (len := 3) rfl rfl rfl ?_
        rw [mx32 (by first | assumption | omega | (unfold R32 at *; omega) | (unfold R64 at *; omega) | (simp only [R32, R64] at *; omega)) (by first | assumption | omega | (unfold R32 at *; omega) | (unfold R64 at *; omega) | (simp only [R32, R64] at *; omega))]
        refine r_ex 3 (pc' := 4) (lo' := [some (.inr (.inr (some 91))), some (.inl n), some (.inl (max s (v 92 (((cl_nextOf91 v i 0)).toNat)))), some (.inl (i + 1)), some (.inl (cl_nextOf91 v i 0))]) (st' := []) rfl ?_
        refine ih v n (max s (v 92 (((cl_nextOf91 v i 0)).toNat))) (i + 1) _ hX (by first | assumption | omega | (unfold R32 at *; omega) | (unfold R64 at *; omega) | (simp only [R32, R64] at *; omega)) (by first | assumption | omega | (unfold R32 at *; omega) | (unfold R64 at *; omega) | (simp only [R32, R64] at *; omega)) (by first | assumption | omega | (unfold R32 at *; omega) | (unfold R64 at *; omega) | (simp only [R32, R64] at *; omega)) (by first | assumption | omega | (unfold R32 at *; omega) | (unfold R64 at *; omega) | (simp only [R32, R64] at *; omega)) hQ
      · show WV _ _ _ 23 _ _ _ _ _
        rw [if_pos h_20] at hQ
        refine r_ex 1 (pc' := 24) (lo' := [some (.inr (.inr (some 91))), some (.inl n), some (.inl s), some (.inl i), some (.inl (cl_nextOf91 v i 0))]) (st' := [.inl (-1)]) rfl ?_
        refine r_ret (rr := some (.inl (-1))) (I := .ireturn) (pc0 := 24) (len := 1) rfl rfl ?_
        exact hQ (by first | assumption | omega | (unfold R32 at *; omega) | (unfold R64 at *; omega) | (simp only [R32, R64] at *; omega))

theorem w_cl_allStruckBy91 {X : PX} {d b : Nat} {v : VS} {n : Int} (hX : XI v) (hp_a : 0 ≤ n ∧ n ≤ 9) {Q : Option PV → Nat → VS → Prop} (hQ : (-1 ≤ (cl_allStruckBy91 v n) ∧ (cl_allStruckBy91 v n) ≤ 299) → Q (some (.inl (cl_allStruckBy91 v n))) b v) : WV X (d + 1) 129 0 [some (.inr (.inr (some 91))), some (.inl n), none, none, none] [] b v Q := by
  rw [cl_allStruckBy91] at hQ
  refine r_ex 4 (pc' := 4) (lo' := [some (.inr (.inr (some 91))), some (.inl n), some (.inl (-1)), some (.inl 0), none]) (st' := []) rfl ?_
  exact l_cl_allStruckBy91_4 10 v n (-1) 0 _ hX (by first | assumption | omega | (unfold R32 at *; omega) | (unfold R64 at *; omega) | (simp only [R32, R64] at *; omega)) (by first | assumption | omega | (unfold R32 at *; omega) | (unfold R64 at *; omega) | (simp only [R32, R64] at *; omega)) (by first | assumption | omega | (unfold R32 at *; omega) | (unfold R64 at *; omega) | (simp only [R32, R64] at *; omega)) (by first | assumption | omega | (unfold R32 at *; omega) | (unfold R64 at *; omega) | (simp only [R32, R64] at *; omega)) hQ

theorem e_cl_allStruckBy91 {X : PX} {d b : Nat} {v : VS} {n : Int} (hX : XI v) (hp_a : 0 ≤ n ∧ n ≤ 9) : EvV X (d + 1) 129 [.inr (.inr (some 91)), .inl n] b v (some (.inl (cl_allStruckBy91 v n))) b v := EvV.of (w_cl_allStruckBy91 hX hp_a (fun _ => ⟨rfl, rfl, rfl⟩))

theorem n_cl_allStruckBy91 {v : VS} {n : Int} (hX : XI v) (hp_a : 0 ≤ n ∧ n ≤ 9) : -1 ≤ (cl_allStruckBy91 v n) ∧ (cl_allStruckBy91 v n) ≤ 299 := by
  have q : WV (0, fun _ => 0, none) (0 + 1) 129 0 [some (.inr (.inr (some 91))), some (.inl n), none, none, none] [] 1 v (fun _ _ _ => -1 ≤ (cl_allStruckBy91 v n) ∧ (cl_allStruckBy91 v n) ≤ 299) := w_cl_allStruckBy91 (X := (0, fun _ => 0, none)) (d := 0) (b := 1) hX hp_a (fun q => q)
  obtain ⟨_, _, _, _, _, _, _, q⟩ := q
  exact q

def cl_comesOf91_5 : Nat → VS → Int → Int → Int → Int
  | 0, v, o, a, s => 0
  | f + 1, v, o, a, s => (if s < (v 91 4) then (if o < a then (cl_comesOf91_5 f v o (v 95 ((a).toNat)) (s + 1)) else (if a = o then 1 else 0)) else (if a = o then 1 else 0))
def cl_comesOf91 (v : VS) (i : Int) (o : Int) : Int :=
  (cl_comesOf91_5 301 v o i 0)
theorem l_cl_comesOf91_5 {X : PX} {d b : Nat} {Q : Option PV → Nat → VS → Prop}  : ∀ (f : Nat) (v : VS) (o : Int) (a : Int) (s : Int) (o1 : Option PV), XI v → (-1 ≤ a ∧ a ≤ 299) → (0 ≤ s ∧ s ≤ 300) → (0 ≤ o ∧ o ≤ 299) → (300 < s + f) → ((0 ≤ (cl_comesOf91_5 f v o a s) ∧ (cl_comesOf91_5 f v o a s) ≤ 1) → Q (some (.inl (cl_comesOf91_5 f v o a s))) b v) → WV X d 134 5 [some (.inr (.inr (some 91))), o1, some (.inl o), some (.inl a), some (.inl s)] [] b v Q := by
  intro f
  induction f with
  | zero =>
    intro v o a s o1 hX hi_0 hi_1 hi_2 hf hQ
    exfalso
    omega
  | succ f ih =>
    intro v o a s o1 hX hi_0 hi_1 hi_2 hf hQ
    rw [cl_comesOf91_5] at hQ
    refine r_ex 3 (pc' := 11) (lo' := [some (.inr (.inr (some 91))), o1, some (.inl o), some (.inl a), some (.inl s)]) (st' := [.inl (v 91 4), .inl s]) rfl ?_
    have hb_1 : 0 ≤ (v 91 4) ∧ (v 91 4) ≤ 300 := hX 91 4
    refine n_ic_ge (pc0 := 11) (len := 3) (t := 32) rfl (by first | assumption | omega | (unfold R32 at *; omega) | (unfold R64 at *; omega) | (simp only [R32, R64] at *; omega)) (by first | assumption | omega | (unfold R32 at *; omega) | (unfold R64 at *; omega) | (simp only [R32, R64] at *; omega)) (fun h_11 => ?_) (fun h_11 => ?_)
    · show WV _ _ _ 32 _ _ _ _ _
      rw [if_neg h_11] at hQ
      refine r_ex 2 (pc' := 34) (lo' := [some (.inr (.inr (some 91))), o1, some (.inl o), some (.inl a), some (.inl s)]) (st' := [.inl o, .inl a]) rfl ?_
      refine n_ic_ne (pc0 := 34) (len := 3) (t := 41) rfl (by first | assumption | omega | (unfold R32 at *; omega) | (unfold R64 at *; omega) | (simp only [R32, R64] at *; omega)) (by first | assumption | omega | (unfold R32 at *; omega) | (unfold R64 at *; omega) | (simp only [R32, R64] at *; omega)) (fun h_34 => ?_) (fun h_34 => ?_)
      · show WV _ _ _ 41 _ _ _ _ _
        rw [if_neg h_34] at hQ
        refine r_ex 1 (pc' := 42) (lo' := [some (.inr (.inr (some 91))), o1, some (.inl o), some (.inl a), some (.inl s)]) (st' := [.inl 0]) rfl ?_
        refine r_ret (rr := some (.inl 0)) (I := .ireturn) (pc0 := 42) (len := 1) rfl rfl ?_
        exact hQ (by first | assumption | omega | (unfold R32 at *; omega) | (unfold R64 at *; omega) | (simp only [R32, R64] at *; omega))
      · show WV _ _ _ 37 _ _ _ _ _
        rw [if_pos h_34] at hQ
        refine r_ex 2 (pc' := 42) (lo' := [some (.inr (.inr (some 91))), o1, some (.inl o), some (.inl a), some (.inl s)]) (st' := [.inl 1]) rfl ?_
        refine r_ret (rr := some (.inl 1)) (I := .ireturn) (pc0 := 42) (len := 1) rfl rfl ?_
        exact hQ (by first | assumption | omega | (unfold R32 at *; omega) | (unfold R64 at *; omega) | (simp only [R32, R64] at *; omega))
    · show WV _ _ _ 14 _ _ _ _ _
      rw [if_pos h_11] at hQ
      refine r_ex 2 (pc' := 16) (lo' := [some (.inr (.inr (some 91))), o1, some (.inl o), some (.inl a), some (.inl s)]) (st' := [.inl o, .inl a]) rfl ?_
      refine n_ic_le (pc0 := 16) (len := 3) (t := 32) rfl (by first | assumption | omega | (unfold R32 at *; omega) | (unfold R64 at *; omega) | (simp only [R32, R64] at *; omega)) (by first | assumption | omega | (unfold R32 at *; omega) | (unfold R64 at *; omega) | (simp only [R32, R64] at *; omega)) (fun h_16 => ?_) (fun h_16 => ?_)
      · show WV _ _ _ 32 _ _ _ _ _
        rw [if_neg h_16] at hQ
        refine r_ex 2 (pc' := 34) (lo' := [some (.inr (.inr (some 91))), o1, some (.inl o), some (.inl a), some (.inl s)]) (st' := [.inl o, .inl a]) rfl ?_
        refine n_ic_ne (pc0 := 34) (len := 3) (t := 41) rfl (by first | assumption | omega | (unfold R32 at *; omega) | (unfold R64 at *; omega) | (simp only [R32, R64] at *; omega)) (by first | assumption | omega | (unfold R32 at *; omega) | (unfold R64 at *; omega) | (simp only [R32, R64] at *; omega)) (fun h_34 => ?_) (fun h_34 => ?_)
        · show WV _ _ _ 41 _ _ _ _ _
          rw [if_neg h_34] at hQ
          refine r_ex 1 (pc' := 42) (lo' := [some (.inr (.inr (some 91))), o1, some (.inl o), some (.inl a), some (.inl s)]) (st' := [.inl 0]) rfl ?_
          refine r_ret (rr := some (.inl 0)) (I := .ireturn) (pc0 := 42) (len := 1) rfl rfl ?_
          exact hQ (by first | assumption | omega | (unfold R32 at *; omega) | (unfold R64 at *; omega) | (simp only [R32, R64] at *; omega))
        · show WV _ _ _ 37 _ _ _ _ _
          rw [if_pos h_34] at hQ
          refine r_ex 2 (pc' := 42) (lo' := [some (.inr (.inr (some 91))), o1, some (.inl o), some (.inl a), some (.inl s)]) (st' := [.inl 1]) rfl ?_
          refine r_ret (rr := some (.inl 1)) (I := .ireturn) (pc0 := 42) (len := 1) rfl rfl ?_
          exact hQ (by first | assumption | omega | (unfold R32 at *; omega) | (unfold R64 at *; omega) | (simp only [R32, R64] at *; omega))
      · show WV _ _ _ 19 _ _ _ _ _
        rw [if_pos h_16] at hQ
        refine r_ex 3 (pc' := 24) (lo' := [some (.inr (.inr (some 91))), o1, some (.inl o), some (.inl a), some (.inl s)]) (st' := [.inl a, .inr (.inr (some 95))]) rfl ?_
        refine r_iald2 (j := 0) (x := (v 95 ((a).toNat))) (pc' := 25) (pc0 := 24) (len := 1) rfl (s_95 _) (by first | assumption | omega | (unfold R32 at *; omega) | (unfold R64 at *; omega) | (simp only [R32, R64] at *; omega)) (by decide) rfl rfl ?_
        have hb_2 : -1 ≤ (v 95 ((a).toNat)) ∧ (v 95 ((a).toNat)) ≤ 299 := hX 95 ((a).toNat)
        refine r_ex 3 (pc' := 5) (lo' := [some (.inr (.inr (some 91))), o1, some (.inl o), some (.inl (v 95 ((a).toNat))), some (.inl (s + 1))]) (st' := []) rfl ?_
        refine ih v o (v 95 ((a).toNat)) (s + 1) _ hX (by first | assumption | omega | (unfold R32 at *; omega) | (unfold R64 at *; omega) | (simp only [R32, R64] at *; omega)) (by first | assumption | omega | (unfold R32 at *; omega) | (unfold R64 at *; omega) | (simp only [R32, R64] at *; omega)) (by first | assumption | omega | (unfold R32 at *; omega) | (unfold R64 at *; omega) | (simp only [R32, R64] at *; omega)) (by first | assumption | omega | (unfold R32 at *; omega) | (unfold R64 at *; omega) | (simp only [R32, R64] at *; omega)) hQ

theorem w_cl_comesOf91 {X : PX} {d b : Nat} {v : VS} {i : Int} {o : Int} (hX : XI v) (hp_a : 0 ≤ i ∧ i ≤ 299) (hp_b : 0 ≤ o ∧ o ≤ 299) {Q : Option PV → Nat → VS → Prop} (hQ : (0 ≤ (cl_comesOf91 v i o) ∧ (cl_comesOf91 v i o) ≤ 1) → Q (some (.inl (cl_comesOf91 v i o))) b v) : WV X d 134 0 [some (.inr (.inr (some 91))), some (.inl i), some (.inl o), none, none] [] b v Q := by
  rw [cl_comesOf91] at hQ
  refine r_ex 4 (pc' := 5) (lo' := [some (.inr (.inr (some 91))), some (.inl i), some (.inl o), some (.inl i), some (.inl 0)]) (st' := []) rfl ?_
  exact l_cl_comesOf91_5 301 v o i 0 _ hX (by first | assumption | omega | (unfold R32 at *; omega) | (unfold R64 at *; omega) | (simp only [R32, R64] at *; omega)) (by first | assumption | omega | (unfold R32 at *; omega) | (unfold R64 at *; omega) | (simp only [R32, R64] at *; omega)) (by first | assumption | omega | (unfold R32 at *; omega) | (unfold R64 at *; omega) | (simp only [R32, R64] at *; omega)) (by first | assumption | omega | (unfold R32 at *; omega) | (unfold R64 at *; omega) | (simp only [R32, R64] at *; omega)) hQ

theorem e_cl_comesOf91 {X : PX} {d b : Nat} {v : VS} {i : Int} {o : Int} (hX : XI v) (hp_a : 0 ≤ i ∧ i ≤ 299) (hp_b : 0 ≤ o ∧ o ≤ 299) : EvV X d 134 [.inr (.inr (some 91)), .inl i, .inl o] b v (some (.inl (cl_comesOf91 v i o))) b v := EvV.of (w_cl_comesOf91 hX hp_a hp_b (fun _ => ⟨rfl, rfl, rfl⟩))

theorem n_cl_comesOf91 {v : VS} {i : Int} {o : Int} (hX : XI v) (hp_a : 0 ≤ i ∧ i ≤ 299) (hp_b : 0 ≤ o ∧ o ≤ 299) : 0 ≤ (cl_comesOf91 v i o) ∧ (cl_comesOf91 v i o) ≤ 1 := by
  have q : WV (0, fun _ => 0, none) 0 134 0 [some (.inr (.inr (some 91))), some (.inl i), some (.inl o), none, none] [] 1 v (fun _ _ _ => 0 ≤ (cl_comesOf91 v i o) ∧ (cl_comesOf91 v i o) ≤ 1) := w_cl_comesOf91 (X := (0, fun _ => 0, none)) (d := 0) (b := 1) hX hp_a hp_b (fun q => q)
  obtain ⟨_, _, _, _, _, _, _, q⟩ := q
  exact q

def cl_stepsOf91_4 : Nat → VS → Int → Int → Int
  | 0, v, s, a => 0
  | f + 1, v, s, a => (if (v 95 ((a).toNat)) = (-1) then s else (if s < (v 91 4) then (cl_stepsOf91_4 f v (s + 1) (v 95 ((a).toNat))) else s))
def cl_stepsOf91 (v : VS) (i : Int) : Int :=
  (cl_stepsOf91_4 301 v 0 i)
theorem l_cl_stepsOf91_4 {X : PX} {d b : Nat} {Q : Option PV → Nat → VS → Prop}  : ∀ (f : Nat) (v : VS) (s : Int) (a : Int) (z1 : Int), XI v → (0 ≤ a ∧ a ≤ 299) → (0 ≤ s ∧ s ≤ 300) → (300 < s + f) → ((0 ≤ (cl_stepsOf91_4 f v s a) ∧ (cl_stepsOf91_4 f v s a) ≤ 300) → Q (some (.inl (cl_stepsOf91_4 f v s a))) b v) → WV X d 136 4 [some (.inr (.inr (some 91))), some (.inl z1), some (.inl s), some (.inl a)] [] b v Q := by
  intro f
  induction f with
  | zero =>
    intro v s a z1 hX hi_0 hi_1 hf hQ
    exfalso
    omega
  | succ f ih =>
    intro v s a z1 hX hi_0 hi_1 hf hQ
    rw [cl_stepsOf91_4] at hQ
    refine r_ex 3 (pc' := 9) (lo' := [some (.inr (.inr (some 91))), some (.inl z1), some (.inl s), some (.inl a)]) (st' := [.inl a, .inr (.inr (some 95))]) rfl ?_
    refine r_iald2 (j := 0) (x := (v 95 ((a).toNat))) (pc' := 10) (pc0 := 9) (len := 1) rfl (s_95 _) (by first | assumption | omega | (unfold R32 at *; omega) | (unfold R64 at *; omega) | (simp only [R32, R64] at *; omega)) (by decide) rfl rfl ?_
    have hb_1 : -1 ≤ (v 95 ((a).toNat)) ∧ (v 95 ((a).toNat)) ≤ 299 := hX 95 ((a).toNat)
    refine r_ex 1 (pc' := 11) (lo' := [some (.inr (.inr (some 91))), some (.inl z1), some (.inl s), some (.inl a)]) (st' := [.inl (-1), .inl (v 95 ((a).toNat))]) rfl ?_
    refine n_ic_eq (pc0 := 11) (len := 3) (t := 35) rfl (by first | assumption | omega | (unfold R32 at *; omega) | (unfold R64 at *; omega) | (simp only [R32, R64] at *; omega)) (by first | assumption | omega | (unfold R32 at *; omega) | (unfold R64 at *; omega) | (simp only [R32, R64] at *; omega)) (fun h_11 => ?_) (fun h_11 => ?_)
    · show WV _ _ _ 35 _ _ _ _ _
      rw [if_pos h_11] at hQ
      refine r_ex 1 (pc' := 36) (lo' := [some (.inr (.inr (some 91))), some (.inl z1), some (.inl s), some (.inl a)]) (st' := [.inl s]) rfl ?_
      refine r_ret (rr := some (.inl s)) (I := .ireturn) (pc0 := 36) (len := 1) rfl rfl ?_
      exact hQ (by first | assumption | omega | (unfold R32 at *; omega) | (unfold R64 at *; omega) | (simp only [R32, R64] at *; omega))
    · show WV _ _ _ 14 _ _ _ _ _
      rw [if_neg h_11] at hQ
      refine r_ex 3 (pc' := 19) (lo' := [some (.inr (.inr (some 91))), some (.inl z1), some (.inl s), some (.inl a)]) (st' := [.inl (v 91 4), .inl s]) rfl ?_
      have hb_2 : 0 ≤ (v 91 4) ∧ (v 91 4) ≤ 300 := hX 91 4
      refine n_ic_ge (pc0 := 19) (len := 3) (t := 35) rfl (by first | assumption | omega | (unfold R32 at *; omega) | (unfold R64 at *; omega) | (simp only [R32, R64] at *; omega)) (by first | assumption | omega | (unfold R32 at *; omega) | (unfold R64 at *; omega) | (simp only [R32, R64] at *; omega)) (fun h_19 => ?_) (fun h_19 => ?_)
      · show WV _ _ _ 35 _ _ _ _ _
        rw [if_neg h_19] at hQ
        refine r_ex 1 (pc' := 36) (lo' := [some (.inr (.inr (some 91))), some (.inl z1), some (.inl s), some (.inl a)]) (st' := [.inl s]) rfl ?_
        refine r_ret (rr := some (.inl s)) (I := .ireturn) (pc0 := 36) (len := 1) rfl rfl ?_
        exact hQ (by first | assumption | omega | (unfold R32 at *; omega) | (unfold R64 at *; omega) | (simp only [R32, R64] at *; omega))
      · show WV _ _ _ 22 _ _ _ _ _
        rw [if_pos h_19] at hQ
        refine r_ex 4 (pc' := 30) (lo' := [some (.inr (.inr (some 91))), some (.inl z1), some (.inl (s + 1)), some (.inl a)]) (st' := [.inl a, .inr (.inr (some 95))]) rfl ?_
        refine r_iald2 (j := 0) (x := (v 95 ((a).toNat))) (pc' := 31) (pc0 := 30) (len := 1) rfl (s_95 _) (by first | assumption | omega | (unfold R32 at *; omega) | (unfold R64 at *; omega) | (simp only [R32, R64] at *; omega)) (by decide) rfl rfl ?_
        refine r_ex 2 (pc' := 4) (lo' := [some (.inr (.inr (some 91))), some (.inl z1), some (.inl (s + 1)), some (.inl (v 95 ((a).toNat)))]) (st' := []) rfl ?_
        refine ih v (s + 1) (v 95 ((a).toNat)) _ hX (by first | assumption | omega | (unfold R32 at *; omega) | (unfold R64 at *; omega) | (simp only [R32, R64] at *; omega)) (by first | assumption | omega | (unfold R32 at *; omega) | (unfold R64 at *; omega) | (simp only [R32, R64] at *; omega)) (by first | assumption | omega | (unfold R32 at *; omega) | (unfold R64 at *; omega) | (simp only [R32, R64] at *; omega)) hQ

theorem w_cl_stepsOf91 {X : PX} {d b : Nat} {v : VS} {i : Int} (hX : XI v) (hp_a : 0 ≤ i ∧ i ≤ 299) {Q : Option PV → Nat → VS → Prop} (hQ : (0 ≤ (cl_stepsOf91 v i) ∧ (cl_stepsOf91 v i) ≤ 300) → Q (some (.inl (cl_stepsOf91 v i))) b v) : WV X d 136 0 [some (.inr (.inr (some 91))), some (.inl i), none, none] [] b v Q := by
  rw [cl_stepsOf91] at hQ
  refine r_ex 4 (pc' := 4) (lo' := [some (.inr (.inr (some 91))), some (.inl i), some (.inl 0), some (.inl i)]) (st' := []) rfl ?_
  exact l_cl_stepsOf91_4 301 v 0 i _ hX (by first | assumption | omega | (unfold R32 at *; omega) | (unfold R64 at *; omega) | (simp only [R32, R64] at *; omega)) (by first | assumption | omega | (unfold R32 at *; omega) | (unfold R64 at *; omega) | (simp only [R32, R64] at *; omega)) (by first | assumption | omega | (unfold R32 at *; omega) | (unfold R64 at *; omega) | (simp only [R32, R64] at *; omega)) hQ

theorem e_cl_stepsOf91 {X : PX} {d b : Nat} {v : VS} {i : Int} (hX : XI v) (hp_a : 0 ≤ i ∧ i ≤ 299) : EvV X d 136 [.inr (.inr (some 91)), .inl i] b v (some (.inl (cl_stepsOf91 v i))) b v := EvV.of (w_cl_stepsOf91 hX hp_a (fun _ => ⟨rfl, rfl, rfl⟩))

theorem n_cl_stepsOf91 {v : VS} {i : Int} (hX : XI v) (hp_a : 0 ≤ i ∧ i ≤ 299) : 0 ≤ (cl_stepsOf91 v i) ∧ (cl_stepsOf91 v i) ≤ 300 := by
  have q : WV (0, fun _ => 0, none) 0 136 0 [some (.inr (.inr (some 91))), some (.inl i), none, none] [] 1 v (fun _ _ _ => 0 ≤ (cl_stepsOf91 v i) ∧ (cl_stepsOf91 v i) ≤ 300) := w_cl_stepsOf91 (X := (0, fun _ => 0, none)) (d := 0) (b := 1) hX hp_a (fun q => q)
  obtain ⟨_, _, _, _, _, _, _, q⟩ := q
  exact q

def cl_startOf91_4 : Nat → VS → Int → Int → Int
  | 0, v, a, s => 0
  | f + 1, v, a, s => (if s < (v 91 4) then (if (v 95 ((a).toNat)) = (-1) then a else (cl_startOf91_4 f v (v 95 ((a).toNat)) (s + 1))) else a)
def cl_startOf91 (v : VS) (i : Int) : Int :=
  (cl_startOf91_4 301 v i 0)
theorem l_cl_startOf91_4 {X : PX} {d b : Nat} {Q : Option PV → Nat → VS → Prop}  : ∀ (f : Nat) (v : VS) (a : Int) (s : Int) (z1 : Int), XI v → (0 ≤ a ∧ a ≤ 299) → (0 ≤ s ∧ s ≤ 300) → (300 < s + f) → ((0 ≤ (cl_startOf91_4 f v a s) ∧ (cl_startOf91_4 f v a s) ≤ 299) → Q (some (.inl (cl_startOf91_4 f v a s))) b v) → WV X d 138 4 [some (.inr (.inr (some 91))), some (.inl z1), some (.inl a), some (.inl s)] [] b v Q := by
  intro f
  induction f with
  | zero =>
    intro v a s z1 hX hi_0 hi_1 hf hQ
    exfalso
    omega
  | succ f ih =>
    intro v a s z1 hX hi_0 hi_1 hf hQ
    rw [cl_startOf91_4] at hQ
    refine r_ex 3 (pc' := 9) (lo' := [some (.inr (.inr (some 91))), some (.inl z1), some (.inl a), some (.inl s)]) (st' := [.inl (v 91 4), .inl s]) rfl ?_
    have hb_1 : 0 ≤ (v 91 4) ∧ (v 91 4) ≤ 300 := hX 91 4
    refine n_ic_ge (pc0 := 9) (len := 3) (t := 35) rfl (by first | assumption | omega | (unfold R32 at *; omega) | (unfold R64 at *; omega) | (simp only [R32, R64] at *; omega)) (by first | assumption | omega | (unfold R32 at *; omega) | (unfold R64 at *; omega) | (simp only [R32, R64] at *; omega)) (fun h_9 => ?_) (fun h_9 => ?_)
    · show WV _ _ _ 35 _ _ _ _ _
      rw [if_neg h_9] at hQ
      refine r_ex 1 (pc' := 36) (lo' := [some (.inr (.inr (some 91))), some (.inl z1), some (.inl a), some (.inl s)]) (st' := [.inl a]) rfl ?_
      refine r_ret (rr := some (.inl a)) (I := .ireturn) (pc0 := 36) (len := 1) rfl rfl ?_
      exact hQ (by first | assumption | omega | (unfold R32 at *; omega) | (unfold R64 at *; omega) | (simp only [R32, R64] at *; omega))
    · show WV _ _ _ 12 _ _ _ _ _
      rw [if_pos h_9] at hQ
      refine r_ex 3 (pc' := 17) (lo' := [some (.inr (.inr (some 91))), some (.inl z1), some (.inl a), some (.inl s)]) (st' := [.inl a, .inr (.inr (some 95))]) rfl ?_
      refine r_iald2 (j := 0) (x := (v 95 ((a).toNat))) (pc' := 18) (pc0 := 17) (len := 1) rfl (s_95 _) (by first | assumption | omega | (unfold R32 at *; omega) | (unfold R64 at *; omega) | (simp only [R32, R64] at *; omega)) (by decide) rfl rfl ?_
      have hb_2 : -1 ≤ (v 95 ((a).toNat)) ∧ (v 95 ((a).toNat)) ≤ 299 := hX 95 ((a).toNat)
      refine r_ex 1 (pc' := 19) (lo' := [some (.inr (.inr (some 91))), some (.inl z1), some (.inl a), some (.inl s)]) (st' := [.inl (-1), .inl (v 95 ((a).toNat))]) rfl ?_
      refine n_ic_eq (pc0 := 19) (len := 3) (t := 35) rfl (by first | assumption | omega | (unfold R32 at *; omega) | (unfold R64 at *; omega) | (simp only [R32, R64] at *; omega)) (by first | assumption | omega | (unfold R32 at *; omega) | (unfold R64 at *; omega) | (simp only [R32, R64] at *; omega)) (fun h_19 => ?_) (fun h_19 => ?_)
      · show WV _ _ _ 35 _ _ _ _ _
        rw [if_pos h_19] at hQ
        refine r_ex 1 (pc' := 36) (lo' := [some (.inr (.inr (some 91))), some (.inl z1), some (.inl a), some (.inl s)]) (st' := [.inl a]) rfl ?_
        refine r_ret (rr := some (.inl a)) (I := .ireturn) (pc0 := 36) (len := 1) rfl rfl ?_
        exact hQ (by first | assumption | omega | (unfold R32 at *; omega) | (unfold R64 at *; omega) | (simp only [R32, R64] at *; omega))
      · show WV _ _ _ 22 _ _ _ _ _
        rw [if_neg h_19] at hQ
        refine r_ex 3 (pc' := 27) (lo' := [some (.inr (.inr (some 91))), some (.inl z1), some (.inl a), some (.inl s)]) (st' := [.inl a, .inr (.inr (some 95))]) rfl ?_
        refine r_iald2 (j := 0) (x := (v 95 ((a).toNat))) (pc' := 28) (pc0 := 27) (len := 1) rfl (s_95 _) (by first | assumption | omega | (unfold R32 at *; omega) | (unfold R64 at *; omega) | (simp only [R32, R64] at *; omega)) (by decide) rfl rfl ?_
        refine r_ex 3 (pc' := 4) (lo' := [some (.inr (.inr (some 91))), some (.inl z1), some (.inl (v 95 ((a).toNat))), some (.inl (s + 1))]) (st' := []) rfl ?_
        refine ih v (v 95 ((a).toNat)) (s + 1) _ hX (by first | assumption | omega | (unfold R32 at *; omega) | (unfold R64 at *; omega) | (simp only [R32, R64] at *; omega)) (by first | assumption | omega | (unfold R32 at *; omega) | (unfold R64 at *; omega) | (simp only [R32, R64] at *; omega)) (by first | assumption | omega | (unfold R32 at *; omega) | (unfold R64 at *; omega) | (simp only [R32, R64] at *; omega)) hQ

theorem w_cl_startOf91 {X : PX} {d b : Nat} {v : VS} {i : Int} (hX : XI v) (hp_a : 0 ≤ i ∧ i ≤ 299) {Q : Option PV → Nat → VS → Prop} (hQ : (0 ≤ (cl_startOf91 v i) ∧ (cl_startOf91 v i) ≤ 299) → Q (some (.inl (cl_startOf91 v i))) b v) : WV X d 138 0 [some (.inr (.inr (some 91))), some (.inl i), none, none] [] b v Q := by
  rw [cl_startOf91] at hQ
  refine r_ex 4 (pc' := 4) (lo' := [some (.inr (.inr (some 91))), some (.inl i), some (.inl i), some (.inl 0)]) (st' := []) rfl ?_
  exact l_cl_startOf91_4 301 v i 0 _ hX (by first | assumption | omega | (unfold R32 at *; omega) | (unfold R64 at *; omega) | (simp only [R32, R64] at *; omega)) (by first | assumption | omega | (unfold R32 at *; omega) | (unfold R64 at *; omega) | (simp only [R32, R64] at *; omega)) (by first | assumption | omega | (unfold R32 at *; omega) | (unfold R64 at *; omega) | (simp only [R32, R64] at *; omega)) hQ

theorem e_cl_startOf91 {X : PX} {d b : Nat} {v : VS} {i : Int} (hX : XI v) (hp_a : 0 ≤ i ∧ i ≤ 299) : EvV X d 138 [.inr (.inr (some 91)), .inl i] b v (some (.inl (cl_startOf91 v i))) b v := EvV.of (w_cl_startOf91 hX hp_a (fun _ => ⟨rfl, rfl, rfl⟩))

theorem n_cl_startOf91 {v : VS} {i : Int} (hX : XI v) (hp_a : 0 ≤ i ∧ i ≤ 299) : 0 ≤ (cl_startOf91 v i) ∧ (cl_startOf91 v i) ≤ 299 := by
  have q : WV (0, fun _ => 0, none) 0 138 0 [some (.inr (.inr (some 91))), some (.inl i), none, none] [] 1 v (fun _ _ _ => 0 ≤ (cl_startOf91 v i) ∧ (cl_startOf91 v i) ≤ 299) := w_cl_startOf91 (X := (0, fun _ => 0, none)) (d := 0) (b := 1) hX hp_a (fun q => q)
  obtain ⟨_, _, _, _, _, _, _, q⟩ := q
  exact q
