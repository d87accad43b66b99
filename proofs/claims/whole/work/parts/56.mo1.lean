/-! the reference: small methods -/
def mo_in (v : VS) (y : Int) (l : Int) (g : Int) : Int :=
  (if y < l then 0 else (if g < y then 0 else 1))
theorem w_mo_in {X : PX} {d b : Nat} {v : VS} {y : Int} {l : Int} {g : Int} (hX : XI v) (hp_a : R64 y) (hp_b : R64 l) (hp_c : R64 g) {Q : Option PV → Nat → VS → Prop} (hQ : Q (some (.inl (mo_in v y l g))) b v) : WV X d 202 0 [some (.inr (.inl y)), none, some (.inr (.inl l)), none, some (.inr (.inl g)), none] [] b v Q := by
  rw [mo_in] at hQ
  refine r_ex 2 (pc' := 2) (lo' := [some (.inr (.inl y)), none, some (.inr (.inl l)), none, some (.inr (.inl g)), none]) (st' := [.inr (.inl l), .inr (.inl y)]) rfl ?_
  refine n_lc_lt (pc0 := 2) (len := 1) (pc1 := 3) (pc2 := 3) (len2 := 3) (t := 17) rfl rfl rfl (by first | assumption | omega | (unfold R32 at *; omega) | (unfold R64 at *; omega) | (simp only [R32, R64] at *; omega)) (by first | assumption | omega | (unfold R32 at *; omega) | (unfold R64 at *; omega) | (simp only [R32, R64] at *; omega)) (fun h_2 => ?_) (fun h_2 => ?_)
  · show WV _ _ _ 17 _ _ _ _ _
    rw [if_pos h_2] at hQ
    refine r_ex 1 (pc' := 18) (lo' := [some (.inr (.inl y)), none, some (.inr (.inl l)), none, some (.inr (.inl g)), none]) (st' := [.inl 0]) rfl ?_
    refine r_ret (rr := some (.inl 0)) (I := .ireturn) (pc0 := 18) (len := 1) rfl rfl ?_
    exact hQ 
  · show WV _ _ _ 6 _ _ _ _ _
    rw [if_neg h_2] at hQ
    refine r_ex 2 (pc' := 9) (lo' := [some (.inr (.inl y)), none, some (.inr (.inl l)), none, some (.inr (.inl g)), none]) (st' := [.inr (.inl g), .inr (.inl y)]) rfl ?_
    refine n_lc_gt (pc0 := 9) (len := 1) (pc1 := 10) (pc2 := 10) (len2 := 3) (t := 17) rfl rfl rfl (by first | assumption | omega | (unfold R32 at *; omega) | (unfold R64 at *; omega) | (simp only [R32, R64] at *; omega)) (by first | assumption | omega | (unfold R32 at *; omega) | (unfold R64 at *; omega) | (simp only [R32, R64] at *; omega)) (fun h_9 => ?_) (fun h_9 => ?_)
    · show WV _ _ _ 17 _ _ _ _ _
      rw [if_pos h_9] at hQ
      refine r_ex 1 (pc' := 18) (lo' := [some (.inr (.inl y)), none, some (.inr (.inl l)), none, some (.inr (.inl g)), none]) (st' := [.inl 0]) rfl ?_
      refine r_ret (rr := some (.inl 0)) (I := .ireturn) (pc0 := 18) (len := 1) rfl rfl ?_
      exact hQ 
    · show WV _ _ _ 13 _ _ _ _ _
      rw [if_neg h_9] at hQ
      refine r_ex 2 (pc' := 18) (lo' := [some (.inr (.inl y)), none, some (.inr (.inl l)), none, some (.inr (.inl g)), none]) (st' := [.inl 1]) rfl ?_
      refine r_ret (rr := some (.inl 1)) (I := .ireturn) (pc0 := 18) (len := 1) rfl rfl ?_
      exact hQ 

theorem q_mo_in {X : PX} {d b : Nat} {v : VS} {y : Int} {l : Int} {g : Int} (hX : XI v) (hp_a : R64 y) (hp_b : R64 l) (hp_c : R64 g) : EvV X d 202 [.inr (.inl y), .inr (.inl l), .inr (.inl g)] b v (some (.inl (mo_in v y l g))) b v := EvV.of (w_mo_in hX hp_a hp_b hp_c (⟨rfl, rfl, rfl⟩))

theorem p_mo_in {v : VS} {y : Int} {l : Int} {g : Int} : (mo_in v y l g) = (if l ≤ y ∧ y ≤ g then 1 else 0) := by
  unfold mo_in
  repeat' split
  all_goals omega

theorem e_mo_in {X : PX} {d b : Nat} {v : VS} {y : Int} {l : Int} {g : Int} (hX : XI v) (hp_a : R64 y) (hp_b : R64 l) (hp_c : R64 g) : EvV X d 202 [.inr (.inl y), .inr (.inl l), .inr (.inl g)] b v (some (.inl (if l ≤ y ∧ y ≤ g then 1 else 0))) b v := by
  rw [← p_mo_in]
  exact q_mo_in hX hp_a hp_b hp_c

def mo_isSlot (v : VS) (s : Int) : Int :=
  (if (0 : Int) ≤ s ∧ s ≤ (3 : Int) then 1 else 0)
theorem w_mo_isSlot {X : PX} {d b : Nat} {v : VS} {s : Int} (hX : XI v) (hp_a : R32 s) {Q : Option PV → Nat → VS → Prop} (hQ : Q (some (.inl (mo_isSlot v s))) b v) : WV X (d + 1) 201 0 [some (.inl s)] [] b v Q := by
  rw [mo_isSlot] at hQ
  refine r_ex 1 (pc' := 1) (lo' := [some (.inl s)]) (st' := [.inl s]) rfl ?_
  refine n_i2l (pc' := 2) (pc0 := 1) (len := 1) rfl (by first | assumption | omega | (unfold R32 at *; omega) | (unfold R64 at *; omega) | (simp only [R32, R64] at *; omega)) rfl ?_
  refine r_ex 2 (pc' := 6) (lo' := [some (.inl s)]) (st' := [.inr (.inl 3), .inr (.inl 0), .inr (.inl s)]) rfl ?_
  have hp_1 : R64 s := (by first | assumption | omega | (unfold R32 at *; omega) | (unfold R64 at *; omega) | (simp only [R32, R64] at *; omega))
  have hp_2 : R64 (0 : Int) := (by first | assumption | omega | (unfold R32 at *; omega) | (unfold R64 at *; omega) | (simp only [R32, R64] at *; omega))
  have hp_3 : R64 (3 : Int) := (by first | assumption | omega | (unfold R32 at *; omega) | (unfold R64 at *; omega) | (simp only [R32, R64] at *; omega))
  refine r_callb (P := (0 : Int) ≤ s ∧ s ≤ (3 : Int)) (m := 202) (args := [.inr (.inl s), .inr (.inl 0), .inr (.inl 3)]) (n' := 201) (pc' := 9) (lo' := [some (.inl s)]) (st' := []) (I := .invokestatic 202) (pc0 := 6) (len := 3) rfl rfl rfl (e_mo_in hX hp_1 hp_2 hp_3) (fun h_6 => ?_) (fun h_6 => ?_)
  · show WV _ _ _ 9 _ _ _ _ _
    rw [if_pos h_6] at hQ
    refine r_ret (rr := some (.inl 1)) (I := .ireturn) (pc0 := 9) (len := 1) rfl rfl ?_
    exact hQ 
  · show WV _ _ _ 9 _ _ _ _ _
    rw [if_neg h_6] at hQ
    refine r_ret (rr := some (.inl 0)) (I := .ireturn) (pc0 := 9) (len := 1) rfl rfl ?_
    exact hQ 

theorem q_mo_isSlot {X : PX} {d b : Nat} {v : VS} {s : Int} (hX : XI v) (hp_a : R32 s) : EvV X (d + 1) 201 [.inl s] b v (some (.inl (mo_isSlot v s))) b v := EvV.of (w_mo_isSlot hX hp_a (⟨rfl, rfl, rfl⟩))

theorem p_mo_isSlot {v : VS} {s : Int} : (mo_isSlot v s) = (if 0 ≤ s ∧ s ≤ 3 then 1 else 0) := by
  unfold mo_isSlot
  repeat' split
  all_goals omega

theorem e_mo_isSlot {X : PX} {d b : Nat} {v : VS} {s : Int} (hX : XI v) (hp_a : R32 s) : EvV X (d + 1) 201 [.inl s] b v (some (.inl (if 0 ≤ s ∧ s ≤ 3 then 1 else 0))) b v := by
  rw [← p_mo_isSlot]
  exact q_mo_isSlot hX hp_a

def mo_isBay (v : VS)  : Int :=
  (if 0 < (v 209 0) then 1 else 0)
theorem w_mo_isBay {X : PX} {d b : Nat} {v : VS}  (hX : XI v)  {Q : Option PV → Nat → VS → Prop} (hQ : Q (some (.inl (mo_isBay v))) b v) : WV X d 245 0 [some (.inr (.inr (some 203)))] [] b v Q := by
  rw [mo_isBay] at hQ
  refine r_ex 3 (pc' := 5) (lo' := [some (.inr (.inr (some 203)))]) (st' := [.inl 0, .inr (.inr (some 209))]) rfl ?_
  refine r_iald2 (j := 0) (x := (v 209 0)) (pc' := 6) (pc0 := 5) (len := 1) rfl (s_209 _) (by first | assumption | omega | (unfold R32 at *; omega) | (unfold R64 at *; omega) | (simp only [R32, R64] at *; omega)) (by decide) rfl rfl ?_
  have hb_1 : 0 ≤ (v 209 0) ∧ (v 209 0) ≤ 2001 := hX 209 0
  refine n_if_le (pc0 := 6) (len := 3) (t := 13) rfl (by first | assumption | omega | (unfold R32 at *; omega) | (unfold R64 at *; omega) | (simp only [R32, R64] at *; omega)) (fun h_6 => ?_) (fun h_6 => ?_)
  · show WV _ _ _ 13 _ _ _ _ _
    rw [if_neg h_6] at hQ
    refine r_ex 1 (pc' := 14) (lo' := [some (.inr (.inr (some 203)))]) (st' := [.inl 0]) rfl ?_
    refine r_ret (rr := some (.inl 0)) (I := .ireturn) (pc0 := 14) (len := 1) rfl rfl ?_
    exact hQ 
  · show WV _ _ _ 9 _ _ _ _ _
    rw [if_pos h_6] at hQ
    refine r_ex 2 (pc' := 14) (lo' := [some (.inr (.inr (some 203)))]) (st' := [.inl 1]) rfl ?_
    refine r_ret (rr := some (.inl 1)) (I := .ireturn) (pc0 := 14) (len := 1) rfl rfl ?_
    exact hQ 

theorem q_mo_isBay {X : PX} {d b : Nat} {v : VS}  (hX : XI v)  : EvV X d 245 [.inr (.inr (some 203))] b v (some (.inl (mo_isBay v))) b v := EvV.of (w_mo_isBay hX  (⟨rfl, rfl, rfl⟩))

theorem p_mo_isBay {v : VS}  : (mo_isBay v) = (if 0 < v 209 0 then 1 else 0) := by
  unfold mo_isBay
  repeat' split
  all_goals omega

theorem e_mo_isBay {X : PX} {d b : Nat} {v : VS}  (hX : XI v)  : EvV X d 245 [.inr (.inr (some 203))] b v (some (.inl (if 0 < v 209 0 then 1 else 0))) b v := by
  rw [← p_mo_isBay]
  exact q_mo_isBay hX 

def mo_isChurch (v : VS) (c : Int) : Int :=
  (if (0 : Int) ≤ c ∧ c ≤ ((v 210 0) - 1) then 1 else 0)
theorem w_mo_isChurch {X : PX} {d b : Nat} {v : VS} {c : Int} (hX : XI v) (hp_a : R64 c) {Q : Option PV → Nat → VS → Prop} (hQ : Q (some (.inl (mo_isChurch v c))) b v) : WV X (d + 1) 236 0 [some (.inr (.inr (some 203))), some (.inr (.inl c)), none] [] b v Q := by
  rw [mo_isChurch] at hQ
  refine r_ex 5 (pc' := 7) (lo' := [some (.inr (.inr (some 203))), some (.inr (.inl c)), none]) (st' := [.inl 0, .inr (.inr (some 210)), .inr (.inl 0), .inr (.inl c)]) rfl ?_
  refine r_iald2 (j := 0) (x := (v 210 0)) (pc' := 8) (pc0 := 7) (len := 1) rfl (s_210 _) (by first | assumption | omega | (unfold R32 at *; omega) | (unfold R64 at *; omega) | (simp only [R32, R64] at *; omega)) (by decide) rfl rfl ?_
  have hb_1 : 0 ≤ (v 210 0) ∧ (v 210 0) ≤ 9 := hX 210 0
  refine n_i2l (pc' := 9) (pc0 := 8) (len := 1) rfl (by first | assumption | omega | (unfold R32 at *; omega) | (unfold R64 at *; omega) | (simp only [R32, R64] at *; omega)) rfl ?_
  refine r_ex 2 (pc' := 11) (lo' := [some (.inr (.inr (some 203))), some (.inr (.inl c)), none]) (st' := [.inr (.inl ((v 210 0) - 1)), .inr (.inl 0), .inr (.inl c)]) rfl ?_
  have hp_2 : R64 c := (by first | assumption | omega | (unfold R32 at *; omega) | (unfold R64 at *; omega) | (simp only [R32, R64] at *; omega))
  have hp_3 : R64 (0 : Int) := (by first | assumption | omega | (unfold R32 at *; omega) | (unfold R64 at *; omega) | (simp only [R32, R64] at *; omega))
  have hp_4 : R64 ((v 210 0) - 1) := (by first | assumption | omega | (unfold R32 at *; omega) | (unfold R64 at *; omega) | (simp only [R32, R64] at *; omega))
  refine r_callb (P := (0 : Int) ≤ c ∧ c ≤ ((v 210 0) - 1)) (m := 202) (args := [.inr (.inl c), .inr (.inl 0), .inr (.inl ((v 210 0) - 1))]) (n' := 236) (pc' := 14) (lo' := [some (.inr (.inr (some 203))), some (.inr (.inl c)), none]) (st' := []) (I := .invokestatic 202) (pc0 := 11) (len := 3) rfl rfl rfl (e_mo_in hX hp_2 hp_3 hp_4) (fun h_11 => ?_) (fun h_11 => ?_)
  · show WV _ _ _ 14 _ _ _ _ _
    rw [if_pos h_11] at hQ
    refine r_ret (rr := some (.inl 1)) (I := .ireturn) (pc0 := 14) (len := 1) rfl rfl ?_
    exact hQ 
  · show WV _ _ _ 14 _ _ _ _ _
    rw [if_neg h_11] at hQ
    refine r_ret (rr := some (.inl 0)) (I := .ireturn) (pc0 := 14) (len := 1) rfl rfl ?_
    exact hQ 

theorem q_mo_isChurch {X : PX} {d b : Nat} {v : VS} {c : Int} (hX : XI v) (hp_a : R64 c) : EvV X (d + 1) 236 [.inr (.inr (some 203)), .inr (.inl c)] b v (some (.inl (mo_isChurch v c))) b v := EvV.of (w_mo_isChurch hX hp_a (⟨rfl, rfl, rfl⟩))

theorem p_mo_isChurch {v : VS} {c : Int} : (mo_isChurch v c) = (if 0 ≤ c ∧ c < v 210 0 then 1 else 0) := by
  unfold mo_isChurch
  repeat' split
  all_goals omega

theorem e_mo_isChurch {X : PX} {d b : Nat} {v : VS} {c : Int} (hX : XI v) (hp_a : R64 c) : EvV X (d + 1) 236 [.inr (.inr (some 203)), .inr (.inl c)] b v (some (.inl (if 0 ≤ c ∧ c < v 210 0 then 1 else 0))) b v := by
  rw [← p_mo_isChurch]
  exact q_mo_isChurch hX hp_a

def mo_isEar (v : VS) (c : Int) : Int :=
  (if (0 : Int) ≤ c ∧ c ≤ ((v 210 3) - 1) then 1 else 0)
theorem w_mo_isEar {X : PX} {d b : Nat} {v : VS} {c : Int} (hX : XI v) (hp_a : R32 c) {Q : Option PV → Nat → VS → Prop} (hQ : Q (some (.inl (mo_isEar v c))) b v) : WV X (d + 1) 238 0 [some (.inr (.inr (some 203))), some (.inl c)] [] b v Q := by
  rw [mo_isEar] at hQ
  refine r_ex 1 (pc' := 1) (lo' := [some (.inr (.inr (some 203))), some (.inl c)]) (st' := [.inl c]) rfl ?_
  refine n_i2l (pc' := 2) (pc0 := 1) (len := 1) rfl (by first | assumption | omega | (unfold R32 at *; omega) | (unfold R64 at *; omega) | (simp only [R32, R64] at *; omega)) rfl ?_
  refine r_ex 4 (pc' := 8) (lo' := [some (.inr (.inr (some 203))), some (.inl c)]) (st' := [.inl 3, .inr (.inr (some 210)), .inr (.inl 0), .inr (.inl c)]) rfl ?_
  refine r_iald2 (j := 0) (x := (v 210 3)) (pc' := 9) (pc0 := 8) (len := 1) rfl (s_210 _) (by first | assumption | omega | (unfold R32 at *; omega) | (unfold R64 at *; omega) | (simp only [R32, R64] at *; omega)) (by decide) rfl rfl ?_
  have hb_1 : 0 ≤ (v 210 3) ∧ (v 210 3) ≤ 12 := hX 210 3
  refine r_ex 2 (pc' := 11) (lo' := [some (.inr (.inr (some 203))), some (.inl c)]) (st' := [.inl ((v 210 3) - 1), .inr (.inl 0), .inr (.inl c)]) rfl ?_
  refine n_i2l (pc' := 12) (pc0 := 11) (len := 1) rfl (by first | assumption | omega | (unfold R32 at *; omega) | (unfold R64 at *; omega) | (simp only [R32, R64] at *; omega)) rfl ?_
  have hp_2 : R64 c := (by first | assumption | omega | (unfold R32 at *; omega) | (unfold R64 at *; omega) | (simp only [R32, R64] at *; omega))
  have hp_3 : R64 (0 : Int) := (by first | assumption | omega | (unfold R32 at *; omega) | (unfold R64 at *; omega) | (simp only [R32, R64] at *; omega))
  have hp_4 : R64 ((v 210 3) - 1) := (by first | assumption | omega | (unfold R32 at *; omega) | (unfold R64 at *; omega) | (simp only [R32, R64] at *; omega))
  refine r_callb (P := (0 : Int) ≤ c ∧ c ≤ ((v 210 3) - 1)) (m := 202) (args := [.inr (.inl c), .inr (.inl 0), .inr (.inl ((v 210 3) - 1))]) (n' := 238) (pc' := 15) (lo' := [some (.inr (.inr (some 203))), some (.inl c)]) (st' := []) (I := .invokestatic 202) (pc0 := 12) (len := 3) rfl rfl rfl (e_mo_in hX hp_2 hp_3 hp_4) (fun h_12 => ?_) (fun h_12 => ?_)
  · show WV _ _ _ 15 _ _ _ _ _
    rw [if_pos h_12] at hQ
    refine r_ret (rr := some (.inl 1)) (I := .ireturn) (pc0 := 15) (len := 1) rfl rfl ?_
    exact hQ 
  · show WV _ _ _ 15 _ _ _ _ _
    rw [if_neg h_12] at hQ
    refine r_ret (rr := some (.inl 0)) (I := .ireturn) (pc0 := 15) (len := 1) rfl rfl ?_
    exact hQ 

theorem q_mo_isEar {X : PX} {d b : Nat} {v : VS} {c : Int} (hX : XI v) (hp_a : R32 c) : EvV X (d + 1) 238 [.inr (.inr (some 203)), .inl c] b v (some (.inl (mo_isEar v c))) b v := EvV.of (w_mo_isEar hX hp_a (⟨rfl, rfl, rfl⟩))

theorem p_mo_isEar {v : VS} {c : Int} : (mo_isEar v c) = (if 0 ≤ c ∧ c < v 210 3 then 1 else 0) := by
  unfold mo_isEar
  repeat' split
  all_goals omega

theorem e_mo_isEar {X : PX} {d b : Nat} {v : VS} {c : Int} (hX : XI v) (hp_a : R32 c) : EvV X (d + 1) 238 [.inr (.inr (some 203)), .inl c] b v (some (.inl (if 0 ≤ c ∧ c < v 210 3 then 1 else 0))) b v := by
  rw [← p_mo_isEar]
  exact q_mo_isEar hX hp_a

def mo_isSecond (v : VS) (s : Int) : Int :=
  (if (0 : Int) ≤ s ∧ s ≤ ((v 210 1) - 1) then 1 else 0)
theorem w_mo_isSecond {X : PX} {d b : Nat} {v : VS} {s : Int} (hX : XI v) (hp_a : R64 s) {Q : Option PV → Nat → VS → Prop} (hQ : Q (some (.inl (mo_isSecond v s))) b v) : WV X (d + 1) 240 0 [some (.inr (.inr (some 203))), some (.inr (.inl s)), none] [] b v Q := by
  rw [mo_isSecond] at hQ
  refine r_ex 5 (pc' := 7) (lo' := [some (.inr (.inr (some 203))), some (.inr (.inl s)), none]) (st' := [.inl 1, .inr (.inr (some 210)), .inr (.inl 0), .inr (.inl s)]) rfl ?_
  refine r_iald2 (j := 0) (x := (v 210 1)) (pc' := 8) (pc0 := 7) (len := 1) rfl (s_210 _) (by first | assumption | omega | (unfold R32 at *; omega) | (unfold R64 at *; omega) | (simp only [R32, R64] at *; omega)) (by decide) rfl rfl ?_
  have hb_1 : 0 ≤ (v 210 1) ∧ (v 210 1) ≤ 300 := hX 210 1
  refine n_i2l (pc' := 9) (pc0 := 8) (len := 1) rfl (by first | assumption | omega | (unfold R32 at *; omega) | (unfold R64 at *; omega) | (simp only [R32, R64] at *; omega)) rfl ?_
  refine r_ex 2 (pc' := 11) (lo' := [some (.inr (.inr (some 203))), some (.inr (.inl s)), none]) (st' := [.inr (.inl ((v 210 1) - 1)), .inr (.inl 0), .inr (.inl s)]) rfl ?_
  have hp_2 : R64 s := (by first | assumption | omega | (unfold R32 at *; omega) | (unfold R64 at *; omega) | (simp only [R32, R64] at *; omega))
  have hp_3 : R64 (0 : Int) := (by first | assumption | omega | (unfold R32 at *; omega) | (unfold R64 at *; omega) | (simp only [R32, R64] at *; omega))
  have hp_4 : R64 ((v 210 1) - 1) := (by first | assumption | omega | (unfold R32 at *; omega) | (unfold R64 at *; omega) | (simp only [R32, R64] at *; omega))
  refine r_callb (P := (0 : Int) ≤ s ∧ s ≤ ((v 210 1) - 1)) (m := 202) (args := [.inr (.inl s), .inr (.inl 0), .inr (.inl ((v 210 1) - 1))]) (n' := 240) (pc' := 14) (lo' := [some (.inr (.inr (some 203))), some (.inr (.inl s)), none]) (st' := []) (I := .invokestatic 202) (pc0 := 11) (len := 3) rfl rfl rfl (e_mo_in hX hp_2 hp_3 hp_4) (fun h_11 => ?_) (fun h_11 => ?_)
  · show WV _ _ _ 14 _ _ _ _ _
    rw [if_pos h_11] at hQ
    refine r_ret (rr := some (.inl 1)) (I := .ireturn) (pc0 := 14) (len := 1) rfl rfl ?_
    exact hQ 
  · show WV _ _ _ 14 _ _ _ _ _
    rw [if_neg h_11] at hQ
    refine r_ret (rr := some (.inl 0)) (I := .ireturn) (pc0 := 14) (len := 1) rfl rfl ?_
    exact hQ 

theorem q_mo_isSecond {X : PX} {d b : Nat} {v : VS} {s : Int} (hX : XI v) (hp_a : R64 s) : EvV X (d + 1) 240 [.inr (.inr (some 203)), .inr (.inl s)] b v (some (.inl (mo_isSecond v s))) b v := EvV.of (w_mo_isSecond hX hp_a (⟨rfl, rfl, rfl⟩))

theorem p_mo_isSecond {v : VS} {s : Int} : (mo_isSecond v s) = (if 0 ≤ s ∧ s < v 210 1 then 1 else 0) := by
  unfold mo_isSecond
  repeat' split
  all_goals omega

theorem e_mo_isSecond {X : PX} {d b : Nat} {v : VS} {s : Int} (hX : XI v) (hp_a : R64 s) : EvV X (d + 1) 240 [.inr (.inr (some 203)), .inr (.inl s)] b v (some (.inl (if 0 ≤ s ∧ s < v 210 1 then 1 else 0))) b v := by
  rw [← p_mo_isSecond]
  exact q_mo_isSecond hX hp_a

def mo_isHour (v : VS) (h : Int) : Int :=
  (if (1 : Int) ≤ h ∧ h ≤ (99 : Int) then 1 else 0)
theorem w_mo_isHour {X : PX} {d b : Nat} {v : VS} {h : Int} (hX : XI v) (hp_a : R64 h) {Q : Option PV → Nat → VS → Prop} (hQ : Q (some (.inl (mo_isHour v h))) b v) : WV X (d + 1) 264 0 [some (.inr (.inl h)), none] [] b v Q := by
  rw [mo_isHour] at hQ
  refine r_ex 3 (pc' := 5) (lo' := [some (.inr (.inl h)), none]) (st' := [.inr (.inl 99), .inr (.inl 1), .inr (.inl h)]) rfl ?_
  have hp_1 : R64 h := (by first | assumption | omega | (unfold R32 at *; omega) | (unfold R64 at *; omega) | (simp only [R32, R64] at *; omega))
  have hp_2 : R64 (1 : Int) := (by first | assumption | omega | (unfold R32 at *; omega) | (unfold R64 at *; omega) | (simp only [R32, R64] at *; omega))
  have hp_3 : R64 (99 : Int) := (by first | assumption | omega | (unfold R32 at *; omega) | (unfold R64 at *; omega) | (simp only [R32, R64] at *; omega))
  refine r_callb (P := (1 : Int) ≤ h ∧ h ≤ (99 : Int)) (m := 202) (args := [.inr (.inl h), .inr (.inl 1), .inr (.inl 99)]) (n' := 264) (pc' := 8) (lo' := [some (.inr (.inl h)), none]) (st' := []) (I := .invokestatic 202) (pc0 := 5) (len := 3) rfl rfl rfl (e_mo_in hX hp_1 hp_2 hp_3) (fun h_5 => ?_) (fun h_5 => ?_)
  · show WV _ _ _ 8 _ _ _ _ _
    rw [if_pos h_5] at hQ
    refine r_ret (rr := some (.inl 1)) (I := .ireturn) (pc0 := 8) (len := 1) rfl rfl ?_
    exact hQ 
  · show WV _ _ _ 8 _ _ _ _ _
    rw [if_neg h_5] at hQ
    refine r_ret (rr := some (.inl 0)) (I := .ireturn) (pc0 := 8) (len := 1) rfl rfl ?_
    exact hQ 

theorem q_mo_isHour {X : PX} {d b : Nat} {v : VS} {h : Int} (hX : XI v) (hp_a : R64 h) : EvV X (d + 1) 264 [.inr (.inl h)] b v (some (.inl (mo_isHour v h))) b v := EvV.of (w_mo_isHour hX hp_a (⟨rfl, rfl, rfl⟩))

theorem p_mo_isHour {v : VS} {h : Int} : (mo_isHour v h) = (if 1 ≤ h ∧ h ≤ 99 then 1 else 0) := by
  unfold mo_isHour
  repeat' split
  all_goals omega

theorem e_mo_isHour {X : PX} {d b : Nat} {v : VS} {h : Int} (hX : XI v) (hp_a : R64 h) : EvV X (d + 1) 264 [.inr (.inl h)] b v (some (.inl (if 1 ≤ h ∧ h ≤ 99 then 1 else 0))) b v := by
  rw [← p_mo_isHour]
  exact q_mo_isHour hX hp_a

def mo_isStart (v : VS) (c : Int) : Int :=
  (if (0 : Int) ≤ c ∧ c ≤ ((v 210 4) - 1) then 1 else 0)
theorem w_mo_isStart {X : PX} {d b : Nat} {v : VS} {c : Int} (hX : XI v) (hp_a : R32 c) {Q : Option PV → Nat → VS → Prop} (hQ : Q (some (.inl (mo_isStart v c))) b v) : WV X (d + 1) 310 0 [some (.inr (.inr (some 203))), some (.inl c)] [] b v Q := by
  rw [mo_isStart] at hQ
  refine r_ex 1 (pc' := 1) (lo' := [some (.inr (.inr (some 203))), some (.inl c)]) (st' := [.inl c]) rfl ?_
  refine n_i2l (pc' := 2) (pc0 := 1) (len := 1) rfl (by first | assumption | omega | (unfold R32 at *; omega) | (unfold R64 at *; omega) | (simp only [R32, R64] at *; omega)) rfl ?_
  refine r_ex 4 (pc' := 8) (lo' := [some (.inr (.inr (some 203))), some (.inl c)]) (st' := [.inl 4, .inr (.inr (some 210)), .inr (.inl 0), .inr (.inl c)]) rfl ?_
  refine r_iald2 (j := 0) (x := (v 210 4)) (pc' := 9) (pc0 := 8) (len := 1) rfl (s_210 _) (by first | assumption | omega | (unfold R32 at *; omega) | (unfold R64 at *; omega) | (simp only [R32, R64] at *; omega)) (by decide) rfl rfl ?_
  have hb_1 : 0 ≤ (v 210 4) ∧ (v 210 4) ≤ 4 := hX 210 4
  refine r_ex 2 (pc' := 11) (lo' := [some (.inr (.inr (some 203))), some (.inl c)]) (st' := [.inl ((v 210 4) - 1), .inr (.inl 0), .inr (.inl c)]) rfl ?_
  refine n_i2l (pc' := 12) (pc0 := 11) (len := 1) rfl (by first | assumption | omega | (unfold R32 at *; omega) | (unfold R64 at *; omega) | (simp only [R32, R64] at *; omega)) rfl ?_
  have hp_2 : R64 c := (by first | assumption | omega | (unfold R32 at *; omega) | (unfold R64 at *; omega) | (simp only [R32, R64] at *; omega))
  have hp_3 : R64 (0 : Int) := (by first | assumption | omega | (unfold R32 at *; omega) | (unfold R64 at *; omega) | (simp only [R32, R64] at *; omega))
  have hp_4 : R64 ((v 210 4) - 1) := (by first | assumption | omega | (unfold R32 at *; omega) | (unfold R64 at *; omega) | (simp only [R32, R64] at *; omega))
  refine r_callb (P := (0 : Int) ≤ c ∧ c ≤ ((v 210 4) - 1)) (m := 202) (args := [.inr (.inl c), .inr (.inl 0), .inr (.inl ((v 210 4) - 1))]) (n' := 310) (pc' := 15) (lo' := [some (.inr (.inr (some 203))), some (.inl c)]) (st' := []) (I := .invokestatic 202) (pc0 := 12) (len := 3) rfl rfl rfl (e_mo_in hX hp_2 hp_3 hp_4) (fun h_12 => ?_) (fun h_12 => ?_)
  · show WV _ _ _ 15 _ _ _ _ _
    rw [if_pos h_12] at hQ
    refine r_ret (rr := some (.inl 1)) (I := .ireturn) (pc0 := 15) (len := 1) rfl rfl ?_
    exact hQ 
  · show WV _ _ _ 15 _ _ _ _ _
    rw [if_neg h_12] at hQ
    refine r_ret (rr := some (.inl 0)) (I := .ireturn) (pc0 := 15) (len := 1) rfl rfl ?_
    exact hQ 

theorem q_mo_isStart {X : PX} {d b : Nat} {v : VS} {c : Int} (hX : XI v) (hp_a : R32 c) : EvV X (d + 1) 310 [.inr (.inr (some 203)), .inl c] b v (some (.inl (mo_isStart v c))) b v := EvV.of (w_mo_isStart hX hp_a (⟨rfl, rfl, rfl⟩))

theorem p_mo_isStart {v : VS} {c : Int} : (mo_isStart v c) = (if 0 ≤ c ∧ c < v 210 4 then 1 else 0) := by
  unfold mo_isStart
  repeat' split
  all_goals omega

theorem e_mo_isStart {X : PX} {d b : Nat} {v : VS} {c : Int} (hX : XI v) (hp_a : R32 c) : EvV X (d + 1) 310 [.inr (.inr (some 203)), .inl c] b v (some (.inl (if 0 ≤ c ∧ c < v 210 4 then 1 else 0))) b v := by
  rw [← p_mo_isStart]
  exact q_mo_isStart hX hp_a

def mo_isDrawn (v : VS) (c : Int) (n : Int) : Int :=
  (if 0 < v 209 0 then (if (0 : Int) ≤ c ∧ c ≤ (2000000000 : Int) then (if (0 : Int) ≤ n ∧ n ≤ (20 : Int) then 1 else 0) else 0) else 0)
theorem w_mo_isDrawn {X : PX} {d b : Nat} {v : VS} {c : Int} {n : Int} (hX : XI v) (hp_a : R32 c) (hp_b : R32 n) {Q : Option PV → Nat → VS → Prop} (hQ : Q (some (.inl (mo_isDrawn v c n))) b v) : WV X (d + 1) 322 0 [some (.inr (.inr (some 203))), some (.inl c), some (.inl n)] [] b v Q := by
  rw [mo_isDrawn] at hQ
  refine r_ex 1 (pc' := 1) (lo' := [some (.inr (.inr (some 203))), some (.inl c), some (.inl n)]) (st' := [.inr (.inr (some 203))]) rfl ?_
  have hb_1 : 0 ≤ v 209 0 ∧ v 209 0 ≤ 2001 := hX 209 0
  refine r_callb (P := 0 < v 209 0) (m := 245) (args := [.inr (.inr (some 203))]) (n' := 322) (pc' := 4) (lo' := [some (.inr (.inr (some 203))), some (.inl c), some (.inl n)]) (st' := []) (I := .invokevirtual 245) (pc0 := 1) (len := 3) rfl rfl rfl (e_mo_isBay hX) (fun h_1 => ?_) (fun h_1 => ?_)
  · show WV _ _ _ 4 _ _ _ _ _
    rw [if_pos h_1] at hQ
    refine r_ex 2 (pc' := 8) (lo' := [some (.inr (.inr (some 203))), some (.inl c), some (.inl n)]) (st' := [.inl c]) rfl ?_
    refine n_i2l (pc' := 9) (pc0 := 8) (len := 1) rfl (by first | assumption | omega | (unfold R32 at *; omega) | (unfold R64 at *; omega) | (simp only [R32, R64] at *; omega)) rfl ?_
    refine r_ex 2 (pc' := 13) (lo' := [some (.inr (.inr (some 203))), some (.inl c), some (.inl n)]) (st' := [.inr (.inl 2000000000), .inr (.inl 0), .inr (.inl c)]) rfl ?_
    have hp_2 : R64 c := (by first | assumption | omega | (unfold R32 at *; omega) | (unfold R64 at *; omega) | (simp only [R32, R64] at *; omega))
    have hp_3 : R64 (0 : Int) := (by first | assumption | omega | (unfold R32 at *; omega) | (unfold R64 at *; omega) | (simp only [R32, R64] at *; omega))
    have hp_4 : R64 (2000000000 : Int) := (by first | assumption | omega | (unfold R32 at *; omega) | (unfold R64 at *; omega) | (simp only [R32, R64] at *; omega))
    refine r_callb (P := (0 : Int) ≤ c ∧ c ≤ (2000000000 : Int)) (m := 202) (args := [.inr (.inl c), .inr (.inl 0), .inr (.inl 2000000000)]) (n' := 322) (pc' := 16) (lo' := [some (.inr (.inr (some 203))), some (.inl c), some (.inl n)]) (st' := []) (I := .invokestatic 202) (pc0 := 13) (len := 3) rfl rfl rfl (e_mo_in hX hp_2 hp_3 hp_4) (fun h_13 => ?_) (fun h_13 => ?_)
    · show WV _ _ _ 16 _ _ _ _ _
      rw [if_pos h_13] at hQ
      refine r_ex 2 (pc' := 20) (lo' := [some (.inr (.inr (some 203))), some (.inl c), some (.inl n)]) (st' := [.inl n]) rfl ?_
      refine n_i2l (pc' := 21) (pc0 := 20) (len := 1) rfl (by first | assumption | omega | (unfold R32 at *; omega) | (unfold R64 at *; omega) | (simp only [R32, R64] at *; omega)) rfl ?_
      refine r_ex 2 (pc' := 25) (lo' := [some (.inr (.inr (some 203))), some (.inl c), some (.inl n)]) (st' := [.inr (.inl 20), .inr (.inl 0), .inr (.inl n)]) rfl ?_
      have hp_5 : R64 n := (by first | assumption | omega | (unfold R32 at *; omega) | (unfold R64 at *; omega) | (simp only [R32, R64] at *; omega))
      have hp_6 : R64 (0 : Int) := (by first | assumption | omega | (unfold R32 at *; omega) | (unfold R64 at *; omega) | (simp only [R32, R64] at *; omega))
      have hp_7 : R64 (20 : Int) := (by first | assumption | omega | (unfold R32 at *; omega) | (unfold R64 at *; omega) | (simp only [R32, R64] at *; omega))
      refine r_callb (P := (0 : Int) ≤ n ∧ n ≤ (20 : Int)) (m := 202) (args := [.inr (.inl n), .inr (.inl 0), .inr (.inl 20)]) (n' := 322) (pc' := 28) (lo' := [some (.inr (.inr (some 203))), some (.inl c), some (.inl n)]) (st' := []) (I := .invokestatic 202) (pc0 := 25) (len := 3) rfl rfl rfl (e_mo_in hX hp_5 hp_6 hp_7) (fun h_25 => ?_) (fun h_25 => ?_)
      · show WV _ _ _ 28 _ _ _ _ _
        rw [if_pos h_25] at hQ
        refine r_ex 3 (pc' := 36) (lo' := [some (.inr (.inr (some 203))), some (.inl c), some (.inl n)]) (st' := [.inl 1]) rfl ?_
        refine r_ret (rr := some (.inl 1)) (I := .ireturn) (pc0 := 36) (len := 1) rfl rfl ?_
        exact hQ 
      · show WV _ _ _ 28 _ _ _ _ _
        rw [if_neg h_25] at hQ
        refine r_ex 2 (pc' := 36) (lo' := [some (.inr (.inr (some 203))), some (.inl c), some (.inl n)]) (st' := [.inl 0]) rfl ?_
        refine r_ret (rr := some (.inl 0)) (I := .ireturn) (pc0 := 36) (len := 1) rfl rfl ?_
        exact hQ 
    · show WV _ _ _ 16 _ _ _ _ _
      rw [if_neg h_13] at hQ
      refine r_ex 2 (pc' := 36) (lo' := [some (.inr (.inr (some 203))), some (.inl c), some (.inl n)]) (st' := [.inl 0]) rfl ?_
      refine r_ret (rr := some (.inl 0)) (I := .ireturn) (pc0 := 36) (len := 1) rfl rfl ?_
      exact hQ 
  · show WV _ _ _ 4 _ _ _ _ _
    rw [if_neg h_1] at hQ
    refine r_ex 2 (pc' := 36) (lo' := [some (.inr (.inr (some 203))), some (.inl c), some (.inl n)]) (st' := [.inl 0]) rfl ?_
    refine r_ret (rr := some (.inl 0)) (I := .ireturn) (pc0 := 36) (len := 1) rfl rfl ?_
    exact hQ 

theorem q_mo_isDrawn {X : PX} {d b : Nat} {v : VS} {c : Int} {n : Int} (hX : XI v) (hp_a : R32 c) (hp_b : R32 n) : EvV X (d + 1) 322 [.inr (.inr (some 203)), .inl c, .inl n] b v (some (.inl (mo_isDrawn v c n))) b v := EvV.of (w_mo_isDrawn hX hp_a hp_b (⟨rfl, rfl, rfl⟩))

theorem p_mo_isDrawn {v : VS} {c : Int} {n : Int} : (mo_isDrawn v c n) = (if 0 < v 209 0 ∧ (0 ≤ c ∧ c ≤ 2000000000) ∧ (0 ≤ n ∧ n ≤ 20) then 1 else 0) := by
  unfold mo_isDrawn
  repeat' split
  all_goals omega

theorem e_mo_isDrawn {X : PX} {d b : Nat} {v : VS} {c : Int} {n : Int} (hX : XI v) (hp_a : R32 c) (hp_b : R32 n) : EvV X (d + 1) 322 [.inr (.inr (some 203)), .inl c, .inl n] b v (some (.inl (if 0 < v 209 0 ∧ (0 ≤ c ∧ c ≤ 2000000000) ∧ (0 ≤ n ∧ n ≤ 20) then 1 else 0))) b v := by
  rw [← p_mo_isDrawn]
  exact q_mo_isDrawn hX hp_a hp_b

def mo_at (v : VS) (i : Int) (w : Int) : Int :=
  (v 220 ((((5 * i) + w)).toNat))
theorem w_mo_at {X : PX} {d b : Nat} {v : VS} {i : Int} {w : Int} (hX : XI v) (hp_a : 0 ≤ i ∧ i < 300) (hp_b : 0 ≤ w ∧ w < 5) {Q : Option PV → Nat → VS → Prop} (hQ : (-1 ≤ (mo_at v i w) ∧ (mo_at v i w) ≤ 3699) → Q (some (.inl (mo_at v i w))) b v) : WV X d 254 0 [some (.inr (.inr (some 203))), some (.inl i), some (.inl w)] [] b v Q := by
  rw [mo_at] at hQ
  refine r_ex 7 (pc' := 9) (lo' := [some (.inr (.inr (some 203))), some (.inl i), some (.inl w)]) (st' := [.inl ((5 * i) + w), .inr (.inr (some 220))]) rfl ?_
  refine r_iald2 (j := 0) (x := (v 220 ((((5 * i) + w)).toNat))) (pc' := 10) (pc0 := 9) (len := 1) rfl (s_220 _) (by first | assumption | omega | (unfold R32 at *; omega) | (unfold R64 at *; omega) | (simp only [R32, R64] at *; omega)) (by decide) rfl rfl ?_
  have hb_1 : -1 ≤ (v 220 ((((5 * i) + w)).toNat)) ∧ (v 220 ((((5 * i) + w)).toNat)) ≤ 3699 := hX 220 ((((5 * i) + w)).toNat)
  refine r_ret (rr := some (.inl (v 220 ((((5 * i) + w)).toNat)))) (I := .ireturn) (pc0 := 10) (len := 1) rfl rfl ?_
  exact hQ (by first | assumption | omega | (unfold R32 at *; omega) | (unfold R64 at *; omega) | (simp only [R32, R64] at *; omega))

theorem e_mo_at {X : PX} {d b : Nat} {v : VS} {i : Int} {w : Int} (hX : XI v) (hp_a : 0 ≤ i ∧ i < 300) (hp_b : 0 ≤ w ∧ w < 5) : EvV X d 254 [.inr (.inr (some 203)), .inl i, .inl w] b v (some (.inl (mo_at v i w))) b v := EvV.of (w_mo_at hX hp_a hp_b (fun _ => ⟨rfl, rfl, rfl⟩))

theorem n_mo_at {v : VS} {i : Int} {w : Int} (hX : XI v) (hp_a : 0 ≤ i ∧ i < 300) (hp_b : 0 ≤ w ∧ w < 5) : -1 ≤ (mo_at v i w) ∧ (mo_at v i w) ≤ 3699 := by
  have q : WV (0, fun _ => 0, none) 0 254 0 [some (.inr (.inr (some 203))), some (.inl i), some (.inl w)] [] 1 v (fun _ _ _ => -1 ≤ (mo_at v i w) ∧ (mo_at v i w) ≤ 3699) := w_mo_at (X := (0, fun _ => 0, none)) (d := 0) (b := 1) hX hp_a hp_b (fun q => q)
  obtain ⟨_, _, _, _, _, _, _, q⟩ := q
  exact q

def mo_plainly (v : VS)  : VS :=
  (v2 (v2 (v2 (v2 (v2 (v2 (v2 (v2 v 203 27 0) 203 28 (-1)) 203 30 (v 210 9)) 203 31 (v 210 10)) 203 34 (-1)) 203 35 (-1)) 203 32 0) 203 33 (v 210 4))
theorem w_mo_plainly {X : PX} {d b : Nat} {v : VS}  (hX : XI v)  {Q : Option PV → Nat → VS → Prop} (hQ : XI (mo_plainly v) → Q none b (mo_plainly v)) : WV X d 241 0 [some (.inr (.inr (some 203)))] [] b v Q := by
  rw [mo_plainly] at hQ
  refine r_ex 2 (pc' := 2) (lo' := [some (.inr (.inr (some 203)))]) (st' := [.inl 0, .inr (.inr (some 203))]) rfl ?_
  refine r_puti2 (j := 27) (pc' := 5) (pc0 := 2) (len := 3) rfl (s_203 _) rfl rfl rfl (Or.inl rfl) rfl rfl ?_
  have hX_1 : XI (v2 v 203 27 0) := XI.put hX (show -20 ≤ 0 ∧ 0 ≤ 20 from (by first | assumption | omega | (unfold R32 at *; omega) | (unfold R64 at *; omega) | (simp only [R32, R64] at *; omega)))
  refine r_ex 2 (pc' := 7) (lo' := [some (.inr (.inr (some 203)))]) (st' := [.inl (-1), .inr (.inr (some 203))]) rfl ?_
  refine r_puti2 (j := 28) (pc' := 10) (pc0 := 7) (len := 3) rfl (s_203 _) rfl rfl rfl (Or.inl rfl) rfl rfl ?_
  have hX_2 : XI (v2 (v2 v 203 27 0) 203 28 (-1)) := XI.put hX_1 (show -1 ≤ (-1) ∧ (-1) ≤ 20 from (by first | assumption | omega | (unfold R32 at *; omega) | (unfold R64 at *; omega) | (simp only [R32, R64] at *; omega)))
  refine r_ex 4 (pc' := 17) (lo' := [some (.inr (.inr (some 203)))]) (st' := [.inl 9, .inr (.inr (some 210)), .inr (.inr (some 203))]) rfl ?_
  refine r_iald2 (j := 0) (x := (v 210 9)) (pc' := 18) (pc0 := 17) (len := 1) rfl (s_210 _) (by first | assumption | omega | (unfold R32 at *; omega) | (unfold R64 at *; omega) | (simp only [R32, R64] at *; omega)) (by decide) rfl rfl ?_
  have hb_3 : 0 ≤ (v 210 9) ∧ (v 210 9) ≤ 511 := hX_2 210 9
  refine r_puti2 (j := 30) (pc' := 21) (pc0 := 18) (len := 3) rfl (s_203 _) rfl rfl rfl (Or.inl rfl) rfl rfl ?_
  have hX_4 : XI (v2 (v2 (v2 v 203 27 0) 203 28 (-1)) 203 30 (v 210 9)) := XI.put hX_2 (show 0 ≤ (v 210 9) ∧ (v 210 9) ≤ 511 from (by first | assumption | omega | (unfold R32 at *; omega) | (unfold R64 at *; omega) | (simp only [R32, R64] at *; omega)))
  refine r_ex 4 (pc' := 28) (lo' := [some (.inr (.inr (some 203)))]) (st' := [.inl 10, .inr (.inr (some 210)), .inr (.inr (some 203))]) rfl ?_
  refine r_iald2 (j := 0) (x := (v 210 10)) (pc' := 29) (pc0 := 28) (len := 1) rfl (s_210 _) (by first | assumption | omega | (unfold R32 at *; omega) | (unfold R64 at *; omega) | (simp only [R32, R64] at *; omega)) (by decide) rfl rfl ?_
  have hb_5 : 0 ≤ (v 210 10) ∧ (v 210 10) ≤ 4095 := hX_4 210 10
  refine r_puti2 (j := 31) (pc' := 32) (pc0 := 29) (len := 3) rfl (s_203 _) rfl rfl rfl (Or.inl rfl) rfl rfl ?_
  have hX_6 : XI (v2 (v2 (v2 (v2 v 203 27 0) 203 28 (-1)) 203 30 (v 210 9)) 203 31 (v 210 10)) := XI.put hX_4 (show 0 ≤ (v 210 10) ∧ (v 210 10) ≤ 4095 from (by first | assumption | omega | (unfold R32 at *; omega) | (unfold R64 at *; omega) | (simp only [R32, R64] at *; omega)))
  refine r_ex 2 (pc' := 34) (lo' := [some (.inr (.inr (some 203)))]) (st' := [.inl (-1), .inr (.inr (some 203))]) rfl ?_
  refine r_puti2 (j := 34) (pc' := 37) (pc0 := 34) (len := 3) rfl (s_203 _) rfl rfl rfl (Or.inl rfl) rfl rfl ?_
  have hX_7 : XI (v2 (v2 (v2 (v2 (v2 v 203 27 0) 203 28 (-1)) 203 30 (v 210 9)) 203 31 (v 210 10)) 203 34 (-1)) := XI.put hX_6 (show -1 ≤ (-1) ∧ (-1) ≤ 6 from (by first | assumption | omega | (unfold R32 at *; omega) | (unfold R64 at *; omega) | (simp only [R32, R64] at *; omega)))
  refine r_ex 2 (pc' := 39) (lo' := [some (.inr (.inr (some 203)))]) (st' := [.inl (-1), .inr (.inr (some 203))]) rfl ?_
  refine r_puti2 (j := 35) (pc' := 42) (pc0 := 39) (len := 3) rfl (s_203 _) rfl rfl rfl (Or.inl rfl) rfl rfl ?_
  have hX_8 : XI (v2 (v2 (v2 (v2 (v2 (v2 v 203 27 0) 203 28 (-1)) 203 30 (v 210 9)) 203 31 (v 210 10)) 203 34 (-1)) 203 35 (-1)) := XI.put hX_7 (show -1 ≤ (-1) ∧ (-1) ≤ 299 from (by first | assumption | omega | (unfold R32 at *; omega) | (unfold R64 at *; omega) | (simp only [R32, R64] at *; omega)))
  refine r_ex 2 (pc' := 44) (lo' := [some (.inr (.inr (some 203)))]) (st' := [.inl 0, .inr (.inr (some 203))]) rfl ?_
  refine r_puti2 (j := 32) (pc' := 47) (pc0 := 44) (len := 3) rfl (s_203 _) rfl rfl rfl (Or.inl rfl) rfl rfl ?_
  have hX_9 : XI (v2 (v2 (v2 (v2 (v2 (v2 (v2 v 203 27 0) 203 28 (-1)) 203 30 (v 210 9)) 203 31 (v 210 10)) 203 34 (-1)) 203 35 (-1)) 203 32 0) := XI.put hX_8 (show 0 ≤ 0 ∧ 0 ≤ 4 from (by first | assumption | omega | (unfold R32 at *; omega) | (unfold R64 at *; omega) | (simp only [R32, R64] at *; omega)))
  refine r_ex 4 (pc' := 53) (lo' := [some (.inr (.inr (some 203)))]) (st' := [.inl 4, .inr (.inr (some 210)), .inr (.inr (some 203))]) rfl ?_
  refine r_iald2 (j := 0) (x := (v 210 4)) (pc' := 54) (pc0 := 53) (len := 1) rfl (s_210 _) (by first | assumption | omega | (unfold R32 at *; omega) | (unfold R64 at *; omega) | (simp only [R32, R64] at *; omega)) (by decide) rfl rfl ?_
  have hb_10 : 0 ≤ (v 210 4) ∧ (v 210 4) ≤ 4 := hX_9 210 4
  refine r_puti2 (j := 33) (pc' := 57) (pc0 := 54) (len := 3) rfl (s_203 _) rfl rfl rfl (Or.inl rfl) rfl rfl ?_
  have hX_11 : XI (v2 (v2 (v2 (v2 (v2 (v2 (v2 (v2 v 203 27 0) 203 28 (-1)) 203 30 (v 210 9)) 203 31 (v 210 10)) 203 34 (-1)) 203 35 (-1)) 203 32 0) 203 33 (v 210 4)) := XI.put hX_9 (show 0 ≤ (v 210 4) ∧ (v 210 4) ≤ 5 from (by first | assumption | omega | (unfold R32 at *; omega) | (unfold R64 at *; omega) | (simp only [R32, R64] at *; omega)))
  refine r_ret (rr := none) (I := .return_) (pc0 := 57) (len := 1) rfl rfl ?_
  exact hQ hX_11 

theorem e_mo_plainly {X : PX} {d b : Nat} {v : VS}  (hX : XI v)  : EvV X d 241 [.inr (.inr (some 203))] b v none b (mo_plainly v) := EvV.of (w_mo_plainly hX  (fun _ => ⟨rfl, rfl, rfl⟩))

theorem i_mo_plainly {v : VS}  (hX : XI v)  : XI (mo_plainly v) := by
  have q : WV (0, fun _ => 0, none) 0 241 0 [some (.inr (.inr (some 203)))] [] 1 v (fun _ _ _ => XI (mo_plainly v)) := w_mo_plainly (X := (0, fun _ => 0, none)) (d := 0) (b := 1) hX  (fun q => q)
  obtain ⟨_, _, _, _, _, _, _, q⟩ := q
  exact q

theorem o_mo_plainly {rk : Nat} {v : VS}  (hk : (rk < 203 ∨ 203 < rk)) : (mo_plainly v ) rk = v rk := by
  unfold mo_plainly
  all_goals (show (v2 (v2 (v2 (v2 (v2 (v2 (v2 (v2 v 203 27 0) 203 28 (-1)) 203 30 (v 210 9)) 203 31 (v 210 10)) 203 34 (-1)) 203 35 (-1)) 203 32 0) 203 33 (v 210 4)) rk = _)
  all_goals (rw [v2_row (by omega), v2_row (by omega), v2_row (by omega), v2_row (by omega), v2_row (by omega), v2_row (by omega), v2_row (by omega), v2_row (by omega)])

/-- what the reference holds of the bay that is told, beyond the bounds of its rows -/
def CF (v : VS) : Prop := (∀ j : Nat, j < 240 → (j % 4 = 0 → 0 ≤ v 212 j ∧ v 212 j ≤ 8) ∧ (j % 4 = 1 → 0 ≤ v 212 j ∧ v 212 j ≤ 8) ∧ (j % 4 = 3 → v 212 j ≤ 2)) ∧ (∀ j : Nat, j < 75 → (j % 3 = 0 → v 213 j ≤ 8) ∧ (j % 3 = 2 → v 213 j ≤ 99)) ∧ (∀ j : Nat, j < 60 → (j % 2 = 0 → 0 ≤ v 214 j) ∧ (j % 2 = 1 → v 214 j ≤ 20)) ∧ (∀ j : Nat, j < 135 → (j % 3 = 0 → v 211 j ≤ 2))
theorem CF.of {v v' : VS} (h : CF v) (e : ∀ k, 211 ≤ k → k ≤ 214 → v' k = v k) : CF v' := by
  unfold CF at *
  rw [e 212 (by omega) (by omega), e 213 (by omega) (by omega), e 214 (by omega) (by omega), e 211 (by omega) (by omega)]
  exact h
theorem CF.p212 {v : VS} (h : CF v) {i : Nat} {x : Int} (hx : (i % 4 = 0 → 0 ≤ x ∧ x ≤ 8) ∧ (i % 4 = 1 → 0 ≤ x ∧ x ≤ 8) ∧ (i % 4 = 3 → x ≤ 2)) : CF (v2 v 212 i x) := by
  refine ⟨fun j hj => ?_, h.2.1, h.2.2.1, h.2.2.2⟩
  rw [v2_eq]
  by_cases q : j = i
  · rw [if_pos ⟨rfl, q⟩, q]; exact hx
  · rw [if_neg (by omega)]; exact h.1 j hj
theorem CF.p213 {v : VS} (h : CF v) {i : Nat} {x : Int} (hx : (i % 3 = 0 → x ≤ 8) ∧ (i % 3 = 2 → x ≤ 99)) : CF (v2 v 213 i x) := by
  refine ⟨h.1, fun j hj => ?_, h.2.2.1, h.2.2.2⟩
  rw [v2_eq]
  by_cases q : j = i
  · rw [if_pos ⟨rfl, q⟩, q]; exact hx
  · rw [if_neg (by omega)]; exact h.2.1 j hj
theorem CF.p214 {v : VS} (h : CF v) {i : Nat} {x : Int} (hx : (i % 2 = 0 → 0 ≤ x) ∧ (i % 2 = 1 → x ≤ 20)) : CF (v2 v 214 i x) := by
  refine ⟨h.1, h.2.1, fun j hj => ?_, h.2.2.2⟩
  rw [v2_eq]
  by_cases q : j = i
  · rw [if_pos ⟨rfl, q⟩, q]; exact hx
  · rw [if_neg (by omega)]; exact h.2.2.1 j hj
theorem CF.p211 {v : VS} (h : CF v) {i : Nat} {x : Int} (hx : i % 3 = 0 → x ≤ 2) : CF (v2 v 211 i x) := by
  refine ⟨h.1, h.2.1, h.2.2.1, fun j hj => ?_⟩
  rw [v2_eq]
  by_cases q : j = i
  · rw [if_pos ⟨rfl, q⟩, q]; exact hx
  · rw [if_neg (by omega)]; exact h.2.2.2 j hj
theorem CF.ear {v : VS} (h : CF v) {e : Int} (h0 : 0 ≤ e ∧ e < 12) : 0 ≤ v 212 (4 * e).toNat ∧ v 212 (4 * e).toNat ≤ 8 := (h.1 (4 * e).toNat (by omega)).1 (by omega)
theorem CF.st {v : VS} (h : CF v) {k : Int} (h0 : 0 ≤ k ∧ k < 5) : v 213 (3 * k).toNat ≤ 8 := (h.2.1 (3 * k).toNat (by omega)).1 (by omega)
theorem CF.sth {v : VS} (h : CF v) {k : Int} (h0 : 0 ≤ k ∧ k < 5) : v 213 (3 * k + 2).toNat ≤ 99 := (h.2.1 (3 * k + 2).toNat (by omega)).2 (by omega)
theorem CF.wnd {v : VS} (h : CF v) {k : Int} (h0 : 0 ≤ k ∧ k < 6) : v 214 (2 * k + 1).toNat ≤ 20 := (h.2.2.1 (2 * k + 1).toNat (by omega)).2 (by omega)
def LB (v : VS) (t : Int) : Prop := ∀ j : Nat, (j : Int) < t → -40 ≤ v 219 j ∧ v 219 j ≤ 40
def LC (v : VS) (t : Int) : Prop := ∀ j : Nat, t ≤ (j : Int) → (j : Int) < v 210 1 → -40 ≤ v 219 j ∧ v 219 j ≤ 40
theorem LB.step {v : VS} {t x : Int} (h : LB v t) (h0 : 0 ≤ t) (hx : -40 ≤ x ∧ x ≤ 40) : LB (v2 v 219 t.toNat x) (t + 1) := by
  intro j hj
  rw [v2_eq]
  by_cases e : j = t.toNat
  · rw [if_pos ⟨rfl, e⟩]; exact hx
  · rw [if_neg (by omega)]; exact h j (by omega)
theorem LC.step {v : VS} {t x : Int} (h : LC v t) (h0 : 0 ≤ t) : LC (v2 v 219 t.toNat x) (t + 1) := by
  intro j hj hl
  rw [v2_eq, if_neg (by omega)]
  exact h j (by omega) hl
theorem LC.now {v : VS} {t : Int} (h : LC v t) (h0 : 0 ≤ t) (hl : t < v 210 1) : -40 ≤ v 219 t.toNat ∧ v 219 t.toNat ≤ 40 := h t.toNat (by omega) (by omega)
theorem LB.nil {v : VS} : LB v 0 := fun j hj => absurd hj (by omega)

def mo_laysWinds_16 : Nat → VS → Int → Int → Int → Int
  | 0, v, t, g, k => 0
  | f + 1, v, t, g, k => (if k < (v 210 5) then (if t < (v 214 (((2 * k)).toNat)) then (mo_laysWinds_16 f v t g (k + 1)) else (if g = (-1) then (mo_laysWinds_16 f v t k (k + 1)) else (if (v 214 (((2 * k)).toNat)) < (v 214 (((2 * g)).toNat)) then (mo_laysWinds_16 f v t g (k + 1)) else (mo_laysWinds_16 f v t k (k + 1))))) else g)
def mo_laysWinds_2 : Nat → VS → Int → VS
  | 0, v, t => v
  | f + 1, v, t => (if t < (v 210 1) then (if (mo_laysWinds_16 7 v t (-1) 0) = (-1) then (mo_laysWinds_2 f (v2 v 219 ((t).toNat) ((v 203 27) + 0)) (t + 1)) else (if (v 203 34) = 3 then (mo_laysWinds_2 f (v2 v 219 ((t).toNat) ((v 203 27) + 0)) (t + 1)) else (mo_laysWinds_2 f (v2 v 219 ((t).toNat) ((v 203 27) + (v 214 ((((2 * (mo_laysWinds_16 7 v t (-1) 0)) + 1)).toNat)))) (t + 1)))) else v)
def mo_laysWinds_127 : Nat → VS → Int → Int → VS
  | 0, v, n, t => v
  | f + 1, v, n, t => (if t < (v 210 1) then (if (t % 30) = 0 then (mo_laysWinds_127 f (v2 (v2 v 203 29 (((1103515245 * (v 203 29)) + 12345) % 2147483648)) 219 ((t).toNat) ((v 219 ((t).toNat)) + ((((((1103515245 * (v 203 29)) + 12345) % 2147483648) / 65536) % ((2 * (v 203 28)) + 1)) - (v 203 28)))) ((((((1103515245 * (v 203 29)) + 12345) % 2147483648) / 65536) % ((2 * (v 203 28)) + 1)) - (v 203 28)) (t + 1)) else (mo_laysWinds_127 f (v2 v 219 ((t).toNat) ((v 219 ((t).toNat)) + n)) n (t + 1))) else v)
def mo_laysWinds (v : VS)  : VS :=
  (if ((mo_laysWinds_2 301 v 0) 203 28) = (-1) then (mo_laysWinds_2 301 v 0) else (mo_laysWinds_127 301 (mo_laysWinds_2 301 v 0) 0 0))
theorem l_mo_laysWinds_16 {X : PX} {d b : Nat} {Q : Option PV → Nat → VS → Prop}  : ∀ (f : Nat) (v : VS) (t : Int) (g : Int) (k : Int), XI v → (0 ≤ t ∧ t ≤ 299) → (-1 ≤ g ∧ g ≤ 5) → (0 ≤ k ∧ k ≤ 6) → (6 < k + f) → (∀ qx3 : Option PV, (-1 ≤ (mo_laysWinds_16 f v t g k) ∧ (mo_laysWinds_16 f v t g k) ≤ 5) → WV X d 242 70 [some (.inr (.inr (some 203))), some (.inl t), some (.inl (mo_laysWinds_16 f v t g k)), qx3] [] b v Q) → WV X d 242 16 [some (.inr (.inr (some 203))), some (.inl t), some (.inl g), some (.inl k)] [] b v Q := by
  intro f
  induction f with
  | zero =>
    intro v t g k hX hi_0 hi_1 hi_2 hf hK
    exfalso
    omega
  | succ f ih =>
    intro v t g k hX hi_0 hi_1 hi_2 hf hK
    rw [mo_laysWinds_16] at hK
    refine r_ex 4 (pc' := 22) (lo' := [some (.inr (.inr (some 203))), some (.inl t), some (.inl g), some (.inl k)]) (st' := [.inl 5, .inr (.inr (some 210)), .inl k]) rfl ?_
    refine r_iald2 (j := 0) (x := (v 210 5)) (pc' := 23) (pc0 := 22) (len := 1) rfl (s_210 _) (by first | assumption | omega | (unfold R32 at *; omega) | (unfold R64 at *; omega) | (simp only [R32, R64] at *; omega)) (by decide) rfl rfl ?_
    have hb_2 : 0 ≤ (v 210 5) ∧ (v 210 5) ≤ 6 := hX 210 5
    refine n_ic_ge (pc0 := 23) (len := 3) (t := 70) rfl (by first | assumption | omega | (unfold R32 at *; omega) | (unfold R64 at *; omega) | (simp only [R32, R64] at *; omega)) (by first | assumption | omega | (unfold R32 at *; omega) | (unfold R64 at *; omega) | (simp only [R32, R64] at *; omega)) (fun h_23 => ?_) (fun h_23 => ?_)
    · show WV _ _ _ 70 _ _ _ _ _
      rw [if_neg h_23] at hK
      exact hK _  (by first | assumption | omega | (unfold R32 at *; omega) | (unfold R64 at *; omega) | (simp only [R32, R64] at *; omega))
    · show WV _ _ _ 26 _ _ _ _ _
      rw [if_pos h_23] at hK
      refine r_ex 5 (pc' := 33) (lo' := [some (.inr (.inr (some 203))), some (.inl t), some (.inl g), some (.inl k)]) (st' := [.inl (2 * k), .inr (.inr (some 214))]) rfl ?_
      refine r_iald2 (j := 0) (x := (v 214 (((2 * k)).toNat))) (pc' := 34) (pc0 := 33) (len := 1) rfl (s_214 _) (by first | assumption | omega | (unfold R32 at *; omega) | (unfold R64 at *; omega) | (simp only [R32, R64] at *; omega)) (by decide) rfl rfl ?_
      have hb_3 : -20 ≤ (v 214 (((2 * k)).toNat)) ∧ (v 214 (((2 * k)).toNat)) ≤ 299 := hX 214 (((2 * k)).toNat)
      refine r_ex 1 (pc' := 35) (lo' := [some (.inr (.inr (some 203))), some (.inl t), some (.inl g), some (.inl k)]) (st' := [.inl t, .inl (v 214 (((2 * k)).toNat))]) rfl ?_
      refine n_ic_gt (pc0 := 35) (len := 3) (t := 64) rfl (by first | assumption | omega | (unfold R32 at *; omega) | (unfold R64 at *; omega) | (simp only [R32, R64] at *; omega)) (by first | assumption | omega | (unfold R32 at *; omega) | (unfold R64 at *; omega) | (simp only [R32, R64] at *; omega)) (fun h_35 => ?_) (fun h_35 => ?_)
      · show WV _ _ _ 64 _ _ _ _ _
        rw [if_pos h_35] at hK
        refine r_ex 2 (pc' := 16) (lo' := [some (.inr (.inr (some 203))), some (.inl t), some (.inl g), some (.inl (k + 1))]) (st' := []) rfl ?_
        refine ih v t g (k + 1)  hX (by first | assumption | omega | (unfold R32 at *; omega) | (unfold R64 at *; omega) | (simp only [R32, R64] at *; omega)) (by first | assumption | omega | (unfold R32 at *; omega) | (unfold R64 at *; omega) | (simp only [R32, R64] at *; omega)) (by first | assumption | omega | (unfold R32 at *; omega) | (unfold R64 at *; omega) | (simp only [R32, R64] at *; omega)) (by first | assumption | omega | (unfold R32 at *; omega) | (unfold R64 at *; omega) | (simp only [R32, R64] at *; omega)) hK
      · show WV _ _ _ 38 _ _ _ _ _
        rw [if_neg h_35] at hK
        refine r_ex 2 (pc' := 40) (lo' := [some (.inr (.inr (some 203))), some (.inl t), some (.inl g), some (.inl k)]) (st' := [.inl (-1), .inl g]) rfl ?_
        refine n_ic_eq (pc0 := 40) (len := 3) (t := 62) rfl (by first | assumption | omega | (unfold R32 at *; omega) | (unfold R64 at *; omega) | (simp only [R32, R64] at *; omega)) (by first | assumption | omega | (unfold R32 at *; omega) | (unfold R64 at *; omega) | (simp only [R32, R64] at *; omega)) (fun h_40 => ?_) (fun h_40 => ?_)
        · show WV _ _ _ 62 _ _ _ _ _
          rw [if_pos h_40] at hK
          refine r_ex 4 (pc' := 16) (lo' := [some (.inr (.inr (some 203))), some (.inl t), some (.inl k), some (.inl (k + 1))]) (st' := []) rfl ?_
          refine ih v t k (k + 1)  hX (by first | assumption | omega | (unfold R32 at *; omega) | (unfold R64 at *; omega) | (simp only [R32, R64] at *; omega)) (by first | assumption | omega | (unfold R32 at *; omega) | (unfold R64 at *; omega) | (simp only [R32, R64] at *; omega)) (by first | assumption | omega | (unfold R32 at *; omega) | (unfold R64 at *; omega) | (simp only [R32, R64] at *; omega)) (by first | assumption | omega | (unfold R32 at *; omega) | (unfold R64 at *; omega) | (simp only [R32, R64] at *; omega)) hK
        · show WV _ _ _ 43 _ _ _ _ _
          rw [if_neg h_40] at hK
          refine r_ex 5 (pc' := 50) (lo' := [some (.inr (.inr (some 203))), some (.inl t), some (.inl g), some (.inl k)]) (st' := [.inl (2 * k), .inr (.inr (some 214))]) rfl ?_
          refine r_iald2 (j := 0) (x := (v 214 (((2 * k)).toNat))) (pc' := 51) (pc0 := 50) (len := 1) rfl (s_214 _) (by first | assumption | omega | (unfold R32 at *; omega) | (unfold R64 at *; omega) | (simp only [R32, R64] at *; omega)) (by decide) rfl rfl ?_
          refine r_ex 5 (pc' := 58) (lo' := [some (.inr (.inr (some 203))), some (.inl t), some (.inl g), some (.inl k)]) (st' := [.inl (2 * g), .inr (.inr (some 214)), .inl (v 214 (((2 * k)).toNat))]) rfl ?_
          refine r_iald2 (j := 0) (x := (v 214 (((2 * g)).toNat))) (pc' := 59) (pc0 := 58) (len := 1) rfl (s_214 _) (by first | assumption | omega | (unfold R32 at *; omega) | (unfold R64 at *; omega) | (simp only [R32, R64] at *; omega)) (by decide) rfl rfl ?_
          have hb_4 : -20 ≤ (v 214 (((2 * g)).toNat)) ∧ (v 214 (((2 * g)).toNat)) ≤ 299 := hX 214 (((2 * g)).toNat)
          refine n_ic_lt (pc0 := 59) (len := 3) (t := 64) rfl (by first | assumption | omega | (unfold R32 at *; omega) | (unfold R64 at *; omega) | (simp only [R32, R64] at *; omega)) (by first | assumption | omega | (unfold R32 at *; omega) | (unfold R64 at *; omega) | (simp only [R32, R64] at *; omega)) (fun h_59 => ?_) (fun h_59 => ?_)
          · show WV _ _ _ 64 _ _ _ _ _
            rw [if_pos h_59] at hK
            refine r_ex 2 (pc' := 16) (lo' := [some (.inr (.inr (some 203))), some (.inl t), some (.inl g), some (.inl (k + 1))]) (st' := []) rfl ?_
            refine ih v t g (k + 1)  hX (by first | assumption | omega | (unfold R32 at *; omega) | (unfold R64 at *; omega) | (simp only [R32, R64] at *; omega)) (by first | assumption | omega | (unfold R32 at *; omega) | (unfold R64 at *; omega) | (simp only [R32, R64] at *; omega)) (by first | assumption | omega | (unfold R32 at *; omega) | (unfold R64 at *; omega) | (simp only [R32, R64] at *; omega)) (by first | assumption | omega | (unfold R32 at *; omega) | (unfold R64 at *; omega) | (simp only [R32, R64] at *; omega)) hK
          · show WV _ _ _ 62 _ _ _ _ _
            rw [if_neg h_59] at hK
            refine r_ex 4 (pc' := 16) (lo' := [some (.inr (.inr (some 203))), some (.inl t), some (.inl k), some (.inl (k + 1))]) (st' := []) rfl ?_
            refine ih v t k (k + 1)  hX (by first | assumption | omega | (unfold R32 at *; omega) | (unfold R64 at *; omega) | (simp only [R32, R64] at *; omega)) (by first | assumption | omega | (unfold R32 at *; omega) | (unfold R64 at *; omega) | (simp only [R32, R64] at *; omega)) (by first | assumption | omega | (unfold R32 at *; omega) | (unfold R64 at *; omega) | (simp only [R32, R64] at *; omega)) (by first | assumption | omega | (unfold R32 at *; omega) | (unfold R64 at *; omega) | (simp only [R32, R64] at *; omega)) hK

theorem l_mo_laysWinds_2 {X : PX} {d b : Nat} {Q : Option PV → Nat → VS → Prop}  : ∀ (f : Nat) (v : VS) (t : Int) (o2 : Option PV) (o3 : Option PV), XI v → (0 ≤ t ∧ t ≤ 300) → (LB v t) → (CF v) → (300 < t + f) → (∀ qx1 : Option PV, ∀ qx2 : Option PV, ∀ qx3 : Option PV, XI (mo_laysWinds_2 f v t) → (LC (mo_laysWinds_2 f v t) 0) → WV X d 242 114 [some (.inr (.inr (some 203))), qx1, qx2, qx3] [] b (mo_laysWinds_2 f v t) Q) → WV X d 242 2 [some (.inr (.inr (some 203))), some (.inl t), o2, o3] [] b v Q := by
  intro f
  induction f with
  | zero =>
    intro v t o2 o3 hX hi_0 hi_1 hi_2 hf hK
    exfalso
    omega
  | succ f ih =>
    intro v t o2 o3 hX hi_0 hi_1 hi_2 hf hK
    rw [mo_laysWinds_2] at hK
    refine r_ex 4 (pc' := 8) (lo' := [some (.inr (.inr (some 203))), some (.inl t), o2, o3]) (st' := [.inl 1, .inr (.inr (some 210)), .inl t]) rfl ?_
    refine r_iald2 (j := 0) (x := (v 210 1)) (pc' := 9) (pc0 := 8) (len := 1) rfl (s_210 _) (by first | assumption | omega | (unfold R32 at *; omega) | (unfold R64 at *; omega) | (simp only [R32, R64] at *; omega)) (by decide) rfl rfl ?_
    have hb_1 : 0 ≤ (v 210 1) ∧ (v 210 1) ≤ 300 := hX 210 1
    refine n_ic_ge (pc0 := 9) (len := 3) (t := 114) rfl (by first | assumption | omega | (unfold R32 at *; omega) | (unfold R64 at *; omega) | (simp only [R32, R64] at *; omega)) (by first | assumption | omega | (unfold R32 at *; omega) | (unfold R64 at *; omega) | (simp only [R32, R64] at *; omega)) (fun h_9 => ?_) (fun h_9 => ?_)
    · show WV _ _ _ 114 _ _ _ _ _
      rw [if_neg h_9] at hK
      exact hK _ _ _ hX (fun j _ hj => hi_1 j (by omega))
    · show WV _ _ _ 12 _ _ _ _ _
      rw [if_pos h_9] at hK
      refine r_ex 4 (pc' := 16) (lo' := [some (.inr (.inr (some 203))), some (.inl t), some (.inl (-1)), some (.inl 0)]) (st' := []) rfl ?_
      refine l_mo_laysWinds_16 7 v t (-1) 0  hX (by first | assumption | omega | (unfold R32 at *; omega) | (unfold R64 at *; omega) | (simp only [R32, R64] at *; omega)) (by first | assumption | omega | (unfold R32 at *; omega) | (unfold R64 at *; omega) | (simp only [R32, R64] at *; omega)) (by first | assumption | omega | (unfold R32 at *; omega) | (unfold R64 at *; omega) | (simp only [R32, R64] at *; omega)) (by first | assumption | omega | (unfold R32 at *; omega) | (unfold R64 at *; omega) | (simp only [R32, R64] at *; omega)) (fun o3_5  hv_5_0 => ?_)
      show WV _ _ _ 70 _ _ _ _ _
      refine r_ex 7 (pc' := 81) (lo' := [some (.inr (.inr (some 203))), some (.inl t), some (.inl (mo_laysWinds_16 7 v t (-1) 0)), o3_5]) (st' := [.inl (-1), .inl (mo_laysWinds_16 7 v t (-1) 0), .inl (v 203 27), .inl t, .inr (.inr (some 219))]) rfl ?_
      have hb_6 : -20 ≤ (v 203 27) ∧ (v 203 27) ≤ 20 := hX 203 27
      refine n_ic_eq (pc0 := 81) (len := 3) (t := 92) rfl (by first | assumption | omega | (unfold R32 at *; omega) | (unfold R64 at *; omega) | (simp only [R32, R64] at *; omega)) (by first | assumption | omega | (unfold R32 at *; omega) | (unfold R64 at *; omega) | (simp only [R32, R64] at *; omega)) (fun h_81 => ?_) (fun h_81 => ?_)
      · show WV _ _ _ 92 _ _ _ _ _
        rw [if_pos h_81] at hK
        refine r_ex 3 (pc' := 107) (lo' := [some (.inr (.inr (some 203))), some (.inl t), some (.inl (mo_laysWinds_16 7 v t (-1) 0)), o3_5]) (st' := [.inl ((v 203 27) + 0), .inl t, .inr (.inr (some 219))]) rfl ?_
        refine r_iast2 (pc' := 108) (pc0 := 107) (len := 1) rfl (s_219 _) (by first | assumption | omega | (unfold R32 at *; omega) | (unfold R64 at *; omega) | (simp only [R32, R64] at *; omega)) (by decide) rfl ?_
        have hX_7 : XI (v2 v 219 ((t).toNat) ((v 203 27) + 0)) := XI.put hX (show -60 ≤ ((v 203 27) + 0) ∧ ((v 203 27) + 0) ≤ 60 from (by first | assumption | omega | (unfold R32 at *; omega) | (unfold R64 at *; omega) | (simp only [R32, R64] at *; omega)))
        refine r_ex 2 (pc' := 2) (lo' := [some (.inr (.inr (some 203))), some (.inl (t + 1)), some (.inl (mo_laysWinds_16 7 v t (-1) 0)), o3_5]) (st' := []) rfl ?_
        refine ih (v2 v 219 ((t).toNat) ((v 203 27) + 0)) (t + 1) _ _ hX_7 (by first | assumption | omega | (unfold R32 at *; omega) | (unfold R64 at *; omega) | (simp only [R32, R64] at *; omega)) (by first | assumption | exact LB.nil | exact LB.step hi_1 (by omega) (by omega)) (show CF (v2 v 219 ((t).toNat) ((v 203 27) + 0)) from (show CF (v2 v 219 ((t).toNat) ((v 203 27) + 0)) from CF.of hi_2 (fun k h1 h2 => by rw [v2_row (by omega)]))) (by first | assumption | omega | (unfold R32 at *; omega) | (unfold R64 at *; omega) | (simp only [R32, R64] at *; omega)) hK
      · show WV _ _ _ 84 _ _ _ _ _
        rw [if_neg h_81] at hK
        refine r_ex 3 (pc' := 89) (lo' := [some (.inr (.inr (some 203))), some (.inl t), some (.inl (mo_laysWinds_16 7 v t (-1) 0)), o3_5]) (st' := [.inl 3, .inl (v 203 34), .inl (v 203 27), .inl t, .inr (.inr (some 219))]) rfl ?_
        have hb_8 : -1 ≤ (v 203 34) ∧ (v 203 34) ≤ 6 := hX 203 34
        refine n_ic_ne (pc0 := 89) (len := 3) (t := 96) rfl (by first | assumption | omega | (unfold R32 at *; omega) | (unfold R64 at *; omega) | (simp only [R32, R64] at *; omega)) (by first | assumption | omega | (unfold R32 at *; omega) | (unfold R64 at *; omega) | (simp only [R32, R64] at *; omega)) (fun h_89 => ?_) (fun h_89 => ?_)
        · show WV _ _ _ 96 _ _ _ _ _
          rw [if_neg h_89] at hK
          refine r_ex 7 (pc' := 105) (lo' := [some (.inr (.inr (some 203))), some (.inl t), some (.inl (mo_laysWinds_16 7 v t (-1) 0)), o3_5]) (st' := [.inl ((2 * (mo_laysWinds_16 7 v t (-1) 0)) + 1), .inr (.inr (some 214)), .inl (v 203 27), .inl t, .inr (.inr (some 219))]) rfl ?_
          refine r_iald2 (j := 0) (x := (v 214 ((((2 * (mo_laysWinds_16 7 v t (-1) 0)) + 1)).toNat))) (pc' := 106) (pc0 := 105) (len := 1) rfl (s_214 _) (by first | assumption | omega | (unfold R32 at *; omega) | (unfold R64 at *; omega) | (simp only [R32, R64] at *; omega)) (by decide) rfl rfl ?_
          have hb_9 : -20 ≤ (v 214 ((((2 * (mo_laysWinds_16 7 v t (-1) 0)) + 1)).toNat)) ∧ (v 214 ((((2 * (mo_laysWinds_16 7 v t (-1) 0)) + 1)).toNat)) ≤ 299 := hX 214 ((((2 * (mo_laysWinds_16 7 v t (-1) 0)) + 1)).toNat)
          have hw : v 214 (((2 * (mo_laysWinds_16 7 v t (-1) 0)) + 1)).toNat ≤ 20 := CF.wnd (hi_2) (by omega)
          refine r_ex 1 (pc' := 107) (lo' := [some (.inr (.inr (some 203))), some (.inl t), some (.inl (mo_laysWinds_16 7 v t (-1) 0)), o3_5]) (st' := [.inl ((v 203 27) + (v 214 ((((2 * (mo_laysWinds_16 7 v t (-1) 0)) + 1)).toNat))), .inl t, .inr (.inr (some 219))]) rfl ?_
          refine r_iast2 (pc' := 108) (pc0 := 107) (len := 1) rfl (s_219 _) (by first | assumption | omega | (unfold R32 at *; omega) | (unfold R64 at *; omega) | (simp only [R32, R64] at *; omega)) (by decide) rfl ?_
          have hX_10 : XI (v2 v 219 ((t).toNat) ((v 203 27) + (v 214 ((((2 * (mo_laysWinds_16 7 v t (-1) 0)) + 1)).toNat)))) := XI.put hX (show -60 ≤ ((v 203 27) + (v 214 ((((2 * (mo_laysWinds_16 7 v t (-1) 0)) + 1)).toNat))) ∧ ((v 203 27) + (v 214 ((((2 * (mo_laysWinds_16 7 v t (-1) 0)) + 1)).toNat))) ≤ 60 from (by first | assumption | omega | (unfold R32 at *; omega) | (unfold R64 at *; omega) | (simp only [R32, R64] at *; omega)))
          refine r_ex 2 (pc' := 2) (lo' := [some (.inr (.inr (some 203))), some (.inl (t + 1)), some (.inl (mo_laysWinds_16 7 v t (-1) 0)), o3_5]) (st' := []) rfl ?_
          refine ih (v2 v 219 ((t).toNat) ((v 203 27) + (v 214 ((((2 * (mo_laysWinds_16 7 v t (-1) 0)) + 1)).toNat)))) (t + 1) _ _ hX_10 (by first | assumption | omega | (unfold R32 at *; omega) | (unfold R64 at *; omega) | (simp only [R32, R64] at *; omega)) (by first | assumption | exact LB.nil | exact LB.step hi_1 (by omega) (by omega)) (show CF (v2 v 219 ((t).toNat) ((v 203 27) + (v 214 ((((2 * (mo_laysWinds_16 7 v t (-1) 0)) + 1)).toNat)))) from (show CF (v2 v 219 ((t).toNat) ((v 203 27) + (v 214 ((((2 * (mo_laysWinds_16 7 v t (-1) 0)) + 1)).toNat)))) from CF.of hi_2 (fun k h1 h2 => by rw [v2_row (by omega)]))) (by first | assumption | omega | (unfold R32 at *; omega) | (unfold R64 at *; omega) | (simp only [R32, R64] at *; omega)) hK
        · show WV _ _ _ 92 _ _ _ _ _
          rw [if_pos h_89] at hK
          refine r_ex 3 (pc' := 107) (lo' := [some (.inr (.inr (some 203))), some (.inl t), some (.inl (mo_laysWinds_16 7 v t (-1) 0)), o3_5]) (st' := [.inl ((v 203 27) + 0), .inl t, .inr (.inr (some 219))]) rfl ?_
          refine r_iast2 (pc' := 108) (pc0 := 107) (len := 1) rfl (s_219 _) (by first | assumption | omega | (unfold R32 at *; omega) | (unfold R64 at *; omega) | (simp only [R32, R64] at *; omega)) (by decide) rfl ?_
          have hX_11 : XI (v2 v 219 ((t).toNat) ((v 203 27) + 0)) := XI.put hX (show -60 ≤ ((v 203 27) + 0) ∧ ((v 203 27) + 0) ≤ 60 from (by first | assumption | omega | (unfold R32 at *; omega) | (unfold R64 at *; omega) | (simp only [R32, R64] at *; omega)))
          refine r_ex 2 (pc' := 2) (lo' := [some (.inr (.inr (some 203))), some (.inl (t + 1)), some (.inl (mo_laysWinds_16 7 v t (-1) 0)), o3_5]) (st' := []) rfl ?_
          refine ih (v2 v 219 ((t).toNat) ((v 203 27) + 0)) (t + 1) _ _ hX_11 (by first | assumption | omega | (unfold R32 at *; omega) | (unfold R64 at *; omega) | (simp only [R32, R64] at *; omega)) (by first | assumption | exact LB.nil | exact LB.step hi_1 (by omega) (by omega)) (show CF (v2 v 219 ((t).toNat) ((v 203 27) + 0)) from (show CF (v2 v 219 ((t).toNat) ((v 203 27) + 0)) from CF.of hi_2 (fun k h1 h2 => by rw [v2_row (by omega)]))) (by first | assumption | omega | (unfold R32 at *; omega) | (unfold R64 at *; omega) | (simp only [R32, R64] at *; omega)) hK

theorem of_mo_laysWinds_2 {rk : Nat} (hk : (rk < 219 ∨ 219 < rk)) : ∀ (f : Nat) {v : VS} {t : Int}, (mo_laysWinds_2 f v t) rk = v rk := by
  intro f
  induction f with
  | zero => intro v t; rfl
  | succ f ih =>
    intro v t
    rw [mo_laysWinds_2]
    by_cases hc_ : t < (v 210 1)
    · rw [if_pos hc_]
      by_cases hc_ : (mo_laysWinds_16 7 v t (-1) 0) = (-1)
      · rw [if_pos hc_]
        all_goals (rw [ih, v2_row (by omega)])
      · rw [if_neg hc_]
        by_cases hc_ : (v 203 34) = 3
        · rw [if_pos hc_]
          all_goals (rw [ih, v2_row (by omega)])
        · rw [if_neg hc_]
          all_goals (rw [ih, v2_row (by omega)])
    · rw [if_neg hc_]
      all_goals (show v rk = _)
      all_goals rfl
theorem o_mo_laysWinds_2 {rk : Nat} {f : Nat} {v : VS} {t : Int} (hk : (rk < 219 ∨ 219 < rk)) : (mo_laysWinds_2 f v t) rk = v rk := of_mo_laysWinds_2 hk f

theorem l_mo_laysWinds_127 {X : PX} {d b : Nat} {Q : Option PV → Nat → VS → Prop}  : ∀ (f : Nat) (v : VS) (n : Int) (t : Int) (o3 : Option PV), XI v → (0 ≤ t ∧ t ≤ 300) → (-20 ≤ n ∧ n ≤ 20) → (LC v t) → (0 ≤ (v 203 28) ∧ (v 203 28) ≤ 20) → (300 < t + f) → (XI (mo_laysWinds_127 f v n t) → Q none b (mo_laysWinds_127 f v n t)) → WV X d 242 127 [some (.inr (.inr (some 203))), some (.inl n), some (.inl t), o3] [] b v Q := by
  intro f
  induction f with
  | zero =>
    intro v n t o3 hX hi_0 hi_1 hi_2 hi_3 hf hQ
    exfalso
    omega
  | succ f ih =>
    intro v n t o3 hX hi_0 hi_1 hi_2 hi_3 hf hQ
    rw [mo_laysWinds_127] at hQ
    refine r_ex 4 (pc' := 133) (lo' := [some (.inr (.inr (some 203))), some (.inl n), some (.inl t), o3]) (st' := [.inl 1, .inr (.inr (some 210)), .inl t]) rfl ?_
    refine r_iald2 (j := 0) (x := (v 210 1)) (pc' := 134) (pc0 := 133) (len := 1) rfl (s_210 _) (by first | assumption | omega | (unfold R32 at *; omega) | (unfold R64 at *; omega) | (simp only [R32, R64] at *; omega)) (by decide) rfl rfl ?_
    have hb_14 : 0 ≤ (v 210 1) ∧ (v 210 1) ≤ 300 := hX 210 1
    refine n_ic_ge (pc0 := 134) (len := 3) (t := 205) rfl (by first | assumption | omega | (unfold R32 at *; omega) | (unfold R64 at *; omega) | (simp only [R32, R64] at *; omega)) (by first | assumption | omega | (unfold R32 at *; omega) | (unfold R64 at *; omega) | (simp only [R32, R64] at *; omega)) (fun h_134 => ?_) (fun h_134 => ?_)
    · show WV _ _ _ 205 _ _ _ _ _
      rw [if_neg h_134] at hQ
      refine r_ret (rr := none) (I := .return_) (pc0 := 205) (len := 1) rfl rfl ?_
      exact hQ hX 
    · show WV _ _ _ 137 _ _ _ _ _
      rw [if_pos h_134] at hQ
      refine r_ex 2 (pc' := 140) (lo' := [some (.inr (.inr (some 203))), some (.inl n), some (.inl t), o3]) (st' := [.inl 30, .inl t]) rfl ?_
      refine n_irem (pc' := 141) (pc0 := 140) (len := 1) rfl (by first | assumption | omega | (unfold R32 at *; omega) | (unfold R64 at *; omega) | (simp only [R32, R64] at *; omega)) (by first | assumption | omega | (unfold R32 at *; omega) | (unfold R64 at *; omega) | (simp only [R32, R64] at *; omega)) rfl ?_
      refine n_if_ne (pc0 := 141) (len := 3) (t := 189) rfl (by first | assumption | omega | (unfold R32 at *; omega) | (unfold R64 at *; omega) | (simp only [R32, R64] at *; omega)) (fun h_141 => ?_) (fun h_141 => ?_)
      · show WV _ _ _ 189 _ _ _ _ _
        rw [if_neg h_141] at hQ
        refine r_ex 4 (pc' := 195) (lo' := [some (.inr (.inr (some 203))), some (.inl n), some (.inl t), o3]) (st' := [.inl t, .inr (.inr (some 219)), .inl t, .inr (.inr (some 219))]) rfl ?_
        refine r_iald2 (j := 0) (x := (v 219 ((t).toNat))) (pc' := 196) (pc0 := 195) (len := 1) rfl (s_219 _) (by first | assumption | omega | (unfold R32 at *; omega) | (unfold R64 at *; omega) | (simp only [R32, R64] at *; omega)) (by decide) rfl rfl ?_
        have hb_15 : -60 ≤ (v 219 ((t).toNat)) ∧ (v 219 ((t).toNat)) ≤ 60 := hX 219 ((t).toNat)
        have hw : -40 ≤ (v 219 ((t).toNat)) ∧ (v 219 ((t).toNat)) ≤ 40 := LC.now hi_2 (by omega) (by omega)
        refine r_ex 2 (pc' := 198) (lo' := [some (.inr (.inr (some 203))), some (.inl n), some (.inl t), o3]) (st' := [.inl ((v 219 ((t).toNat)) + n), .inl t, .inr (.inr (some 219))]) rfl ?_
        refine r_iast2 (pc' := 199) (pc0 := 198) (len := 1) rfl (s_219 _) (by first | assumption | omega | (unfold R32 at *; omega) | (unfold R64 at *; omega) | (simp only [R32, R64] at *; omega)) (by decide) rfl ?_
        have hX_16 : XI (v2 v 219 ((t).toNat) ((v 219 ((t).toNat)) + n)) := XI.put hX (show -60 ≤ ((v 219 ((t).toNat)) + n) ∧ ((v 219 ((t).toNat)) + n) ≤ 60 from (by first | assumption | omega | (unfold R32 at *; omega) | (unfold R64 at *; omega) | (simp only [R32, R64] at *; omega)))
        refine r_ex 2 (pc' := 127) (lo' := [some (.inr (.inr (some 203))), some (.inl n), some (.inl (t + 1)), o3]) (st' := []) rfl ?_
        refine ih (v2 v 219 ((t).toNat) ((v 219 ((t).toNat)) + n)) n (t + 1) _ hX_16 (by first | assumption | omega | (unfold R32 at *; omega) | (unfold R64 at *; omega) | (simp only [R32, R64] at *; omega)) (by first | assumption | omega | (unfold R32 at *; omega) | (unfold R64 at *; omega) | (simp only [R32, R64] at *; omega)) (by first | assumption | exact LC.step hi_2 (by omega) | exact LC.step (show LC (v2 v 203 29 _) t from hi_2) (by omega)) (show 0 ≤ (v 203 28) ∧ (v 203 28) ≤ 20 from (by first | assumption | omega | (unfold R32 at *; omega) | (unfold R64 at *; omega) | (simp only [R32, R64] at *; omega))) (by first | assumption | omega | (unfold R32 at *; omega) | (unfold R64 at *; omega) | (simp only [R32, R64] at *; omega)) hQ
      · show WV _ _ _ 144 _ _ _ _ _
        rw [if_pos h_141] at hQ
        refine r_ex 8 (pc' := 160) (lo' := [some (.inr (.inr (some 203))), some (.inl n), some (.inl t), o3]) (st' := [.inr (.inl 2147483648), .inr (.inl ((1103515245 * (v 203 29)) + 12345)), .inr (.inr (some 203))]) rfl ?_
        have hb_17 : 0 ≤ (v 203 29) ∧ (v 203 29) ≤ 4294967296 := hX 203 29
        refine n_lrem (pc' := 161) (pc0 := 160) (len := 1) rfl (by first | assumption | omega | (unfold R32 at *; omega) | (unfold R64 at *; omega) | (simp only [R32, R64] at *; omega)) (by first | assumption | omega | (unfold R32 at *; omega) | (unfold R64 at *; omega) | (simp only [R32, R64] at *; omega)) rfl ?_
        refine r_putl2 (j := 29) (pc' := 164) (pc0 := 161) (len := 3) rfl (s_203 _) rfl rfl rfl rfl rfl ?_
        have hX_18 : XI (v2 v 203 29 (((1103515245 * (v 203 29)) + 12345) % 2147483648)) := XI.put hX (show 0 ≤ (((1103515245 * (v 203 29)) + 12345) % 2147483648) ∧ (((1103515245 * (v 203 29)) + 12345) % 2147483648) ≤ 4294967296 from (by first | assumption | omega | (unfold R32 at *; omega) | (unfold R64 at *; omega) | (simp only [R32, R64] at *; omega)))
        refine r_ex 3 (pc' := 171) (lo' := [some (.inr (.inr (some 203))), some (.inl n), some (.inl t), o3]) (st' := [.inr (.inl 65536), .inr (.inl (((1103515245 * (v 203 29)) + 12345) % 2147483648))]) rfl ?_
        have hb_19 : 0 ≤ (((1103515245 * (v 203 29)) + 12345) % 2147483648) ∧ (((1103515245 * (v 203 29)) + 12345) % 2147483648) ≤ 4294967296 := hX_18 203 29
        refine n_ldiv (pc' := 172) (pc0 := 171) (len := 1) rfl (by first | assumption | omega | (unfold R32 at *; omega) | (unfold R64 at *; omega) | (simp only [R32, R64] at *; omega)) (by first | assumption | omega | (unfold R32 at *; omega) | (unfold R64 at *; omega) | (simp only [R32, R64] at *; omega)) rfl ?_
        refine r_ex 6 (pc' := 180) (lo' := [some (.inr (.inr (some 203))), some (.inl n), some (.inl t), o3]) (st' := [.inl ((2 * (v 203 28)) + 1), .inr (.inl ((((1103515245 * (v 203 29)) + 12345) % 2147483648) / 65536))]) rfl ?_
        have hb_20 : -1 ≤ (v 203 28) ∧ (v 203 28) ≤ 20 := hX_18 203 28
        refine n_i2l (pc' := 181) (pc0 := 180) (len := 1) rfl (by first | assumption | omega | (unfold R32 at *; omega) | (unfold R64 at *; omega) | (simp only [R32, R64] at *; omega)) rfl ?_
        refine n_lrem (pc' := 182) (pc0 := 181) (len := 1) rfl (by first | assumption | omega | (unfold R32 at *; omega) | (unfold R64 at *; omega) | (simp only [R32, R64] at *; omega)) (by first | assumption | omega | (unfold R32 at *; omega) | (unfold R64 at *; omega) | (simp only [R32, R64] at *; omega)) rfl ?_
        have hb_21 := mod_bd (x := ((((1103515245 * (v 203 29)) + 12345) % 2147483648) / 65536)) (c := ((2 * (v 203 28)) + 1)) (by first | assumption | omega | (unfold R32 at *; omega) | (unfold R64 at *; omega) | (simp only [R32, R64] at *; omega))
        refine r_ex 9 (pc' := 195) (lo' := [some (.inr (.inr (some 203))), some (.inl ((((((1103515245 * (v 203 29)) + 12345) % 2147483648) / 65536) % ((2 * (v 203 28)) + 1)) - (v 203 28))), some (.inl t), o3]) (st' := [.inl t, .inr (.inr (some 219)), .inl t, .inr (.inr (some 219))]) rfl ?_
        refine r_iald2 (j := 0) (x := (v 219 ((t).toNat))) (pc' := 196) (pc0 := 195) (len := 1) rfl (s_219 _) (by first | assumption | omega | (unfold R32 at *; omega) | (unfold R64 at *; omega) | (simp only [R32, R64] at *; omega)) (by decide) rfl rfl ?_
        have hb_22 : -60 ≤ (v 219 ((t).toNat)) ∧ (v 219 ((t).toNat)) ≤ 60 := hX_18 219 ((t).toNat)
        have hw : -40 ≤ (v 219 ((t).toNat)) ∧ (v 219 ((t).toNat)) ≤ 40 := LC.now hi_2 (by omega) (by omega)
        refine r_ex 2 (pc' := 198) (lo' := [some (.inr (.inr (some 203))), some (.inl ((((((1103515245 * (v 203 29)) + 12345) % 2147483648) / 65536) % ((2 * (v 203 28)) + 1)) - (v 203 28))), some (.inl t), o3]) (st' := [.inl ((v 219 ((t).toNat)) + ((((((1103515245 * (v 203 29)) + 12345) % 2147483648) / 65536) % ((2 * (v 203 28)) + 1)) - (v 203 28))), .inl t, .inr (.inr (some 219))]) rfl ?_
        refine r_iast2 (pc' := 199) (pc0 := 198) (len := 1) rfl (s_219 _) (by first | assumption | omega | (unfold R32 at *; omega) | (unfold R64 at *; omega) | (simp only [R32, R64] at *; omega)) (by decide) rfl ?_
        have hX_23 : XI (v2 (v2 v 203 29 (((1103515245 * (v 203 29)) + 12345) % 2147483648)) 219 ((t).toNat) ((v 219 ((t).toNat)) + ((((((1103515245 * (v 203 29)) + 12345) % 2147483648) / 65536) % ((2 * (v 203 28)) + 1)) - (v 203 28)))) := XI.put hX_18 (show -60 ≤ ((v 219 ((t).toNat)) + ((((((1103515245 * (v 203 29)) + 12345) % 2147483648) / 65536) % ((2 * (v 203 28)) + 1)) - (v 203 28))) ∧ ((v 219 ((t).toNat)) + ((((((1103515245 * (v 203 29)) + 12345) % 2147483648) / 65536) % ((2 * (v 203 28)) + 1)) - (v 203 28))) ≤ 60 from (by first | assumption | omega | (unfold R32 at *; omega) | (unfold R64 at *; omega) | (simp only [R32, R64] at *; omega)))
        refine r_ex 2 (pc' := 127) (lo' := [some (.inr (.inr (some 203))), some (.inl ((((((1103515245 * (v 203 29)) + 12345) % 2147483648) / 65536) % ((2 * (v 203 28)) + 1)) - (v 203 28))), some (.inl (t + 1)), o3]) (st' := []) rfl ?_
        refine ih (v2 (v2 v 203 29 (((1103515245 * (v 203 29)) + 12345) % 2147483648)) 219 ((t).toNat) ((v 219 ((t).toNat)) + ((((((1103515245 * (v 203 29)) + 12345) % 2147483648) / 65536) % ((2 * (v 203 28)) + 1)) - (v 203 28)))) ((((((1103515245 * (v 203 29)) + 12345) % 2147483648) / 65536) % ((2 * (v 203 28)) + 1)) - (v 203 28)) (t + 1) _ hX_23 (by first | assumption | omega | (unfold R32 at *; omega) | (unfold R64 at *; omega) | (simp only [R32, R64] at *; omega)) (by first | assumption | omega | (unfold R32 at *; omega) | (unfold R64 at *; omega) | (simp only [R32, R64] at *; omega)) (by first | assumption | exact LC.step hi_2 (by omega) | exact LC.step (show LC (v2 v 203 29 _) t from hi_2) (by omega)) (show 0 ≤ (v 203 28) ∧ (v 203 28) ≤ 20 from (by first | assumption | omega | (unfold R32 at *; omega) | (unfold R64 at *; omega) | (simp only [R32, R64] at *; omega))) (by first | assumption | omega | (unfold R32 at *; omega) | (unfold R64 at *; omega) | (simp only [R32, R64] at *; omega)) hQ

theorem of_mo_laysWinds_127 {rk : Nat} (hk : (rk < 203 ∨ 203 < rk) ∧ (rk < 219 ∨ 219 < rk)) : ∀ (f : Nat) {v : VS} {n : Int} {t : Int}, (mo_laysWinds_127 f v n t) rk = v rk := by
  intro f
  induction f with
  | zero => intro v n t; rfl
  | succ f ih =>
    intro v n t
    rw [mo_laysWinds_127]
    by_cases hc_ : t < (v 210 1)
    · rw [if_pos hc_]
      by_cases hc_ : (t % 30) = 0
      · rw [if_pos hc_]
        all_goals (rw [ih, v2_row (by omega), v2_row (by omega)])
      · rw [if_neg hc_]
        all_goals (rw [ih, v2_row (by omega)])
    · rw [if_neg hc_]
      all_goals (show v rk = _)
      all_goals rfl
theorem o_mo_laysWinds_127 {rk : Nat} {f : Nat} {v : VS} {n : Int} {t : Int} (hk : (rk < 203 ∨ 203 < rk) ∧ (rk < 219 ∨ 219 < rk)) : (mo_laysWinds_127 f v n t) rk = v rk := of_mo_laysWinds_127 hk f

theorem w_mo_laysWinds {X : PX} {d b : Nat} {v : VS}  (hX : XI v) (hp_a : CF v) {Q : Option PV → Nat → VS → Prop} (hQ : XI (mo_laysWinds v) → Q none b (mo_laysWinds v)) : WV X d 242 0 [some (.inr (.inr (some 203))), none, none, none] [] b v Q := by
  rw [mo_laysWinds] at hQ
  refine r_ex 2 (pc' := 2) (lo' := [some (.inr (.inr (some 203))), some (.inl 0), none, none]) (st' := []) rfl ?_
  refine l_mo_laysWinds_2 301 v 0 _ _ hX (by first | assumption | omega | (unfold R32 at *; omega) | (unfold R64 at *; omega) | (simp only [R32, R64] at *; omega)) (by first | assumption | exact LB.nil | exact LB.step hi_1 (by omega) (by omega)) (hp_a) (by first | assumption | omega | (unfold R32 at *; omega) | (unfold R64 at *; omega) | (simp only [R32, R64] at *; omega)) (fun o1_12 o2_12 o3_12 hX_12 hv_12_0 => ?_)
  show WV _ _ _ 114 _ _ _ _ _
  refine r_ex 3 (pc' := 119) (lo' := [some (.inr (.inr (some 203))), o1_12, o2_12, o3_12]) (st' := [.inl (-1), .inl ((mo_laysWinds_2 301 v 0) 203 28)]) rfl ?_
  have hb_13 : -1 ≤ ((mo_laysWinds_2 301 v 0) 203 28) ∧ ((mo_laysWinds_2 301 v 0) 203 28) ≤ 20 := hX_12 203 28
  refine n_ic_ne (pc0 := 119) (len := 3) (t := 123) rfl (by first | assumption | omega | (unfold R32 at *; omega) | (unfold R64 at *; omega) | (simp only [R32, R64] at *; omega)) (by first | assumption | omega | (unfold R32 at *; omega) | (unfold R64 at *; omega) | (simp only [R32, R64] at *; omega)) (fun h_119 => ?_) (fun h_119 => ?_)
  · show WV _ _ _ 123 _ _ _ _ _
    rw [if_neg h_119] at hQ
    refine r_ex 4 (pc' := 127) (lo' := [some (.inr (.inr (some 203))), some (.inl 0), some (.inl 0), o3_12]) (st' := []) rfl ?_
    exact l_mo_laysWinds_127 301 (mo_laysWinds_2 301 v 0) 0 0 _ hX_12 (by first | assumption | omega | (unfold R32 at *; omega) | (unfold R64 at *; omega) | (simp only [R32, R64] at *; omega)) (by first | assumption | omega | (unfold R32 at *; omega) | (unfold R64 at *; omega) | (simp only [R32, R64] at *; omega)) (by first | assumption | exact LC.step hi_2 (by omega) | exact LC.step (show LC (v2 v 203 29 _) t from hi_2) (by omega)) (show 0 ≤ ((mo_laysWinds_2 301 v 0) 203 28) ∧ ((mo_laysWinds_2 301 v 0) 203 28) ≤ 20 from (by first | assumption | omega | (unfold R32 at *; omega) | (unfold R64 at *; omega) | (simp only [R32, R64] at *; omega))) (by first | assumption | omega | (unfold R32 at *; omega) | (unfold R64 at *; omega) | (simp only [R32, R64] at *; omega)) hQ
  · show WV _ _ _ 122 _ _ _ _ _
    rw [if_pos h_119] at hQ
    refine r_ret (rr := none) (I := .return_) (pc0 := 122) (len := 1) rfl rfl ?_
    exact hQ hX_12 

theorem e_mo_laysWinds {X : PX} {d b : Nat} {v : VS}  (hX : XI v) (hp_a : CF v) : EvV X d 242 [.inr (.inr (some 203))] b v none b (mo_laysWinds v) := EvV.of (w_mo_laysWinds hX hp_a (fun _ => ⟨rfl, rfl, rfl⟩))

theorem i_mo_laysWinds {v : VS}  (hX : XI v) (hp_a : CF v) : XI (mo_laysWinds v) := by
  have q : WV (0, fun _ => 0, none) 0 242 0 [some (.inr (.inr (some 203))), none, none, none] [] 1 v (fun _ _ _ => XI (mo_laysWinds v)) := w_mo_laysWinds (X := (0, fun _ => 0, none)) (d := 0) (b := 1) hX hp_a (fun q => q)
  obtain ⟨_, _, _, _, _, _, _, q⟩ := q
  exact q

theorem o_mo_laysWinds {rk : Nat} {v : VS}  (hk : (rk < 203 ∨ 203 < rk) ∧ (rk < 219 ∨ 219 < rk)) : (mo_laysWinds v ) rk = v rk := by
  unfold mo_laysWinds
  by_cases hc_ : ((mo_laysWinds_2 301 v 0) 203 28) = (-1)
  · rw [if_pos hc_]
    all_goals (show (mo_laysWinds_2 301 v 0) rk = _)
    all_goals (rw [o_mo_laysWinds_2 (by omega)])
  · rw [if_neg hc_]
    all_goals (rw [o_mo_laysWinds_127 (by omega), o_mo_laysWinds_2 (by omega)])

def mo_takesOf (v : VS) (e : Int) (t : Int) : Int :=
  (if (v 212 ((((4 * e) + 3)).toNat)) = 1 then (if (v 212 ((((4 * e) + 3)).toNat)) = 0 then ((v 212 ((((4 * e) + 2)).toNat)) - (v 219 ((t).toNat))) else (if 0 < ((v 212 ((((4 * e) + 2)).toNat)) - (v 219 ((t).toNat))) then ((v 212 ((((4 * e) + 2)).toNat)) - (v 219 ((t).toNat))) else 1)) else (if (v 212 ((((4 * e) + 3)).toNat)) = 2 then (if (v 212 ((((4 * e) + 3)).toNat)) = 0 then ((v 212 ((((4 * e) + 2)).toNat)) - (-(v 219 ((t).toNat)))) else (if 0 < ((v 212 ((((4 * e) + 2)).toNat)) - (-(v 219 ((t).toNat)))) then ((v 212 ((((4 * e) + 2)).toNat)) - (-(v 219 ((t).toNat)))) else 1)) else (if (v 212 ((((4 * e) + 3)).toNat)) = 0 then ((v 212 ((((4 * e) + 2)).toNat)) - 0) else (if 0 < ((v 212 ((((4 * e) + 2)).toNat)) - 0) then ((v 212 ((((4 * e) + 2)).toNat)) - 0) else 1))))
theorem w_mo_takesOf {X : PX} {d b : Nat} {v : VS} {e : Int} {t : Int} (hX : XI v) (hp_a : 0 ≤ e ∧ e < 12) (hp_b : 0 ≤ t ∧ t < 300) {Q : Option PV → Nat → VS → Prop} (hQ : (0 ≤ (mo_takesOf v e t) ∧ (mo_takesOf v e t) ≤ 120) → Q (some (.inl (mo_takesOf v e t))) b v) : WV X d 243 0 [some (.inr (.inr (some 203))), some (.inl e), some (.inl t), none, none] [] b v Q := by
  rw [mo_takesOf] at hQ
  refine r_ex 7 (pc' := 9) (lo' := [some (.inr (.inr (some 203))), some (.inl e), some (.inl t), none, none]) (st' := [.inl ((4 * e) + 3), .inr (.inr (some 212))]) rfl ?_
  refine r_iald2 (j := 0) (x := (v 212 ((((4 * e) + 3)).toNat))) (pc' := 10) (pc0 := 9) (len := 1) rfl (s_212 _) (by first | assumption | omega | (unfold R32 at *; omega) | (unfold R64 at *; omega) | (simp only [R32, R64] at *; omega)) (by decide) rfl rfl ?_
  have hb_1 : 0 ≤ (v 212 ((((4 * e) + 3)).toNat)) ∧ (v 212 ((((4 * e) + 3)).toNat)) ≤ 60 := hX 212 ((((4 * e) + 3)).toNat)
  refine r_ex 8 (pc' := 20) (lo' := [some (.inr (.inr (some 203))), some (.inl e), some (.inl t), some (.inl (v 212 ((((4 * e) + 3)).toNat))), none]) (st' := [.inl ((4 * e) + 2), .inr (.inr (some 212))]) rfl ?_
  refine r_iald2 (j := 0) (x := (v 212 ((((4 * e) + 2)).toNat))) (pc' := 21) (pc0 := 20) (len := 1) rfl (s_212 _) (by first | assumption | omega | (unfold R32 at *; omega) | (unfold R64 at *; omega) | (simp only [R32, R64] at *; omega)) (by decide) rfl rfl ?_
  have hb_2 : 0 ≤ (v 212 ((((4 * e) + 2)).toNat)) ∧ (v 212 ((((4 * e) + 2)).toNat)) ≤ 60 := hX 212 ((((4 * e) + 2)).toNat)
  refine r_ex 2 (pc' := 23) (lo' := [some (.inr (.inr (some 203))), some (.inl e), some (.inl t), some (.inl (v 212 ((((4 * e) + 3)).toNat))), none]) (st' := [.inl 1, .inl (v 212 ((((4 * e) + 3)).toNat)), .inl (v 212 ((((4 * e) + 2)).toNat))]) rfl ?_
  refine n_ic_ne (pc0 := 23) (len := 3) (t := 35) rfl (by first | assumption | omega | (unfold R32 at *; omega) | (unfold R64 at *; omega) | (simp only [R32, R64] at *; omega)) (by first | assumption | omega | (unfold R32 at *; omega) | (unfold R64 at *; omega) | (simp only [R32, R64] at *; omega)) (fun h_23 => ?_) (fun h_23 => ?_)
  · show WV _ _ _ 35 _ _ _ _ _
    rw [if_neg h_23] at hQ
    refine r_ex 2 (pc' := 37) (lo' := [some (.inr (.inr (some 203))), some (.inl e), some (.inl t), some (.inl (v 212 ((((4 * e) + 3)).toNat))), none]) (st' := [.inl 2, .inl (v 212 ((((4 * e) + 3)).toNat)), .inl (v 212 ((((4 * e) + 2)).toNat))]) rfl ?_
    refine n_ic_ne (pc0 := 37) (len := 3) (t := 50) rfl (by first | assumption | omega | (unfold R32 at *; omega) | (unfold R64 at *; omega) | (simp only [R32, R64] at *; omega)) (by first | assumption | omega | (unfold R32 at *; omega) | (unfold R64 at *; omega) | (simp only [R32, R64] at *; omega)) (fun h_37 => ?_) (fun h_37 => ?_)
    · show WV _ _ _ 50 _ _ _ _ _
      rw [if_neg h_37] at hQ
      refine r_ex 4 (pc' := 55) (lo' := [some (.inr (.inr (some 203))), some (.inl e), some (.inl t), some (.inl (v 212 ((((4 * e) + 3)).toNat))), some (.inl ((v 212 ((((4 * e) + 2)).toNat)) - 0))]) (st' := [.inl (v 212 ((((4 * e) + 3)).toNat))]) rfl ?_
      refine n_if_eq (pc0 := 55) (len := 3) (t := 63) rfl (by first | assumption | omega | (unfold R32 at *; omega) | (unfold R64 at *; omega) | (simp only [R32, R64] at *; omega)) (fun h_55 => ?_) (fun h_55 => ?_)
      · show WV _ _ _ 63 _ _ _ _ _
        rw [if_pos h_55] at hQ
        refine r_ex 2 (pc' := 69) (lo' := [some (.inr (.inr (some 203))), some (.inl e), some (.inl t), some (.inl (v 212 ((((4 * e) + 3)).toNat))), some (.inl ((v 212 ((((4 * e) + 2)).toNat)) - 0))]) (st' := [.inl ((v 212 ((((4 * e) + 2)).toNat)) - 0)]) rfl ?_
        refine r_ret (rr := some (.inl ((v 212 ((((4 * e) + 2)).toNat)) - 0))) (I := .ireturn) (pc0 := 69) (len := 1) rfl rfl ?_
        exact hQ (by first | assumption | omega | (unfold R32 at *; omega) | (unfold R64 at *; omega) | (simp only [R32, R64] at *; omega))
      · show WV _ _ _ 58 _ _ _ _ _
        rw [if_neg h_55] at hQ
        refine r_ex 1 (pc' := 60) (lo' := [some (.inr (.inr (some 203))), some (.inl e), some (.inl t), some (.inl (v 212 ((((4 * e) + 3)).toNat))), some (.inl ((v 212 ((((4 * e) + 2)).toNat)) - 0))]) (st' := [.inl ((v 212 ((((4 * e) + 2)).toNat)) - 0)]) rfl ?_
        refine n_if_le (pc0 := 60) (len := 3) (t := 68) rfl (by first | assumption | omega | (unfold R32 at *; omega) | (unfold R64 at *; omega) | (simp only [R32, R64] at *; omega)) (fun h_60 => ?_) (fun h_60 => ?_)
        · show WV _ _ _ 68 _ _ _ _ _
          rw [if_neg h_60] at hQ
          refine r_ex 1 (pc' := 69) (lo' := [some (.inr (.inr (some 203))), some (.inl e), some (.inl t), some (.inl (v 212 ((((4 * e) + 3)).toNat))), some (.inl ((v 212 ((((4 * e) + 2)).toNat)) - 0))]) (st' := [.inl 1]) rfl ?_
          refine r_ret (rr := some (.inl 1)) (I := .ireturn) (pc0 := 69) (len := 1) rfl rfl ?_
          exact hQ (by first | assumption | omega | (unfold R32 at *; omega) | (unfold R64 at *; omega) | (simp only [R32, R64] at *; omega))
        · show WV _ _ _ 63 _ _ _ _ _
          rw [if_pos h_60] at hQ
          refine r_ex 2 (pc' := 69) (lo' := [some (.inr (.inr (some 203))), some (.inl e), some (.inl t), some (.inl (v 212 ((((4 * e) + 3)).toNat))), some (.inl ((v 212 ((((4 * e) + 2)).toNat)) - 0))]) (st' := [.inl ((v 212 ((((4 * e) + 2)).toNat)) - 0)]) rfl ?_
          refine r_ret (rr := some (.inl ((v 212 ((((4 * e) + 2)).toNat)) - 0))) (I := .ireturn) (pc0 := 69) (len := 1) rfl rfl ?_
          exact hQ (by first | assumption | omega | (unfold R32 at *; omega) | (unfold R64 at *; omega) | (simp only [R32, R64] at *; omega))
    · show WV _ _ _ 40 _ _ _ _ _
      rw [if_pos h_37] at hQ
      refine r_ex 3 (pc' := 45) (lo' := [some (.inr (.inr (some 203))), some (.inl e), some (.inl t), some (.inl (v 212 ((((4 * e) + 3)).toNat))), none]) (st' := [.inl t, .inr (.inr (some 219)), .inl (v 212 ((((4 * e) + 2)).toNat))]) rfl ?_
      refine r_iald2 (j := 0) (x := (v 219 ((t).toNat))) (pc' := 46) (pc0 := 45) (len := 1) rfl (s_219 _) (by first | assumption | omega | (unfold R32 at *; omega) | (unfold R64 at *; omega) | (simp only [R32, R64] at *; omega)) (by decide) rfl rfl ?_
      have hb_3 : -60 ≤ (v 219 ((t).toNat)) ∧ (v 219 ((t).toNat)) ≤ 60 := hX 219 ((t).toNat)
      refine r_ex 5 (pc' := 55) (lo' := [some (.inr (.inr (some 203))), some (.inl e), some (.inl t), some (.inl (v 212 ((((4 * e) + 3)).toNat))), some (.inl ((v 212 ((((4 * e) + 2)).toNat)) - (-(v 219 ((t).toNat)))))]) (st' := [.inl (v 212 ((((4 * e) + 3)).toNat))]) rfl ?_
      refine n_if_eq (pc0 := 55) (len := 3) (t := 63) rfl (by first | assumption | omega | (unfold R32 at *; omega) | (unfold R64 at *; omega) | (simp only [R32, R64] at *; omega)) (fun h_55 => ?_) (fun h_55 => ?_)
      · show WV _ _ _ 63 _ _ _ _ _
        rw [if_pos h_55] at hQ
        refine r_ex 2 (pc' := 69) (lo' := [some (.inr (.inr (some 203))), some (.inl e), some (.inl t), some (.inl (v 212 ((((4 * e) + 3)).toNat))), some (.inl ((v 212 ((((4 * e) + 2)).toNat)) - (-(v 219 ((t).toNat)))))]) (st' := [.inl ((v 212 ((((4 * e) + 2)).toNat)) - (-(v 219 ((t).toNat))))]) rfl ?_
        refine r_ret (rr := some (.inl ((v 212 ((((4 * e) + 2)).toNat)) - (-(v 219 ((t).toNat)))))) (I := .ireturn) (pc0 := 69) (len := 1) rfl rfl ?_
        exact hQ (by first | assumption | omega | (unfold R32 at *; omega) | (unfold R64 at *; omega) | (simp only [R32, R64] at *; omega))
      · show WV _ _ _ 58 _ _ _ _ _
        rw [if_neg h_55] at hQ
        refine r_ex 1 (pc' := 60) (lo' := [some (.inr (.inr (some 203))), some (.inl e), some (.inl t), some (.inl (v 212 ((((4 * e) + 3)).toNat))), some (.inl ((v 212 ((((4 * e) + 2)).toNat)) - (-(v 219 ((t).toNat)))))]) (st' := [.inl ((v 212 ((((4 * e) + 2)).toNat)) - (-(v 219 ((t).toNat))))]) rfl ?_
        refine n_if_le (pc0 := 60) (len := 3) (t := 68) rfl (by first | assumption | omega | (unfold R32 at *; omega) | (unfold R64 at *; omega) | (simp only [R32, R64] at *; omega)) (fun h_60 => ?_) (fun h_60 => ?_)
        · show WV _ _ _ 68 _ _ _ _ _
          rw [if_neg h_60] at hQ
          refine r_ex 1 (pc' := 69) (lo' := [some (.inr (.inr (some 203))), some (.inl e), some (.inl t), some (.inl (v 212 ((((4 * e) + 3)).toNat))), some (.inl ((v 212 ((((4 * e) + 2)).toNat)) - (-(v 219 ((t).toNat)))))]) (st' := [.inl 1]) rfl ?_
          refine r_ret (rr := some (.inl 1)) (I := .ireturn) (pc0 := 69) (len := 1) rfl rfl ?_
          exact hQ (by first | assumption | omega | (unfold R32 at *; omega) | (unfold R64 at *; omega) | (simp only [R32, R64] at *; omega))
        · show WV _ _ _ 63 _ _ _ _ _
          rw [if_pos h_60] at hQ
          refine r_ex 2 (pc' := 69) (lo' := [some (.inr (.inr (some 203))), some (.inl e), some (.inl t), some (.inl (v 212 ((((4 * e) + 3)).toNat))), some (.inl ((v 212 ((((4 * e) + 2)).toNat)) - (-(v 219 ((t).toNat)))))]) (st' := [.inl ((v 212 ((((4 * e) + 2)).toNat)) - (-(v 219 ((t).toNat))))]) rfl ?_
          refine r_ret (rr := some (.inl ((v 212 ((((4 * e) + 2)).toNat)) - (-(v 219 ((t).toNat)))))) (I := .ireturn) (pc0 := 69) (len := 1) rfl rfl ?_
          exact hQ (by first | assumption | omega | (unfold R32 at *; omega) | (unfold R64 at *; omega) | (simp only [R32, R64] at *; omega))
  · show WV _ _ _ 26 _ _ _ _ _
    rw [if_pos h_23] at hQ
    refine r_ex 3 (pc' := 31) (lo' := [some (.inr (.inr (some 203))), some (.inl e), some (.inl t), some (.inl (v 212 ((((4 * e) + 3)).toNat))), none]) (st' := [.inl t, .inr (.inr (some 219)), .inl (v 212 ((((4 * e) + 2)).toNat))]) rfl ?_
    refine r_iald2 (j := 0) (x := (v 219 ((t).toNat))) (pc' := 32) (pc0 := 31) (len := 1) rfl (s_219 _) (by first | assumption | omega | (unfold R32 at *; omega) | (unfold R64 at *; omega) | (simp only [R32, R64] at *; omega)) (by decide) rfl rfl ?_
    have hb_4 : -60 ≤ (v 219 ((t).toNat)) ∧ (v 219 ((t).toNat)) ≤ 60 := hX 219 ((t).toNat)
    refine r_ex 4 (pc' := 55) (lo' := [some (.inr (.inr (some 203))), some (.inl e), some (.inl t), some (.inl (v 212 ((((4 * e) + 3)).toNat))), some (.inl ((v 212 ((((4 * e) + 2)).toNat)) - (v 219 ((t).toNat))))]) (st' := [.inl (v 212 ((((4 * e) + 3)).toNat))]) rfl ?_
    refine n_if_eq (pc0 := 55) (len := 3) (t := 63) rfl (by first | assumption | omega | (unfold R32 at *; omega) | (unfold R64 at *; omega) | (simp only [R32, R64] at *; omega)) (fun h_55 => ?_) (fun h_55 => ?_)
    · show WV _ _ _ 63 _ _ _ _ _
      rw [if_pos h_55] at hQ
      refine r_ex 2 (pc' := 69) (lo' := [some (.inr (.inr (some 203))), some (.inl e), some (.inl t), some (.inl (v 212 ((((4 * e) + 3)).toNat))), some (.inl ((v 212 ((((4 * e) + 2)).toNat)) - (v 219 ((t).toNat))))]) (st' := [.inl ((v 212 ((((4 * e) + 2)).toNat)) - (v 219 ((t).toNat)))]) rfl ?_
      refine r_ret (rr := some (.inl ((v 212 ((((4 * e) + 2)).toNat)) - (v 219 ((t).toNat))))) (I := .ireturn) (pc0 := 69) (len := 1) rfl rfl ?_
      exact hQ (by first | assumption | omega | (unfold R32 at *; omega) | (unfold R64 at *; omega) | (simp only [R32, R64] at *; omega))
    · show WV _ _ _ 58 _ _ _ _ _
      rw [if_neg h_55] at hQ
      refine r_ex 1 (pc' := 60) (lo' := [some (.inr (.inr (some 203))), some (.inl e), some (.inl t), some (.inl (v 212 ((((4 * e) + 3)).toNat))), some (.inl ((v 212 ((((4 * e) + 2)).toNat)) - (v 219 ((t).toNat))))]) (st' := [.inl ((v 212 ((((4 * e) + 2)).toNat)) - (v 219 ((t).toNat)))]) rfl ?_
      refine n_if_le (pc0 := 60) (len := 3) (t := 68) rfl (by first | assumption | omega | (unfold R32 at *; omega) | (unfold R64 at *; omega) | (simp only [R32, R64] at *; omega)) (fun h_60 => ?_) (fun h_60 => ?_)
      · show WV _ _ _ 68 _ _ _ _ _
        rw [if_neg h_60] at hQ
        refine r_ex 1 (pc' := 69) (lo' := [some (.inr (.inr (some 203))), some (.inl e), some (.inl t), some (.inl (v 212 ((((4 * e) + 3)).toNat))), some (.inl ((v 212 ((((4 * e) + 2)).toNat)) - (v 219 ((t).toNat))))]) (st' := [.inl 1]) rfl ?_
        refine r_ret (rr := some (.inl 1)) (I := .ireturn) (pc0 := 69) (len := 1) rfl rfl ?_
        exact hQ (by first | assumption | omega | (unfold R32 at *; omega) | (unfold R64 at *; omega) | (simp only [R32, R64] at *; omega))
      · show WV _ _ _ 63 _ _ _ _ _
        rw [if_pos h_60] at hQ
        refine r_ex 2 (pc' := 69) (lo' := [some (.inr (.inr (some 203))), some (.inl e), some (.inl t), some (.inl (v 212 ((((4 * e) + 3)).toNat))), some (.inl ((v 212 ((((4 * e) + 2)).toNat)) - (v 219 ((t).toNat))))]) (st' := [.inl ((v 212 ((((4 * e) + 2)).toNat)) - (v 219 ((t).toNat)))]) rfl ?_
        refine r_ret (rr := some (.inl ((v 212 ((((4 * e) + 2)).toNat)) - (v 219 ((t).toNat))))) (I := .ireturn) (pc0 := 69) (len := 1) rfl rfl ?_
        exact hQ (by first | assumption | omega | (unfold R32 at *; omega) | (unfold R64 at *; omega) | (simp only [R32, R64] at *; omega))

theorem e_mo_takesOf {X : PX} {d b : Nat} {v : VS} {e : Int} {t : Int} (hX : XI v) (hp_a : 0 ≤ e ∧ e < 12) (hp_b : 0 ≤ t ∧ t < 300) : EvV X d 243 [.inr (.inr (some 203)), .inl e, .inl t] b v (some (.inl (mo_takesOf v e t))) b v := EvV.of (w_mo_takesOf hX hp_a hp_b (fun _ => ⟨rfl, rfl, rfl⟩))

theorem n_mo_takesOf {v : VS} {e : Int} {t : Int} (hX : XI v) (hp_a : 0 ≤ e ∧ e < 12) (hp_b : 0 ≤ t ∧ t < 300) : 0 ≤ (mo_takesOf v e t) ∧ (mo_takesOf v e t) ≤ 120 := by
  have q : WV (0, fun _ => 0, none) 0 243 0 [some (.inr (.inr (some 203))), some (.inl e), some (.inl t), none, none] [] 1 v (fun _ _ _ => 0 ≤ (mo_takesOf v e t) ∧ (mo_takesOf v e t) ≤ 120) := w_mo_takesOf (X := (0, fun _ => 0, none)) (d := 0) (b := 1) hX hp_a hp_b (fun q => q)
  obtain ⟨_, _, _, _, _, _, _, q⟩ := q
  exact q

def mo_isIn215_3 : Nat → VS → Int → Int → Int → Int → Int
  | 0, v, n, o, t, k => 0
  | f + 1, v, n, o, t, k => (if k < n then (if (v 215 (((3 * k)).toNat)) = o then (if t < (v 215 ((((3 * k) + 1)).toNat)) then (mo_isIn215_3 f v n o t (k + 1)) else (if (v 215 ((((3 * k) + 2)).toNat)) < t then (mo_isIn215_3 f v n o t (k + 1)) else 1)) else (mo_isIn215_3 f v n o t (k + 1))) else 0)
def mo_isIn215 (v : VS) (n : Int) (o : Int) (t : Int) : Int :=
  (mo_isIn215_3 7 v n o t 0)
theorem l_mo_isIn215_3 {X : PX} {d b : Nat} {Q : Option PV → Nat → VS → Prop}  : ∀ (f : Nat) (v : VS) (n : Int) (o : Int) (t : Int) (k : Int), XI v → (0 ≤ k ∧ k ≤ 6) → (0 ≤ n ∧ n ≤ 6) → (R32 o) → (R32 t) → (6 < k + f) → ((0 ≤ (mo_isIn215_3 f v n o t k) ∧ (mo_isIn215_3 f v n o t k) ≤ 1) → Q (some (.inl (mo_isIn215_3 f v n o t k))) b v) → WV X d 252 3 [some (.inr (.inr (some 215))), some (.inl n), some (.inl o), some (.inl t), some (.inl k)] [] b v Q := by
  intro f
  induction f with
  | zero =>
    intro v n o t k hX hi_0 hi_1 hi_2 hi_3 hf hQ
    exfalso
    omega
  | succ f ih =>
    intro v n o t k hX hi_0 hi_1 hi_2 hi_3 hf hQ
    rw [mo_isIn215_3] at hQ
    refine r_ex 2 (pc' := 6) (lo' := [some (.inr (.inr (some 215))), some (.inl n), some (.inl o), some (.inl t), some (.inl k)]) (st' := [.inl n, .inl k]) rfl ?_
    refine n_ic_ge (pc0 := 6) (len := 3) (t := 51) rfl (by first | assumption | omega | (unfold R32 at *; omega) | (unfold R64 at *; omega) | (simp only [R32, R64] at *; omega)) (by first | assumption | omega | (unfold R32 at *; omega) | (unfold R64 at *; omega) | (simp only [R32, R64] at *; omega)) (fun h_6 => ?_) (fun h_6 => ?_)
    · show WV _ _ _ 51 _ _ _ _ _
      rw [if_neg h_6] at hQ
      refine r_ex 1 (pc' := 52) (lo' := [some (.inr (.inr (some 215))), some (.inl n), some (.inl o), some (.inl t), some (.inl k)]) (st' := [.inl 0]) rfl ?_
      refine r_ret (rr := some (.inl 0)) (I := .ireturn) (pc0 := 52) (len := 1) rfl rfl ?_
      exact hQ (by first | assumption | omega | (unfold R32 at *; omega) | (unfold R64 at *; omega) | (simp only [R32, R64] at *; omega))
    · show WV _ _ _ 9 _ _ _ _ _
      rw [if_pos h_6] at hQ
      refine r_ex 4 (pc' := 14) (lo' := [some (.inr (.inr (some 215))), some (.inl n), some (.inl o), some (.inl t), some (.inl k)]) (st' := [.inl (3 * k), .inr (.inr (some 215))]) rfl ?_
      refine r_iald2 (j := 0) (x := (v 215 (((3 * k)).toNat))) (pc' := 15) (pc0 := 14) (len := 1) rfl (s_215 _) (by first | assumption | omega | (unfold R32 at *; omega) | (unfold R64 at *; omega) | (simp only [R32, R64] at *; omega)) (by decide) rfl rfl ?_
      have hb_1 : 0 ≤ (v 215 (((3 * k)).toNat)) ∧ (v 215 (((3 * k)).toNat)) ≤ 299 := hX 215 (((3 * k)).toNat)
      refine r_ex 1 (pc' := 16) (lo' := [some (.inr (.inr (some 215))), some (.inl n), some (.inl o), some (.inl t), some (.inl k)]) (st' := [.inl o, .inl (v 215 (((3 * k)).toNat))]) rfl ?_
      refine n_ic_ne (pc0 := 16) (len := 3) (t := 45) rfl (by first | assumption | omega | (unfold R32 at *; omega) | (unfold R64 at *; omega) | (simp only [R32, R64] at *; omega)) (by first | assumption | omega | (unfold R32 at *; omega) | (unfold R64 at *; omega) | (simp only [R32, R64] at *; omega)) (fun h_16 => ?_) (fun h_16 => ?_)
      · show WV _ _ _ 45 _ _ _ _ _
        rw [if_neg h_16] at hQ
        refine r_ex 2 (pc' := 3) (lo' := [some (.inr (.inr (some 215))), some (.inl n), some (.inl o), some (.inl t), some (.inl (k + 1))]) (st' := []) rfl ?_
        refine ih v n o t (k + 1)  hX (by first | assumption | omega | (unfold R32 at *; omega) | (unfold R64 at *; omega) | (simp only [R32, R64] at *; omega)) (by first | assumption | omega | (unfold R32 at *; omega) | (unfold R64 at *; omega) | (simp only [R32, R64] at *; omega)) (by first | assumption | omega | (unfold R32 at *; omega) | (unfold R64 at *; omega) | (simp only [R32, R64] at *; omega)) (by first | assumption | omega | (unfold R32 at *; omega) | (unfold R64 at *; omega) | (simp only [R32, R64] at *; omega)) (by first | assumption | omega | (unfold R32 at *; omega) | (unfold R64 at *; omega) | (simp only [R32, R64] at *; omega)) hQ
      · show WV _ _ _ 19 _ _ _ _ _
        rw [if_pos h_16] at hQ
        refine r_ex 7 (pc' := 27) (lo' := [some (.inr (.inr (some 215))), some (.inl n), some (.inl o), some (.inl t), some (.inl k)]) (st' := [.inl ((3 * k) + 1), .inr (.inr (some 215)), .inl t]) rfl ?_
        refine r_iald2 (j := 0) (x := (v 215 ((((3 * k) + 1)).toNat))) (pc' := 28) (pc0 := 27) (len := 1) rfl (s_215 _) (by first | assumption | omega | (unfold R32 at *; omega) | (unfold R64 at *; omega) | (simp only [R32, R64] at *; omega)) (by decide) rfl rfl ?_
        have hb_2 : 0 ≤ (v 215 ((((3 * k) + 1)).toNat)) ∧ (v 215 ((((3 * k) + 1)).toNat)) ≤ 299 := hX 215 ((((3 * k) + 1)).toNat)
        refine n_ic_lt (pc0 := 28) (len := 3) (t := 45) rfl (by first | assumption | omega | (unfold R32 at *; omega) | (unfold R64 at *; omega) | (simp only [R32, R64] at *; omega)) (by first | assumption | omega | (unfold R32 at *; omega) | (unfold R64 at *; omega) | (simp only [R32, R64] at *; omega)) (fun h_28 => ?_) (fun h_28 => ?_)
        · show WV _ _ _ 45 _ _ _ _ _
          rw [if_pos h_28] at hQ
          refine r_ex 2 (pc' := 3) (lo' := [some (.inr (.inr (some 215))), some (.inl n), some (.inl o), some (.inl t), some (.inl (k + 1))]) (st' := []) rfl ?_
          refine ih v n o t (k + 1)  hX (by first | assumption | omega | (unfold R32 at *; omega) | (unfold R64 at *; omega) | (simp only [R32, R64] at *; omega)) (by first | assumption | omega | (unfold R32 at *; omega) | (unfold R64 at *; omega) | (simp only [R32, R64] at *; omega)) (by first | assumption | omega | (unfold R32 at *; omega) | (unfold R64 at *; omega) | (simp only [R32, R64] at *; omega)) (by first | assumption | omega | (unfold R32 at *; omega) | (unfold R64 at *; omega) | (simp only [R32, R64] at *; omega)) (by first | assumption | omega | (unfold R32 at *; omega) | (unfold R64 at *; omega) | (simp only [R32, R64] at *; omega)) hQ
        · show WV _ _ _ 31 _ _ _ _ _
          rw [if_neg h_28] at hQ
          refine r_ex 7 (pc' := 39) (lo' := [some (.inr (.inr (some 215))), some (.inl n), some (.inl o), some (.inl t), some (.inl k)]) (st' := [.inl ((3 * k) + 2), .inr (.inr (some 215)), .inl t]) rfl ?_
          refine r_iald2 (j := 0) (x := (v 215 ((((3 * k) + 2)).toNat))) (pc' := 40) (pc0 := 39) (len := 1) rfl (s_215 _) (by first | assumption | omega | (unfold R32 at *; omega) | (unfold R64 at *; omega) | (simp only [R32, R64] at *; omega)) (by decide) rfl rfl ?_
          have hb_3 : 0 ≤ (v 215 ((((3 * k) + 2)).toNat)) ∧ (v 215 ((((3 * k) + 2)).toNat)) ≤ 299 := hX 215 ((((3 * k) + 2)).toNat)
          refine n_ic_gt (pc0 := 40) (len := 3) (t := 45) rfl (by first | assumption | omega | (unfold R32 at *; omega) | (unfold R64 at *; omega) | (simp only [R32, R64] at *; omega)) (by first | assumption | omega | (unfold R32 at *; omega) | (unfold R64 at *; omega) | (simp only [R32, R64] at *; omega)) (fun h_40 => ?_) (fun h_40 => ?_)
          · show WV _ _ _ 45 _ _ _ _ _
            rw [if_pos h_40] at hQ
            refine r_ex 2 (pc' := 3) (lo' := [some (.inr (.inr (some 215))), some (.inl n), some (.inl o), some (.inl t), some (.inl (k + 1))]) (st' := []) rfl ?_
            refine ih v n o t (k + 1)  hX (by first | assumption | omega | (unfold R32 at *; omega) | (unfold R64 at *; omega) | (simp only [R32, R64] at *; omega)) (by first | assumption | omega | (unfold R32 at *; omega) | (unfold R64 at *; omega) | (simp only [R32, R64] at *; omega)) (by first | assumption | omega | (unfold R32 at *; omega) | (unfold R64 at *; omega) | (simp only [R32, R64] at *; omega)) (by first | assumption | omega | (unfold R32 at *; omega) | (unfold R64 at *; omega) | (simp only [R32, R64] at *; omega)) (by first | assumption | omega | (unfold R32 at *; omega) | (unfold R64 at *; omega) | (simp only [R32, R64] at *; omega)) hQ
          · show WV _ _ _ 43 _ _ _ _ _
            rw [if_neg h_40] at hQ
            refine r_ex 1 (pc' := 44) (lo' := [some (.inr (.inr (some 215))), some (.inl n), some (.inl o), some (.inl t), some (.inl k)]) (st' := [.inl 1]) rfl ?_
            refine r_ret (rr := some (.inl 1)) (I := .ireturn) (pc0 := 44) (len := 1) rfl rfl ?_
            exact hQ (by first | assumption | omega | (unfold R32 at *; omega) | (unfold R64 at *; omega) | (simp only [R32, R64] at *; omega))

theorem w_mo_isIn215 {X : PX} {d b : Nat} {v : VS} {n : Int} {o : Int} {t : Int} (hX : XI v) (hp_a : 0 ≤ n ∧ n ≤ 6) (hp_b : R32 o) (hp_c : R32 t) {Q : Option PV → Nat → VS → Prop} (hQ : (0 ≤ (mo_isIn215 v n o t) ∧ (mo_isIn215 v n o t) ≤ 1) → Q (some (.inl (mo_isIn215 v n o t))) b v) : WV X d 252 0 [some (.inr (.inr (some 215))), some (.inl n), some (.inl o), some (.inl t), none] [] b v Q := by
  rw [mo_isIn215] at hQ
  refine r_ex 2 (pc' := 3) (lo' := [some (.inr (.inr (some 215))), some (.inl n), some (.inl o), some (.inl t), some (.inl 0)]) (st' := []) rfl ?_
  exact l_mo_isIn215_3 7 v n o t 0  hX (by first | assumption | omega | (unfold R32 at *; omega) | (unfold R64 at *; omega) | (simp only [R32, R64] at *; omega)) (by first | assumption | omega | (unfold R32 at *; omega) | (unfold R64 at *; omega) | (simp only [R32, R64] at *; omega)) (by first | assumption | omega | (unfold R32 at *; omega) | (unfold R64 at *; omega) | (simp only [R32, R64] at *; omega)) (by first | assumption | omega | (unfold R32 at *; omega) | (unfold R64 at *; omega) | (simp only [R32, R64] at *; omega)) (by first | assumption | omega | (unfold R32 at *; omega) | (unfold R64 at *; omega) | (simp only [R32, R64] at *; omega)) hQ

theorem e_mo_isIn215 {X : PX} {d b : Nat} {v : VS} {n : Int} {o : Int} {t : Int} (hX : XI v) (hp_a : 0 ≤ n ∧ n ≤ 6) (hp_b : R32 o) (hp_c : R32 t) : EvV X d 252 [.inr (.inr (some 215)), .inl n, .inl o, .inl t] b v (some (.inl (mo_isIn215 v n o t))) b v := EvV.of (w_mo_isIn215 hX hp_a hp_b hp_c (fun _ => ⟨rfl, rfl, rfl⟩))

theorem n_mo_isIn215 {v : VS} {n : Int} {o : Int} {t : Int} (hX : XI v) (hp_a : 0 ≤ n ∧ n ≤ 6) (hp_b : R32 o) (hp_c : R32 t) : 0 ≤ (mo_isIn215 v n o t) ∧ (mo_isIn215 v n o t) ≤ 1 := by
  have q : WV (0, fun _ => 0, none) 0 252 0 [some (.inr (.inr (some 215))), some (.inl n), some (.inl o), some (.inl t), none] [] 1 v (fun _ _ _ => 0 ≤ (mo_isIn215 v n o t) ∧ (mo_isIn215 v n o t) ≤ 1) := w_mo_isIn215 (X := (0, fun _ => 0, none)) (d := 0) (b := 1) hX hp_a hp_b hp_c (fun q => q)
  obtain ⟨_, _, _, _, _, _, _, q⟩ := q
  exact q

def mo_isIn216_3 : Nat → VS → Int → Int → Int → Int → Int
  | 0, v, n, o, t, k => 0
  | f + 1, v, n, o, t, k => (if k < n then (if (v 216 (((3 * k)).toNat)) = o then (if t < (v 216 ((((3 * k) + 1)).toNat)) then (mo_isIn216_3 f v n o t (k + 1)) else (if (v 216 ((((3 * k) + 2)).toNat)) < t then (mo_isIn216_3 f v n o t (k + 1)) else 1)) else (mo_isIn216_3 f v n o t (k + 1))) else 0)
def mo_isIn216 (v : VS) (n : Int) (o : Int) (t : Int) : Int :=
  (mo_isIn216_3 7 v n o t 0)
theorem l_mo_isIn216_3 {X : PX} {d b : Nat} {Q : Option PV → Nat → VS → Prop}  : ∀ (f : Nat) (v : VS) (n : Int) (o : Int) (t : Int) (k : Int), XI v → (0 ≤ k ∧ k ≤ 6) → (0 ≤ n ∧ n ≤ 6) → (R32 o) → (R32 t) → (6 < k + f) → ((0 ≤ (mo_isIn216_3 f v n o t k) ∧ (mo_isIn216_3 f v n o t k) ≤ 1) → Q (some (.inl (mo_isIn216_3 f v n o t k))) b v) → WV X d 252 3 [some (.inr (.inr (some 216))), some (.inl n), some (.inl o), some (.inl t), some (.inl k)] [] b v Q := by
  intro f
  induction f with
  | zero =>
    intro v n o t k hX hi_0 hi_1 hi_2 hi_3 hf hQ
    exfalso
    omega
  | succ f ih =>
    intro v n o t k hX hi_0 hi_1 hi_2 hi_3 hf hQ
    rw [mo_isIn216_3] at hQ
    refine r_ex 2 (pc' := 6) (lo' := [some (.inr (.inr (some 216))), some (.inl n), some (.inl o), some (.inl t), some (.inl k)]) (st' := [.inl n, .inl k]) rfl ?_
    refine n_ic_ge (pc0 := 6) (len := 3) (t := 51) rfl (by first | assumption | omega | (unfold R32 at *; omega) | (unfold R64 at *; omega) | (simp only [R32, R64] at *; omega)) (by first | assumption | omega | (unfold R32 at *; omega) | (unfold R64 at *; omega) | (simp only [R32, R64] at *; omega)) (fun h_6 => ?_) (fun h_6 => ?_)
    · show WV _ _ _ 51 _ _ _ _ _
      rw [if_neg h_6] at hQ
      refine r_ex 1 (pc' := 52) (lo' := [some (.inr (.inr (some 216))), some (.inl n), some (.inl o), some (.inl t), some (.inl k)]) (st' := [.inl 0]) rfl ?_
      refine r_ret (rr := some (.inl 0)) (I := .ireturn) (pc0 := 52) (len := 1) rfl rfl ?_
      exact hQ (by first | assumption | omega | (unfold R32 at *; omega) | (unfold R64 at *; omega) | (simp only [R32, R64] at *; omega))
    · show WV _ _ _ 9 _ _ _ _ _
      rw [if_pos h_6] at hQ
      refine r_ex 4 (pc' := 14) (lo' := [some (.inr (.inr (some 216))), some (.inl n), some (.inl o), some (.inl t), some (.inl k)]) (st' := [.inl (3 * k), .inr (.inr (some 216))]) rfl ?_
      refine r_iald2 (j := 0) (x := (v 216 (((3 * k)).toNat))) (pc' := 15) (pc0 := 14) (len := 1) rfl (s_216 _) (by first | assumption | omega | (unfold R32 at *; omega) | (unfold R64 at *; omega) | (simp only [R32, R64] at *; omega)) (by decide) rfl rfl ?_
      have hb_1 : 0 ≤ (v 216 (((3 * k)).toNat)) ∧ (v 216 (((3 * k)).toNat)) ≤ 299 := hX 216 (((3 * k)).toNat)
      refine r_ex 1 (pc' := 16) (lo' := [some (.inr (.inr (some 216))), some (.inl n), some (.inl o), some (.inl t), some (.inl k)]) (st' := [.inl o, .inl (v 216 (((3 * k)).toNat))]) rfl ?_
      refine n_ic_ne (pc0 := 16) (len := 3) (t := 45) rfl (by first | assumption | omega | (unfold R32 at *; omega) | (unfold R64 at *; omega) | (simp only [R32, R64] at *; omega)) (by first | assumption | omega | (unfold R32 at *; omega) | (unfold R64 at *; omega) | (simp only [R32, R64] at *; omega)) (fun h_16 => ?_) (fun h_16 => ?_)
      · show WV _ _ _ 45 _ _ _ _ _
        rw [if_neg h_16] at hQ
        refine r_ex 2 (pc' := 3) (lo' := [some (.inr (.inr (some 216))), some (.inl n), some (.inl o), some (.inl t), some (.inl (k + 1))]) (st' := []) rfl ?_
        refine ih v n o t (k + 1)  hX (by first | assumption | omega | (unfold R32 at *; omega) | (unfold R64 at *; omega) | (simp only [R32, R64] at *; omega)) (by first | assumption | omega | (unfold R32 at *; omega) | (unfold R64 at *; omega) | (simp only [R32, R64] at *; omega)) (by first | assumption | omega | (unfold R32 at *; omega) | (unfold R64 at *; omega) | (simp only [R32, R64] at *; omega)) (by first | assumption | omega | (unfold R32 at *; omega) | (unfold R64 at *; omega) | (simp only [R32, R64] at *; omega)) (by first | assumption | omega | (unfold R32 at *; omega) | (unfold R64 at *; omega) | (simp only [R32, R64] at *; omega)) hQ
      · show WV _ _ _ 19 _ _ _ _ _
        rw [if_pos h_16] at hQ
        refine r_ex 7 (pc' := 27) (lo' := [some (.inr (.inr (some 216))), some (.inl n), some (.inl o), some (.inl t), some (.inl k)]) (st' := [.inl ((3 * k) + 1), .inr (.inr (some 216)), .inl t]) rfl ?_
        refine r_iald2 (j := 0) (x := (v 216 ((((3 * k) + 1)).toNat))) (pc' := 28) (pc0 := 27) (len := 1) rfl (s_216 _) (by first | assumption | omega | (unfold R32 at *; omega) | (unfold R64 at *; omega) | (simp only [R32, R64] at *; omega)) (by decide) rfl rfl ?_
        have hb_2 : 0 ≤ (v 216 ((((3 * k) + 1)).toNat)) ∧ (v 216 ((((3 * k) + 1)).toNat)) ≤ 299 := hX 216 ((((3 * k) + 1)).toNat)
        refine n_ic_lt (pc0 := 28) (len := 3) (t := 45) rfl (by first | assumption | omega | (unfold R32 at *; omega) | (unfold R64 at *; omega) | (simp only [R32, R64] at *; omega)) (by first | assumption | omega | (unfold R32 at *; omega) | (unfold R64 at *; omega) | (simp only [R32, R64] at *; omega)) (fun h_28 => ?_) (fun h_28 => ?_)
        · show WV _ _ _ 45 _ _ _ _ _
          rw [if_pos h_28] at hQ
          refine r_ex 2 (pc' := 3) (lo' := [some (.inr (.inr (some 216))), some (.inl n), some (.inl o), some (.inl t), some (.inl (k + 1))]) (st' := []) rfl ?_
          refine ih v n o t (k + 1)  hX (by first | assumption | omega | (unfold R32 at *; omega) | (unfold R64 at *; omega) | (simp only [R32, R64] at *; omega)) (by first | assumption | omega | (unfold R32 at *; omega) | (unfold R64 at *; omega) | (simp only [R32, R64] at *; omega)) (by first | assumption | omega | (unfold R32 at *; omega) | (unfold R64 at *; omega) | (simp only [R32, R64] at *; omega)) (by first | assumption | omega | (unfold R32 at *; omega) | (unfold R64 at *; omega) | (simp only [R32, R64] at *; omega)) (by first | assumption | omega | (unfold R32 at *; omega) | (unfold R64 at *; omega) | (simp only [R32, R64] at *; omega)) hQ
        · show WV _ _ _ 31 _ _ _ _ _
          rw [if_neg h_28] at hQ
          refine r_ex 7 (pc' := 39) (lo' := [some (.inr (.inr (some 216))), some (.inl n), some (.inl o), some (.inl t), some (.inl k)]) (st' := [.inl ((3 * k) + 2), .inr (.inr (some 216)), .inl t]) rfl ?_
          refine r_iald2 (j := 0) (x := (v 216 ((((3 * k) + 2)).toNat))) (pc' := 40) (pc0 := 39) (len := 1) rfl (s_216 _) (by first | assumption | omega | (unfold R32 at *; omega) | (unfold R64 at *; omega) | (simp only [R32, R64] at *; omega)) (by decide) rfl rfl ?_
          have hb_3 : 0 ≤ (v 216 ((((3 * k) + 2)).toNat)) ∧ (v 216 ((((3 * k) + 2)).toNat)) ≤ 299 := hX 216 ((((3 * k) + 2)).toNat)
          refine n_ic_gt (pc0 := 40) (len := 3) (t := 45) rfl (by first | assumption | omega | (unfold R32 at *; omega) | (unfold R64 at *; omega) | (simp only [R32, R64] at *; omega)) (by first | assumption | omega | (unfold R32 at *; omega) | (unfold R64 at *; omega) | (simp only [R32, R64] at *; omega)) (fun h_40 => ?_) (fun h_40 => ?_)
          · show WV _ _ _ 45 _ _ _ _ _
            rw [if_pos h_40] at hQ
            refine r_ex 2 (pc' := 3) (lo' := [some (.inr (.inr (some 216))), some (.inl n), some (.inl o), some (.inl t), some (.inl (k + 1))]) (st' := []) rfl ?_
            refine ih v n o t (k + 1)  hX (by first | assumption | omega | (unfold R32 at *; omega) | (unfold R64 at *; omega) | (simp only [R32, R64] at *; omega)) (by first | assumption | omega | (unfold R32 at *; omega) | (unfold R64 at *; omega) | (simp only [R32, R64] at *; omega)) (by first | assumption | omega | (unfold R32 at *; omega) | (unfold R64 at *; omega) | (simp only [R32, R64] at *; omega)) (by first | assumption | omega | (unfold R32 at *; omega) | (unfold R64 at *; omega) | (simp only [R32, R64] at *; omega)) (by first | assumption | omega | (unfold R32 at *; omega) | (unfold R64 at *; omega) | (simp only [R32, R64] at *; omega)) hQ
          · show WV _ _ _ 43 _ _ _ _ _
            rw [if_neg h_40] at hQ
            refine r_ex 1 (pc' := 44) (lo' := [some (.inr (.inr (some 216))), some (.inl n), some (.inl o), some (.inl t), some (.inl k)]) (st' := [.inl 1]) rfl ?_
            refine r_ret (rr := some (.inl 1)) (I := .ireturn) (pc0 := 44) (len := 1) rfl rfl ?_
            exact hQ (by first | assumption | omega | (unfold R32 at *; omega) | (unfold R64 at *; omega) | (simp only [R32, R64] at *; omega))

theorem w_mo_isIn216 {X : PX} {d b : Nat} {v : VS} {n : Int} {o : Int} {t : Int} (hX : XI v) (hp_a : 0 ≤ n ∧ n ≤ 6) (hp_b : R32 o) (hp_c : R32 t) {Q : Option PV → Nat → VS → Prop} (hQ : (0 ≤ (mo_isIn216 v n o t) ∧ (mo_isIn216 v n o t) ≤ 1) → Q (some (.inl (mo_isIn216 v n o t))) b v) : WV X d 252 0 [some (.inr (.inr (some 216))), some (.inl n), some (.inl o), some (.inl t), none] [] b v Q := by
  rw [mo_isIn216] at hQ
  refine r_ex 2 (pc' := 3) (lo' := [some (.inr (.inr (some 216))), some (.inl n), some (.inl o), some (.inl t), some (.inl 0)]) (st' := []) rfl ?_
  exact l_mo_isIn216_3 7 v n o t 0  hX (by first | assumption | omega | (unfold R32 at *; omega) | (unfold R64 at *; omega) | (simp only [R32, R64] at *; omega)) (by first | assumption | omega | (unfold R32 at *; omega) | (unfold R64 at *; omega) | (simp only [R32, R64] at *; omega)) (by first | assumption | omega | (unfold R32 at *; omega) | (unfold R64 at *; omega) | (simp only [R32, R64] at *; omega)) (by first | assumption | omega | (unfold R32 at *; omega) | (unfold R64 at *; omega) | (simp only [R32, R64] at *; omega)) (by first | assumption | omega | (unfold R32 at *; omega) | (unfold R64 at *; omega) | (simp only [R32, R64] at *; omega)) hQ

theorem e_mo_isIn216 {X : PX} {d b : Nat} {v : VS} {n : Int} {o : Int} {t : Int} (hX : XI v) (hp_a : 0 ≤ n ∧ n ≤ 6) (hp_b : R32 o) (hp_c : R32 t) : EvV X d 252 [.inr (.inr (some 216)), .inl n, .inl o, .inl t] b v (some (.inl (mo_isIn216 v n o t))) b v := EvV.of (w_mo_isIn216 hX hp_a hp_b hp_c (fun _ => ⟨rfl, rfl, rfl⟩))

theorem n_mo_isIn216 {v : VS} {n : Int} {o : Int} {t : Int} (hX : XI v) (hp_a : 0 ≤ n ∧ n ≤ 6) (hp_b : R32 o) (hp_c : R32 t) : 0 ≤ (mo_isIn216 v n o t) ∧ (mo_isIn216 v n o t) ≤ 1 := by
  have q : WV (0, fun _ => 0, none) 0 252 0 [some (.inr (.inr (some 216))), some (.inl n), some (.inl o), some (.inl t), none] [] 1 v (fun _ _ _ => 0 ≤ (mo_isIn216 v n o t) ∧ (mo_isIn216 v n o t) ≤ 1) := w_mo_isIn216 (X := (0, fun _ => 0, none)) (d := 0) (b := 1) hX hp_a hp_b hp_c (fun q => q)
  obtain ⟨_, _, _, _, _, _, _, q⟩ := q
  exact q

def mo_isIn217_3 : Nat → VS → Int → Int → Int → Int → Int
  | 0, v, n, o, t, k => 0
  | f + 1, v, n, o, t, k => (if k < n then (if (v 217 (((3 * k)).toNat)) = o then (if t < (v 217 ((((3 * k) + 1)).toNat)) then (mo_isIn217_3 f v n o t (k + 1)) else (if (v 217 ((((3 * k) + 2)).toNat)) < t then (mo_isIn217_3 f v n o t (k + 1)) else 1)) else (mo_isIn217_3 f v n o t (k + 1))) else 0)
def mo_isIn217 (v : VS) (n : Int) (o : Int) (t : Int) : Int :=
  (mo_isIn217_3 7 v n o t 0)
theorem l_mo_isIn217_3 {X : PX} {d b : Nat} {Q : Option PV → Nat → VS → Prop}  : ∀ (f : Nat) (v : VS) (n : Int) (o : Int) (t : Int) (k : Int), XI v → (0 ≤ k ∧ k ≤ 6) → (0 ≤ n ∧ n ≤ 6) → (R32 o) → (R32 t) → (6 < k + f) → ((0 ≤ (mo_isIn217_3 f v n o t k) ∧ (mo_isIn217_3 f v n o t k) ≤ 1) → Q (some (.inl (mo_isIn217_3 f v n o t k))) b v) → WV X d 252 3 [some (.inr (.inr (some 217))), some (.inl n), some (.inl o), some (.inl t), some (.inl k)] [] b v Q := by
  intro f
  induction f with
  | zero =>
    intro v n o t k hX hi_0 hi_1 hi_2 hi_3 hf hQ
    exfalso
    omega
  | succ f ih =>
    intro v n o t k hX hi_0 hi_1 hi_2 hi_3 hf hQ
    rw [mo_isIn217_3] at hQ
    refine r_ex 2 (pc' := 6) (lo' := [some (.inr (.inr (some 217))), some (.inl n), some (.inl o), some (.inl t), some (.inl k)]) (st' := [.inl n, .inl k]) rfl ?_
    refine n_ic_ge (pc0 := 6) (len := 3) (t := 51) rfl (by first | assumption | omega | (unfold R32 at *; omega) | (unfold R64 at *; omega) | (simp only [R32, R64] at *; omega)) (by first | assumption | omega | (unfold R32 at *; omega) | (unfold R64 at *; omega) | (simp only [R32, R64] at *; omega)) (fun h_6 => ?_) (fun h_6 => ?_)
    · show WV _ _ _ 51 _ _ _ _ _
      rw [if_neg h_6] at hQ
      refine r_ex 1 (pc' := 52) (lo' := [some (.inr (.inr (some 217))), some (.inl n), some (.inl o), some (.inl t), some (.inl k)]) (st' := [.inl 0]) rfl ?_
      refine r_ret (rr := some (.inl 0)) (I := .ireturn) (pc0 := 52) (len := 1) rfl rfl ?_
      exact hQ (by first | assumption | omega | (unfold R32 at *; omega) | (unfold R64 at *; omega) | (simp only [R32, R64] at *; omega))
    · show WV _ _ _ 9 _ _ _ _ _
      rw [if_pos h_6] at hQ
      refine r_ex 4 (pc' := 14) (lo' := [some (.inr (.inr (some 217))), some (.inl n), some (.inl o), some (.inl t), some (.inl k)]) (st' := [.inl (3 * k), .inr (.inr (some 217))]) rfl ?_
      refine r_iald2 (j := 0) (x := (v 217 (((3 * k)).toNat))) (pc' := 15) (pc0 := 14) (len := 1) rfl (s_217 _) (by first | assumption | omega | (unfold R32 at *; omega) | (unfold R64 at *; omega) | (simp only [R32, R64] at *; omega)) (by decide) rfl rfl ?_
      have hb_1 : 0 ≤ (v 217 (((3 * k)).toNat)) ∧ (v 217 (((3 * k)).toNat)) ≤ 299 := hX 217 (((3 * k)).toNat)
      refine r_ex 1 (pc' := 16) (lo' := [some (.inr (.inr (some 217))), some (.inl n), some (.inl o), some (.inl t), some (.inl k)]) (st' := [.inl o, .inl (v 217 (((3 * k)).toNat))]) rfl ?_
      refine n_ic_ne (pc0 := 16) (len := 3) (t := 45) rfl (by first | assumption | omega | (unfold R32 at *; omega) | (unfold R64 at *; omega) | (simp only [R32, R64] at *; omega)) (by first | assumption | omega | (unfold R32 at *; omega) | (unfold R64 at *; omega) | (simp only [R32, R64] at *; omega)) (fun h_16 => ?_) (fun h_16 => ?_)
      · show WV _ _ _ 45 _ _ _ _ _
        rw [if_neg h_16] at hQ
        refine r_ex 2 (pc' := 3) (lo' := [some (.inr (.inr (some 217))), some (.inl n), some (.inl o), some (.inl t), some (.inl (k + 1))]) (st' := []) rfl ?_
        refine ih v n o t (k + 1)  hX (by first | assumption | omega | (unfold R32 at *; omega) | (unfold R64 at *; omega) | (simp only [R32, R64] at *; omega)) (by first | assumption | omega | (unfold R32 at *; omega) | (unfold R64 at *; omega) | (simp only [R32, R64] at *; omega)) (by first | assumption | omega | (unfold R32 at *; omega) | (unfold R64 at *; omega) | (simp only [R32, R64] at *; omega)) (by first | assumption | omega | (unfold R32 at *; omega) | (unfold R64 at *; omega) | (simp only [R32, R64] at *; omega)) (by first | assumption | omega | (unfold R32 at *; omega) | (unfold R64 at *; omega) | (simp only [R32, R64] at *; omega)) hQ
      · show WV _ _ _ 19 _ _ _ _ _
        rw [if_pos h_16] at hQ
        refine r_ex 7 (pc' := 27) (lo' := [some (.inr (.inr (some 217))), some (.inl n), some (.inl o), some (.inl t), some (.inl k)]) (st' := [.inl ((3 * k) + 1), .inr (.inr (some 217)), .inl t]) rfl ?_
        refine r_iald2 (j := 0) (x := (v 217 ((((3 * k) + 1)).toNat))) (pc' := 28) (pc0 := 27) (len := 1) rfl (s_217 _) (by first | assumption | omega | (unfold R32 at *; omega) | (unfold R64 at *; omega) | (simp only [R32, R64] at *; omega)) (by decide) rfl rfl ?_
        have hb_2 : 0 ≤ (v 217 ((((3 * k) + 1)).toNat)) ∧ (v 217 ((((3 * k) + 1)).toNat)) ≤ 299 := hX 217 ((((3 * k) + 1)).toNat)
        refine n_ic_lt (pc0 := 28) (len := 3) (t := 45) rfl (by first | assumption | omega | (unfold R32 at *; omega) | (unfold R64 at *; omega) | (simp only [R32, R64] at *; omega)) (by first | assumption | omega | (unfold R32 at *; omega) | (unfold R64 at *; omega) | (simp only [R32, R64] at *; omega)) (fun h_28 => ?_) (fun h_28 => ?_)
        · show WV _ _ _ 45 _ _ _ _ _
          rw [if_pos h_28] at hQ
          refine r_ex 2 (pc' := 3) (lo' := [some (.inr (.inr (some 217))), some (.inl n), some (.inl o), some (.inl t), some (.inl (k + 1))]) (st' := []) rfl ?_
          refine ih v n o t (k + 1)  hX (by first | assumption | omega | (unfold R32 at *; omega) | (unfold R64 at *; omega) | (simp only [R32, R64] at *; omega)) (by first | assumption | omega | (unfold R32 at *; omega) | (unfold R64 at *; omega) | (simp only [R32, R64] at *; omega)) (by first | assumption | omega | (unfold R32 at *; omega) | (unfold R64 at *; omega) | (simp only [R32, R64] at *; omega)) (by first | assumption | omega | (unfold R32 at *; omega) | (unfold R64 at *; omega) | (simp only [R32, R64] at *; omega)) (by first | assumption | omega | (unfold R32 at *; omega) | (unfold R64 at *; omega) | (simp only [R32, R64] at *; omega)) hQ
        · show WV _ _ _ 31 _ _ _ _ _
          rw [if_neg h_28] at hQ
          refine r_ex 7 (pc' := 39) (lo' := [some (.inr (.inr (some 217))), some (.inl n), some (.inl o), some (.inl t), some (.inl k)]) (st' := [.inl ((3 * k) + 2), .inr (.inr (some 217)), .inl t]) rfl ?_
          refine r_iald2 (j := 0) (x := (v 217 ((((3 * k) + 2)).toNat))) (pc' := 40) (pc0 := 39) (len := 1) rfl (s_217 _) (by first | assumption | omega | (unfold R32 at *; omega) | (unfold R64 at *; omega) | (simp only [R32, R64] at *; omega)) (by decide) rfl rfl ?_
          have hb_3 : 0 ≤ (v 217 ((((3 * k) + 2)).toNat)) ∧ (v 217 ((((3 * k) + 2)).toNat)) ≤ 299 := hX 217 ((((3 * k) + 2)).toNat)
          refine n_ic_gt (pc0 := 40) (len := 3) (t := 45) rfl (by first | assumption | omega | (unfold R32 at *; omega) | (unfold R64 at *; omega) | (simp only [R32, R64] at *; omega)) (by first | assumption | omega | (unfold R32 at *; omega) | (unfold R64 at *; omega) | (simp only [R32, R64] at *; omega)) (fun h_40 => ?_) (fun h_40 => ?_)
          · show WV _ _ _ 45 _ _ _ _ _
            rw [if_pos h_40] at hQ
            refine r_ex 2 (pc' := 3) (lo' := [some (.inr (.inr (some 217))), some (.inl n), some (.inl o), some (.inl t), some (.inl (k + 1))]) (st' := []) rfl ?_
            refine ih v n o t (k + 1)  hX (by first | assumption | omega | (unfold R32 at *; omega) | (unfold R64 at *; omega) | (simp only [R32, R64] at *; omega)) (by first | assumption | omega | (unfold R32 at *; omega) | (unfold R64 at *; omega) | (simp only [R32, R64] at *; omega)) (by first | assumption | omega | (unfold R32 at *; omega) | (unfold R64 at *; omega) | (simp only [R32, R64] at *; omega)) (by first | assumption | omega | (unfold R32 at *; omega) | (unfold R64 at *; omega) | (simp only [R32, R64] at *; omega)) (by first | assumption | omega | (unfold R32 at *; omega) | (unfold R64 at *; omega) | (simp only [R32, R64] at *; omega)) hQ
          · show WV _ _ _ 43 _ _ _ _ _
            rw [if_neg h_40] at hQ
            refine r_ex 1 (pc' := 44) (lo' := [some (.inr (.inr (some 217))), some (.inl n), some (.inl o), some (.inl t), some (.inl k)]) (st' := [.inl 1]) rfl ?_
            refine r_ret (rr := some (.inl 1)) (I := .ireturn) (pc0 := 44) (len := 1) rfl rfl ?_
            exact hQ (by first | assumption | omega | (unfold R32 at *; omega) | (unfold R64 at *; omega) | (simp only [R32, R64] at *; omega))

theorem w_mo_isIn217 {X : PX} {d b : Nat} {v : VS} {n : Int} {o : Int} {t : Int} (hX : XI v) (hp_a : 0 ≤ n ∧ n ≤ 6) (hp_b : R32 o) (hp_c : R32 t) {Q : Option PV → Nat → VS → Prop} (hQ : (0 ≤ (mo_isIn217 v n o t) ∧ (mo_isIn217 v n o t) ≤ 1) → Q (some (.inl (mo_isIn217 v n o t))) b v) : WV X d 252 0 [some (.inr (.inr (some 217))), some (.inl n), some (.inl o), some (.inl t), none] [] b v Q := by
  rw [mo_isIn217] at hQ
  refine r_ex 2 (pc' := 3) (lo' := [some (.inr (.inr (some 217))), some (.inl n), some (.inl o), some (.inl t), some (.inl 0)]) (st' := []) rfl ?_
  exact l_mo_isIn217_3 7 v n o t 0  hX (by first | assumption | omega | (unfold R32 at *; omega) | (unfold R64 at *; omega) | (simp only [R32, R64] at *; omega)) (by first | assumption | omega | (unfold R32 at *; omega) | (unfold R64 at *; omega) | (simp only [R32, R64] at *; omega)) (by first | assumption | omega | (unfold R32 at *; omega) | (unfold R64 at *; omega) | (simp only [R32, R64] at *; omega)) (by first | assumption | omega | (unfold R32 at *; omega) | (unfold R64 at *; omega) | (simp only [R32, R64] at *; omega)) (by first | assumption | omega | (unfold R32 at *; omega) | (unfold R64 at *; omega) | (simp only [R32, R64] at *; omega)) hQ

theorem e_mo_isIn217 {X : PX} {d b : Nat} {v : VS} {n : Int} {o : Int} {t : Int} (hX : XI v) (hp_a : 0 ≤ n ∧ n ≤ 6) (hp_b : R32 o) (hp_c : R32 t) : EvV X d 252 [.inr (.inr (some 217)), .inl n, .inl o, .inl t] b v (some (.inl (mo_isIn217 v n o t))) b v := EvV.of (w_mo_isIn217 hX hp_a hp_b hp_c (fun _ => ⟨rfl, rfl, rfl⟩))

theorem n_mo_isIn217 {v : VS} {n : Int} {o : Int} {t : Int} (hX : XI v) (hp_a : 0 ≤ n ∧ n ≤ 6) (hp_b : R32 o) (hp_c : R32 t) : 0 ≤ (mo_isIn217 v n o t) ∧ (mo_isIn217 v n o t) ≤ 1 := by
  have q : WV (0, fun _ => 0, none) 0 252 0 [some (.inr (.inr (some 217))), some (.inl n), some (.inl o), some (.inl t), none] [] 1 v (fun _ _ _ => 0 ≤ (mo_isIn217 v n o t) ∧ (mo_isIn217 v n o t) ≤ 1) := w_mo_isIn217 (X := (0, fun _ => 0, none)) (d := 0) (b := 1) hX hp_a hp_b hp_c (fun q => q)
  obtain ⟨_, _, _, _, _, _, _, q⟩ := q
  exact q
