/-! the reader: words -/
def cl_isLetter (v : VS) (i : Int) : Int :=
  (if i < (v 2 4) then (if (v 1 ((i).toNat)) < 97 then 0 else (if 122 < (v 1 ((i).toNat)) then 0 else 1)) else 0)
theorem w_cl_isLetter {X : PX} {d : Nat} {v : VS} {i : Int} (hX : XI v) (hp_a : 0 ≤ i ∧ i ≤ 2000) {Q : Option PV → Nat → VS → Prop} (hQ : Q (some (.inl (cl_isLetter v i))) 1 v) : WV X d 22 0 [some (.inr (.inr (some 2))), some (.inl i)] [] 1 v Q := by
  rw [cl_isLetter] at hQ
  refine r_ex 3 (pc' := 5) (lo' := [some (.inr (.inr (some 2))), some (.inl i)]) (st' := [.inl (v 2 4), .inl i]) rfl ?_
  have hb_1 : 0 ≤ (v 2 4) ∧ (v 2 4) ≤ 2000 := hX 2 4
  refine n_ic_ge (pc0 := 5) (len := 3) (t := 34) rfl (by first | assumption | omega | (unfold R32 at *; omega) | (unfold R64 at *; omega) | (simp only [R32, R64] at *; omega)) (by first | assumption | omega | (unfold R32 at *; omega) | (unfold R64 at *; omega) | (simp only [R32, R64] at *; omega)) (fun h_5 => ?_) (fun h_5 => ?_)
  · show WV _ _ _ 34 _ _ _ _ _
    rw [if_neg h_5] at hQ
    refine r_ex 1 (pc' := 35) (lo' := [some (.inr (.inr (some 2))), some (.inl i)]) (st' := [.inl 0]) rfl ?_
    refine r_ret (rr := some (.inl 0)) (I := .ireturn) (pc0 := 35) (len := 1) rfl rfl ?_
    exact hQ 
  · show WV _ _ _ 8 _ _ _ _ _
    rw [if_pos h_5] at hQ
    refine r_ex 3 (pc' := 13) (lo' := [some (.inr (.inr (some 2))), some (.inl i)]) (st' := [.inl i, .inr (.inr (some 1))]) rfl ?_
    refine r_bald2 (x := (v 1 ((i).toNat))) (pc' := 14) (pc0 := 13) (len := 1) rfl (s_1 _) (Or.inl rfl) (by first | assumption | omega | (unfold R32 at *; omega) | (unfold R64 at *; omega) | (simp only [R32, R64] at *; omega)) (by decide) rfl rfl ?_
    have hb_2 : -128 ≤ (v 1 ((i).toNat)) ∧ (v 1 ((i).toNat)) ≤ 127 := hX 1 ((i).toNat)
    refine r_ex 1 (pc' := 16) (lo' := [some (.inr (.inr (some 2))), some (.inl i)]) (st' := [.inl 97, .inl (v 1 ((i).toNat))]) rfl ?_
    refine n_ic_lt (pc0 := 16) (len := 3) (t := 34) rfl (by first | assumption | omega | (unfold R32 at *; omega) | (unfold R64 at *; omega) | (simp only [R32, R64] at *; omega)) (by first | assumption | omega | (unfold R32 at *; omega) | (unfold R64 at *; omega) | (simp only [R32, R64] at *; omega)) (fun h_16 => ?_) (fun h_16 => ?_)
    · show WV _ _ _ 34 _ _ _ _ _
      rw [if_pos h_16] at hQ
      refine r_ex 1 (pc' := 35) (lo' := [some (.inr (.inr (some 2))), some (.inl i)]) (st' := [.inl 0]) rfl ?_
      refine r_ret (rr := some (.inl 0)) (I := .ireturn) (pc0 := 35) (len := 1) rfl rfl ?_
      exact hQ 
    · show WV _ _ _ 19 _ _ _ _ _
      rw [if_neg h_16] at hQ
      refine r_ex 3 (pc' := 24) (lo' := [some (.inr (.inr (some 2))), some (.inl i)]) (st' := [.inl i, .inr (.inr (some 1))]) rfl ?_
      refine r_bald2 (x := (v 1 ((i).toNat))) (pc' := 25) (pc0 := 24) (len := 1) rfl (s_1 _) (Or.inl rfl) (by first | assumption | omega | (unfold R32 at *; omega) | (unfold R64 at *; omega) | (simp only [R32, R64] at *; omega)) (by decide) rfl rfl ?_
      refine r_ex 1 (pc' := 27) (lo' := [some (.inr (.inr (some 2))), some (.inl i)]) (st' := [.inl 122, .inl (v 1 ((i).toNat))]) rfl ?_
      refine n_ic_gt (pc0 := 27) (len := 3) (t := 34) rfl (by first | assumption | omega | (unfold R32 at *; omega) | (unfold R64 at *; omega) | (simp only [R32, R64] at *; omega)) (by first | assumption | omega | (unfold R32 at *; omega) | (unfold R64 at *; omega) | (simp only [R32, R64] at *; omega)) (fun h_27 => ?_) (fun h_27 => ?_)
      · show WV _ _ _ 34 _ _ _ _ _
        rw [if_pos h_27] at hQ
        refine r_ex 1 (pc' := 35) (lo' := [some (.inr (.inr (some 2))), some (.inl i)]) (st' := [.inl 0]) rfl ?_
        refine r_ret (rr := some (.inl 0)) (I := .ireturn) (pc0 := 35) (len := 1) rfl rfl ?_
        exact hQ 
      · show WV _ _ _ 30 _ _ _ _ _
        rw [if_neg h_27] at hQ
        refine r_ex 2 (pc' := 35) (lo' := [some (.inr (.inr (some 2))), some (.inl i)]) (st' := [.inl 1]) rfl ?_
        refine r_ret (rr := some (.inl 1)) (I := .ireturn) (pc0 := 35) (len := 1) rfl rfl ?_
        exact hQ 

theorem q_cl_isLetter {X : PX} {d : Nat} {v : VS} {i : Int} (hX : XI v) (hp_a : 0 ≤ i ∧ i ≤ 2000) : EvV X d 22 [.inr (.inr (some 2)), .inl i] 1 v (some (.inl (cl_isLetter v i))) 1 v := EvV.of (w_cl_isLetter hX hp_a (⟨rfl, rfl, rfl⟩))

theorem p_cl_isLetter {v : VS} {i : Int} : (cl_isLetter v i) = (if i < v 2 4 ∧ 97 ≤ v 1 i.toNat ∧ v 1 i.toNat ≤ 122 then 1 else 0) := by
  unfold cl_isLetter
  repeat' split
  all_goals omega

theorem e_cl_isLetter {X : PX} {d : Nat} {v : VS} {i : Int} (hX : XI v) (hp_a : 0 ≤ i ∧ i ≤ 2000) : EvV X d 22 [.inr (.inr (some 2)), .inl i] 1 v (some (.inl (if i < v 2 4 ∧ 97 ≤ v 1 i.toNat ∧ v 1 i.toNat ≤ 122 then 1 else 0))) 1 v := by
  rw [← p_cl_isLetter]
  exact q_cl_isLetter hX hp_a

def cl_isDigit (v : VS) (i : Int) : Int :=
  (if i < (v 2 4) then (if (v 1 ((i).toNat)) < 48 then 0 else (if 57 < (v 1 ((i).toNat)) then 0 else 1)) else 0)
theorem w_cl_isDigit {X : PX} {d : Nat} {v : VS} {i : Int} (hX : XI v) (hp_a : 0 ≤ i ∧ i ≤ 2000) {Q : Option PV → Nat → VS → Prop} (hQ : Q (some (.inl (cl_isDigit v i))) 1 v) : WV X d 23 0 [some (.inr (.inr (some 2))), some (.inl i)] [] 1 v Q := by
  rw [cl_isDigit] at hQ
  refine r_ex 3 (pc' := 5) (lo' := [some (.inr (.inr (some 2))), some (.inl i)]) (st' := [.inl (v 2 4), .inl i]) rfl ?_
  have hb_1 : 0 ≤ (v 2 4) ∧ (v 2 4) ≤ 2000 := hX 2 4
  refine n_ic_ge (pc0 := 5) (len := 3) (t := 34) rfl (by first | assumption | omega | (unfold R32 at *; omega) | (unfold R64 at *; omega) | (simp only [R32, R64] at *; omega)) (by first | assumption | omega | (unfold R32 at *; omega) | (unfold R64 at *; omega) | (simp only [R32, R64] at *; omega)) (fun h_5 => ?_) (fun h_5 => ?_)
  · show WV _ _ _ 34 _ _ _ _ _
    rw [if_neg h_5] at hQ
    refine r_ex 1 (pc' := 35) (lo' := [some (.inr (.inr (some 2))), some (.inl i)]) (st' := [.inl 0]) rfl ?_
    refine r_ret (rr := some (.inl 0)) (I := .ireturn) (pc0 := 35) (len := 1) rfl rfl ?_
    exact hQ 
  · show WV _ _ _ 8 _ _ _ _ _
    rw [if_pos h_5] at hQ
    refine r_ex 3 (pc' := 13) (lo' := [some (.inr (.inr (some 2))), some (.inl i)]) (st' := [.inl i, .inr (.inr (some 1))]) rfl ?_
    refine r_bald2 (x := (v 1 ((i).toNat))) (pc' := 14) (pc0 := 13) (len := 1) rfl (s_1 _) (Or.inl rfl) (by first | assumption | omega | (unfold R32 at *; omega) | (unfold R64 at *; omega) | (simp only [R32, R64] at *; omega)) (by decide) rfl rfl ?_
    have hb_2 : -128 ≤ (v 1 ((i).toNat)) ∧ (v 1 ((i).toNat)) ≤ 127 := hX 1 ((i).toNat)
    refine r_ex 1 (pc' := 16) (lo' := [some (.inr (.inr (some 2))), some (.inl i)]) (st' := [.inl 48, .inl (v 1 ((i).toNat))]) rfl ?_
    refine n_ic_lt (pc0 := 16) (len := 3) (t := 34) rfl (by first | assumption | omega | (unfold R32 at *; omega) | (unfold R64 at *; omega) | (simp only [R32, R64] at *; omega)) (by first | assumption | omega | (unfold R32 at *; omega) | (unfold R64 at *; omega) | (simp only [R32, R64] at *; omega)) (fun h_16 => ?_) (fun h_16 => ?_)
    · show WV _ _ _ 34 _ _ _ _ _
      rw [if_pos h_16] at hQ
      refine r_ex 1 (pc' := 35) (lo' := [some (.inr (.inr (some 2))), some (.inl i)]) (st' := [.inl 0]) rfl ?_
      refine r_ret (rr := some (.inl 0)) (I := .ireturn) (pc0 := 35) (len := 1) rfl rfl ?_
      exact hQ 
    · show WV _ _ _ 19 _ _ _ _ _
      rw [if_neg h_16] at hQ
      refine r_ex 3 (pc' := 24) (lo' := [some (.inr (.inr (some 2))), some (.inl i)]) (st' := [.inl i, .inr (.inr (some 1))]) rfl ?_
      refine r_bald2 (x := (v 1 ((i).toNat))) (pc' := 25) (pc0 := 24) (len := 1) rfl (s_1 _) (Or.inl rfl) (by first | assumption | omega | (unfold R32 at *; omega) | (unfold R64 at *; omega) | (simp only [R32, R64] at *; omega)) (by decide) rfl rfl ?_
      refine r_ex 1 (pc' := 27) (lo' := [some (.inr (.inr (some 2))), some (.inl i)]) (st' := [.inl 57, .inl (v 1 ((i).toNat))]) rfl ?_
      refine n_ic_gt (pc0 := 27) (len := 3) (t := 34) rfl (by first | assumption | omega | (unfold R32 at *; omega) | (unfold R64 at *; omega) | (simp only [R32, R64] at *; omega)) (by first | assumption | omega | (unfold R32 at *; omega) | (unfold R64 at *; omega) | (simp only [R32, R64] at *; omega)) (fun h_27 => ?_) (fun h_27 => ?_)
      · show WV _ _ _ 34 _ _ _ _ _
        rw [if_pos h_27] at hQ
        refine r_ex 1 (pc' := 35) (lo' := [some (.inr (.inr (some 2))), some (.inl i)]) (st' := [.inl 0]) rfl ?_
        refine r_ret (rr := some (.inl 0)) (I := .ireturn) (pc0 := 35) (len := 1) rfl rfl ?_
        exact hQ 
      · show WV _ _ _ 30 _ _ _ _ _
        rw [if_neg h_27] at hQ
        refine r_ex 2 (pc' := 35) (lo' := [some (.inr (.inr (some 2))), some (.inl i)]) (st' := [.inl 1]) rfl ?_
        refine r_ret (rr := some (.inl 1)) (I := .ireturn) (pc0 := 35) (len := 1) rfl rfl ?_
        exact hQ 

theorem q_cl_isDigit {X : PX} {d : Nat} {v : VS} {i : Int} (hX : XI v) (hp_a : 0 ≤ i ∧ i ≤ 2000) : EvV X d 23 [.inr (.inr (some 2)), .inl i] 1 v (some (.inl (cl_isDigit v i))) 1 v := EvV.of (w_cl_isDigit hX hp_a (⟨rfl, rfl, rfl⟩))

theorem p_cl_isDigit {v : VS} {i : Int} : (cl_isDigit v i) = (if i < v 2 4 ∧ 48 ≤ v 1 i.toNat ∧ v 1 i.toNat ≤ 57 then 1 else 0) := by
  unfold cl_isDigit
  repeat' split
  all_goals omega

theorem e_cl_isDigit {X : PX} {d : Nat} {v : VS} {i : Int} (hX : XI v) (hp_a : 0 ≤ i ∧ i ≤ 2000) : EvV X d 23 [.inr (.inr (some 2)), .inl i] 1 v (some (.inl (if i < v 2 4 ∧ 48 ≤ v 1 i.toNat ∧ v 1 i.toNat ≤ 57 then 1 else 0))) 1 v := by
  rw [← p_cl_isDigit]
  exact q_cl_isDigit hX hp_a

def cl_advance_8 : Nat → VS → VS
  | 0, v => v
  | f + 1, v => (if (v 2 6) < (v 2 4) then (if (v 1 (((v 2 6)).toNat)) = 32 then (cl_advance_8 f (v2 v 2 6 ((v 2 6) + 1))) else (if (v 1 (((v 2 6)).toNat)) = 10 then (cl_advance_8 f (v2 v 2 6 ((v 2 6) + 1))) else v)) else v)
def cl_advance_103 : Nat → VS → VS
  | 0, v => v
  | f + 1, v => (if (v 2 7) < (v 2 4) then (if (v 2 7) < v 2 4 ∧ 97 ≤ v 1 (v 2 7).toNat ∧ v 1 (v 2 7).toNat ≤ 122 then (cl_advance_103 f (v2 v 2 7 ((v 2 7) + 1))) else v) else v)
def cl_advance_159 : Nat → VS → VS
  | 0, v => v
  | f + 1, v => (if (v 2 7) < (v 2 4) then (if (v 2 7) < v 2 4 ∧ 48 ≤ v 1 (v 2 7).toNat ∧ v 1 (v 2 7).toNat ≤ 57 then (cl_advance_159 f (v2 (v2 v 2 8 (min 1000000 ((((v 2 8) * 10) + (v 1 (((v 2 7)).toNat))) - 48))) 2 7 ((v 2 7) + 1))) else v) else v)
def cl_advance (v : VS)  : VS :=
  (if ((cl_advance_8 2001 (v2 v 2 6 (v 2 7))) 2 6) < ((cl_advance_8 2001 (v2 v 2 6 (v 2 7))) 2 4) then (if ((cl_advance_8 2001 (v2 v 2 6 (v 2 7))) 2 6) < (v2 (cl_advance_8 2001 (v2 v 2 6 (v 2 7))) 2 7 ((cl_advance_8 2001 (v2 v 2 6 (v 2 7))) 2 6)) 2 4 ∧ 97 ≤ (v2 (cl_advance_8 2001 (v2 v 2 6 (v 2 7))) 2 7 ((cl_advance_8 2001 (v2 v 2 6 (v 2 7))) 2 6)) 1 ((cl_advance_8 2001 (v2 v 2 6 (v 2 7))) 2 6).toNat ∧ (v2 (cl_advance_8 2001 (v2 v 2 6 (v 2 7))) 2 7 ((cl_advance_8 2001 (v2 v 2 6 (v 2 7))) 2 6)) 1 ((cl_advance_8 2001 (v2 v 2 6 (v 2 7))) 2 6).toNat ≤ 122 then (cl_advance_103 2001 (v2 (v2 (cl_advance_8 2001 (v2 v 2 6 (v 2 7))) 2 7 ((cl_advance_8 2001 (v2 v 2 6 (v 2 7))) 2 6)) 2 5 1)) else (if ((cl_advance_8 2001 (v2 v 2 6 (v 2 7))) 2 6) < (v2 (cl_advance_8 2001 (v2 v 2 6 (v 2 7))) 2 7 ((cl_advance_8 2001 (v2 v 2 6 (v 2 7))) 2 6)) 2 4 ∧ 48 ≤ (v2 (cl_advance_8 2001 (v2 v 2 6 (v 2 7))) 2 7 ((cl_advance_8 2001 (v2 v 2 6 (v 2 7))) 2 6)) 1 ((cl_advance_8 2001 (v2 v 2 6 (v 2 7))) 2 6).toNat ∧ (v2 (cl_advance_8 2001 (v2 v 2 6 (v 2 7))) 2 7 ((cl_advance_8 2001 (v2 v 2 6 (v 2 7))) 2 6)) 1 ((cl_advance_8 2001 (v2 v 2 6 (v 2 7))) 2 6).toNat ≤ 57 then (cl_advance_159 2001 (v2 (v2 (v2 (cl_advance_8 2001 (v2 v 2 6 (v 2 7))) 2 7 ((cl_advance_8 2001 (v2 v 2 6 (v 2 7))) 2 6)) 2 5 2) 2 8 0)) else (if ((cl_advance_8 2001 (v2 v 2 6 (v 2 7))) 1 ((((cl_advance_8 2001 (v2 v 2 6 (v 2 7))) 2 6)).toNat)) = 59 then (v2 (v2 (v2 (cl_advance_8 2001 (v2 v 2 6 (v 2 7))) 2 7 ((cl_advance_8 2001 (v2 v 2 6 (v 2 7))) 2 6)) 2 5 3) 2 7 (((cl_advance_8 2001 (v2 v 2 6 (v 2 7))) 2 6) + 1)) else (v2 (v2 (v2 (cl_advance_8 2001 (v2 v 2 6 (v 2 7))) 2 7 ((cl_advance_8 2001 (v2 v 2 6 (v 2 7))) 2 6)) 2 5 4) 2 7 (((cl_advance_8 2001 (v2 v 2 6 (v 2 7))) 2 6) + 1))))) else (v2 (v2 (cl_advance_8 2001 (v2 v 2 6 (v 2 7))) 2 7 ((cl_advance_8 2001 (v2 v 2 6 (v 2 7))) 2 6)) 2 5 0))
theorem l_cl_advance_8 {X : PX} {d : Nat} {Q : Option PV → Nat → VS → Prop}  : ∀ (f : Nat) (v : VS) , XI v → ((v 2 6) ≤ (v 2 4)) → (2000 < (v 2 6) + f) → (XI (cl_advance_8 f v) → (((cl_advance_8 f v) 2 6) ≤ ((cl_advance_8 f v) 2 4)) → WV X (d + 1) 21 60 [some (.inr (.inr (some 2)))] [] 1 (cl_advance_8 f v) Q) → WV X (d + 1) 21 8 [some (.inr (.inr (some 2)))] [] 1 v Q := by
  intro f
  induction f with
  | zero =>
    intro v hX hi_0 hf hK
    have hz6 : 0 ≤ v 2 6 ∧ v 2 6 ≤ 2000 := hX 2 6
    have hz7 : 0 ≤ v 2 7 ∧ v 2 7 ≤ 2001 := hX 2 7
    have hz4 : 0 ≤ v 2 4 ∧ v 2 4 ≤ 2000 := hX 2 4
    have hz6 : 0 ≤ v 2 6 ∧ v 2 6 ≤ 2000 := hX 2 6
    exfalso
    omega
  | succ f ih =>
    intro v hX hi_0 hf hK
    rw [cl_advance_8] at hK
    have hz6 : 0 ≤ v 2 6 ∧ v 2 6 ≤ 2000 := hX 2 6
    have hz7 : 0 ≤ v 2 7 ∧ v 2 7 ≤ 2001 := hX 2 7
    have hz4 : 0 ≤ v 2 4 ∧ v 2 4 ≤ 2000 := hX 2 4
    refine r_ex 4 (pc' := 16) (lo' := [some (.inr (.inr (some 2)))]) (st' := [.inl (v 2 4), .inl (v 2 6)]) rfl ?_
    have hb_3 : 0 ≤ (v 2 6) ∧ (v 2 6) ≤ 2000 := hX 2 6
    have hb_4 : 0 ≤ (v 2 4) ∧ (v 2 4) ≤ 2000 := hX 2 4
    refine n_ic_ge (pc0 := 16) (len := 3) (t := 60) rfl (by first | assumption | omega | (unfold R32 at *; omega) | (unfold R64 at *; omega) | (simp only [R32, R64] at *; omega)) (by first | assumption | omega | (unfold R32 at *; omega) | (unfold R64 at *; omega) | (simp only [R32, R64] at *; omega)) (fun h_16 => ?_) (fun h_16 => ?_)
    · show WV _ _ _ 60 _ _ _ _ _
      rw [if_neg h_16] at hK
      exact hK  hX (show (v 2 6) ≤ (v 2 4) from (by first | assumption | omega | (unfold R32 at *; omega) | (unfold R64 at *; omega) | (simp only [R32, R64] at *; omega)))
    · show WV _ _ _ 19 _ _ _ _ _
      rw [if_pos h_16] at hK
      refine r_ex 4 (pc' := 27) (lo' := [some (.inr (.inr (some 2)))]) (st' := [.inl (v 2 6), .inr (.inr (some 1))]) rfl ?_
      refine r_bald2 (x := (v 1 (((v 2 6)).toNat))) (pc' := 28) (pc0 := 27) (len := 1) rfl (s_1 _) (Or.inl rfl) (by first | assumption | omega | (unfold R32 at *; omega) | (unfold R64 at *; omega) | (simp only [R32, R64] at *; omega)) (by decide) rfl rfl ?_
      have hb_5 : -128 ≤ (v 1 (((v 2 6)).toNat)) ∧ (v 1 (((v 2 6)).toNat)) ≤ 127 := hX 1 (((v 2 6)).toNat)
      refine r_ex 1 (pc' := 30) (lo' := [some (.inr (.inr (some 2)))]) (st' := [.inl 32, .inl (v 1 (((v 2 6)).toNat))]) rfl ?_
      refine n_ic_eq (pc0 := 30) (len := 3) (t := 47) rfl (by first | assumption | omega | (unfold R32 at *; omega) | (unfold R64 at *; omega) | (simp only [R32, R64] at *; omega)) (by first | assumption | omega | (unfold R32 at *; omega) | (unfold R64 at *; omega) | (simp only [R32, R64] at *; omega)) (fun h_30 => ?_) (fun h_30 => ?_)
      · show WV _ _ _ 47 _ _ _ _ _
        rw [if_pos h_30] at hK
        refine r_ex 5 (pc' := 54) (lo' := [some (.inr (.inr (some 2)))]) (st' := [.inl ((v 2 6) + 1), .inr (.inr (some 2))]) rfl ?_
        refine r_puti2 (j := 6) (pc' := 57) (pc0 := 54) (len := 3) rfl (s_2 _) rfl rfl rfl (Or.inl rfl) rfl rfl ?_
        have hX_6 : XI (v2 v 2 6 ((v 2 6) + 1)) := XI.put hX (show 0 ≤ ((v 2 6) + 1) ∧ ((v 2 6) + 1) ≤ 2000 from (by first | assumption | omega | (unfold R32 at *; omega) | (unfold R64 at *; omega) | (simp only [R32, R64] at *; omega)))
        refine r_ex 1 (pc' := 8) (lo' := [some (.inr (.inr (some 2)))]) (st' := []) rfl ?_
        refine ih (v2 v 2 6 ((v 2 6) + 1))   hX_6 (show ((v 2 6) + 1) ≤ (v 2 4) from (by first | assumption | omega | (unfold R32 at *; omega) | (unfold R64 at *; omega) | (simp only [R32, R64] at *; omega))) (show 2000 < ((v 2 6) + 1) + f from (by first | assumption | omega | (unfold R32 at *; omega) | (unfold R64 at *; omega) | (simp only [R32, R64] at *; omega))) hK
      · show WV _ _ _ 33 _ _ _ _ _
        rw [if_neg h_30] at hK
        refine r_ex 4 (pc' := 41) (lo' := [some (.inr (.inr (some 2)))]) (st' := [.inl (v 2 6), .inr (.inr (some 1))]) rfl ?_
        refine r_bald2 (x := (v 1 (((v 2 6)).toNat))) (pc' := 42) (pc0 := 41) (len := 1) rfl (s_1 _) (Or.inl rfl) (by first | assumption | omega | (unfold R32 at *; omega) | (unfold R64 at *; omega) | (simp only [R32, R64] at *; omega)) (by decide) rfl rfl ?_
        refine r_ex 1 (pc' := 44) (lo' := [some (.inr (.inr (some 2)))]) (st' := [.inl 10, .inl (v 1 (((v 2 6)).toNat))]) rfl ?_
        refine n_ic_ne (pc0 := 44) (len := 3) (t := 60) rfl (by first | assumption | omega | (unfold R32 at *; omega) | (unfold R64 at *; omega) | (simp only [R32, R64] at *; omega)) (by first | assumption | omega | (unfold R32 at *; omega) | (unfold R64 at *; omega) | (simp only [R32, R64] at *; omega)) (fun h_44 => ?_) (fun h_44 => ?_)
        · show WV _ _ _ 60 _ _ _ _ _
          rw [if_neg h_44] at hK
          exact hK  hX (show (v 2 6) ≤ (v 2 4) from (by first | assumption | omega | (unfold R32 at *; omega) | (unfold R64 at *; omega) | (simp only [R32, R64] at *; omega)))
        · show WV _ _ _ 47 _ _ _ _ _
          rw [if_pos h_44] at hK
          refine r_ex 5 (pc' := 54) (lo' := [some (.inr (.inr (some 2)))]) (st' := [.inl ((v 2 6) + 1), .inr (.inr (some 2))]) rfl ?_
          refine r_puti2 (j := 6) (pc' := 57) (pc0 := 54) (len := 3) rfl (s_2 _) rfl rfl rfl (Or.inl rfl) rfl rfl ?_
          have hX_7 : XI (v2 v 2 6 ((v 2 6) + 1)) := XI.put hX (show 0 ≤ ((v 2 6) + 1) ∧ ((v 2 6) + 1) ≤ 2000 from (by first | assumption | omega | (unfold R32 at *; omega) | (unfold R64 at *; omega) | (simp only [R32, R64] at *; omega)))
          refine r_ex 1 (pc' := 8) (lo' := [some (.inr (.inr (some 2)))]) (st' := []) rfl ?_
          refine ih (v2 v 2 6 ((v 2 6) + 1))   hX_7 (show ((v 2 6) + 1) ≤ (v 2 4) from (by first | assumption | omega | (unfold R32 at *; omega) | (unfold R64 at *; omega) | (simp only [R32, R64] at *; omega))) (show 2000 < ((v 2 6) + 1) + f from (by first | assumption | omega | (unfold R32 at *; omega) | (unfold R64 at *; omega) | (simp only [R32, R64] at *; omega))) hK

theorem of_cl_advance_8 {rk : Nat} (hk : (rk < 2 ∨ 2 < rk)) : ∀ (f : Nat) {v : VS} , (cl_advance_8 f v ) rk = v rk := by
  intro f
  induction f with
  | zero => intro v ; rfl
  | succ f ih =>
    intro v 
    rw [cl_advance_8]
    by_cases hc_ : (v 2 6) < (v 2 4)
    · rw [if_pos hc_]
      by_cases hc_ : (v 1 (((v 2 6)).toNat)) = 32
      · rw [if_pos hc_]
        all_goals (rw [ih, v2_row (by omega)])
      · rw [if_neg hc_]
        by_cases hc_ : (v 1 (((v 2 6)).toNat)) = 10
        · rw [if_pos hc_]
          all_goals (rw [ih, v2_row (by omega)])
        · rw [if_neg hc_]
          all_goals (show v rk = _)
          all_goals rfl
    · rw [if_neg hc_]
      all_goals (show v rk = _)
      all_goals rfl
theorem o_cl_advance_8 {rk : Nat} {f : Nat} {v : VS}  (hk : (rk < 2 ∨ 2 < rk)) : (cl_advance_8 f v ) rk = v rk := of_cl_advance_8 hk f

theorem l_cl_advance_103 {X : PX} {d : Nat} {Q : Option PV → Nat → VS → Prop}  : ∀ (f : Nat) (v : VS) , XI v → ((v 2 7) ≤ (v 2 4)) → (2000 < (v 2 7) + f) → (XI (cl_advance_103 f v) → (((cl_advance_103 f v) 2 7) ≤ ((cl_advance_103 f v) 2 4)) → Q none 1 (cl_advance_103 f v)) → WV X (d + 1) 21 103 [some (.inr (.inr (some 2)))] [] 1 v Q := by
  intro f
  induction f with
  | zero =>
    intro v hX hi_0 hf hQ
    have hz6 : 0 ≤ v 2 6 ∧ v 2 6 ≤ 2000 := hX 2 6
    have hz7 : 0 ≤ v 2 7 ∧ v 2 7 ≤ 2001 := hX 2 7
    have hz4 : 0 ≤ v 2 4 ∧ v 2 4 ≤ 2000 := hX 2 4
    have hz7 : 0 ≤ v 2 7 ∧ v 2 7 ≤ 2001 := hX 2 7
    have hz4 : 0 ≤ v 2 4 ∧ v 2 4 ≤ 2000 := hX 2 4
    exfalso
    omega
  | succ f ih =>
    intro v hX hi_0 hf hQ
    rw [cl_advance_103] at hQ
    have hz6 : 0 ≤ v 2 6 ∧ v 2 6 ≤ 2000 := hX 2 6
    have hz7 : 0 ≤ v 2 7 ∧ v 2 7 ≤ 2001 := hX 2 7
    have hz4 : 0 ≤ v 2 4 ∧ v 2 4 ≤ 2000 := hX 2 4
    refine r_ex 4 (pc' := 111) (lo' := [some (.inr (.inr (some 2)))]) (st' := [.inl (v 2 4), .inl (v 2 7)]) rfl ?_
    have hb_16 : 0 ≤ (v 2 7) ∧ (v 2 7) ≤ 2001 := hX 2 7
    have hb_17 : 0 ≤ (v 2 4) ∧ (v 2 4) ≤ 2000 := hX 2 4
    refine n_ic_ge (pc0 := 111) (len := 3) (t := 256) rfl (by first | assumption | omega | (unfold R32 at *; omega) | (unfold R64 at *; omega) | (simp only [R32, R64] at *; omega)) (by first | assumption | omega | (unfold R32 at *; omega) | (unfold R64 at *; omega) | (simp only [R32, R64] at *; omega)) (fun h_111 => ?_) (fun h_111 => ?_)
    · show WV _ _ _ 256 _ _ _ _ _
      rw [if_neg h_111] at hQ
      refine r_ret (rr := none) (I := .return_) (pc0 := 256) (len := 1) rfl rfl ?_
      exact hQ hX (show (v 2 7) ≤ (v 2 4) from (by first | assumption | omega | (unfold R32 at *; omega) | (unfold R64 at *; omega) | (simp only [R32, R64] at *; omega)))
    · show WV _ _ _ 114 _ _ _ _ _
      rw [if_pos h_111] at hQ
      refine r_ex 3 (pc' := 119) (lo' := [some (.inr (.inr (some 2)))]) (st' := [.inl (v 2 7), .inr (.inr (some 2))]) rfl ?_
      have hp_18 : 0 ≤ (v 2 7) ∧ (v 2 7) ≤ 2000 := (by first | assumption | omega | (unfold R32 at *; omega) | (unfold R64 at *; omega) | (simp only [R32, R64] at *; omega))
      have hb_19 : 0 ≤ v 2 4 ∧ v 2 4 ≤ 2000 := hX 2 4
      refine r_callb (P := (v 2 7) < v 2 4 ∧ 97 ≤ v 1 (v 2 7).toNat ∧ v 1 (v 2 7).toNat ≤ 122) (m := 22) (args := [.inr (.inr (some 2)), .inl (v 2 7)]) (n' := 21) (pc' := 122) (lo' := [some (.inr (.inr (some 2)))]) (st' := []) (I := .invokevirtual 22) (pc0 := 119) (len := 3) rfl rfl rfl (e_cl_isLetter hX hp_18) (fun h_119 => ?_) (fun h_119 => ?_)
      · show WV _ _ _ 122 _ _ _ _ _
        rw [if_pos h_119] at hQ
        refine r_ex 6 (pc' := 132) (lo' := [some (.inr (.inr (some 2)))]) (st' := [.inl ((v 2 7) + 1), .inr (.inr (some 2))]) rfl ?_
        refine r_puti2 (j := 7) (pc' := 135) (pc0 := 132) (len := 3) rfl (s_2 _) rfl rfl rfl (Or.inl rfl) rfl rfl ?_
        have hX_20 : XI (v2 v 2 7 ((v 2 7) + 1)) := XI.put hX (show 0 ≤ ((v 2 7) + 1) ∧ ((v 2 7) + 1) ≤ 2001 from (by first | assumption | omega | (unfold R32 at *; omega) | (unfold R64 at *; omega) | (simp only [R32, R64] at *; omega)))
        refine r_ex 1 (pc' := 103) (lo' := [some (.inr (.inr (some 2)))]) (st' := []) rfl ?_
        refine ih (v2 v 2 7 ((v 2 7) + 1))   hX_20 (show ((v 2 7) + 1) ≤ (v 2 4) from (by first | assumption | omega | (unfold R32 at *; omega) | (unfold R64 at *; omega) | (simp only [R32, R64] at *; omega))) (show 2000 < ((v 2 7) + 1) + f from (by first | assumption | omega | (unfold R32 at *; omega) | (unfold R64 at *; omega) | (simp only [R32, R64] at *; omega))) hQ
      · show WV _ _ _ 122 _ _ _ _ _
        rw [if_neg h_119] at hQ
        refine r_ex 1 (pc' := 256) (lo' := [some (.inr (.inr (some 2)))]) (st' := []) rfl ?_
        refine r_ret (rr := none) (I := .return_) (pc0 := 256) (len := 1) rfl rfl ?_
        exact hQ hX (show (v 2 7) ≤ (v 2 4) from (by first | assumption | omega | (unfold R32 at *; omega) | (unfold R64 at *; omega) | (simp only [R32, R64] at *; omega)))

theorem of_cl_advance_103 {rk : Nat} (hk : (rk < 2 ∨ 2 < rk)) : ∀ (f : Nat) {v : VS} , (cl_advance_103 f v ) rk = v rk := by
  intro f
  induction f with
  | zero => intro v ; rfl
  | succ f ih =>
    intro v 
    rw [cl_advance_103]
    by_cases hc_ : (v 2 7) < (v 2 4)
    · rw [if_pos hc_]
      by_cases hc_ : (v 2 7) < v 2 4 ∧ 97 ≤ v 1 (v 2 7).toNat ∧ v 1 (v 2 7).toNat ≤ 122
      · rw [if_pos hc_]
        all_goals (rw [ih, v2_row (by omega)])
      · rw [if_neg hc_]
        all_goals (show v rk = _)
        all_goals rfl
    · rw [if_neg hc_]
      all_goals (show v rk = _)
      all_goals rfl
theorem o_cl_advance_103 {rk : Nat} {f : Nat} {v : VS}  (hk : (rk < 2 ∨ 2 < rk)) : (cl_advance_103 f v ) rk = v rk := of_cl_advance_103 hk f

theorem l_cl_advance_159 {X : PX} {d : Nat} {Q : Option PV → Nat → VS → Prop}  : ∀ (f : Nat) (v : VS) , XI v → ((v 2 7) ≤ (v 2 4)) → (2000 < (v 2 7) + f) → (XI (cl_advance_159 f v) → (((cl_advance_159 f v) 2 7) ≤ ((cl_advance_159 f v) 2 4)) → Q none 1 (cl_advance_159 f v)) → WV X (d + 1) 21 159 [some (.inr (.inr (some 2)))] [] 1 v Q := by
  intro f
  induction f with
  | zero =>
    intro v hX hi_0 hf hQ
    have hz6 : 0 ≤ v 2 6 ∧ v 2 6 ≤ 2000 := hX 2 6
    have hz7 : 0 ≤ v 2 7 ∧ v 2 7 ≤ 2001 := hX 2 7
    have hz4 : 0 ≤ v 2 4 ∧ v 2 4 ≤ 2000 := hX 2 4
    have hz7 : 0 ≤ v 2 7 ∧ v 2 7 ≤ 2001 := hX 2 7
    have hz4 : 0 ≤ v 2 4 ∧ v 2 4 ≤ 2000 := hX 2 4
    exfalso
    omega
  | succ f ih =>
    intro v hX hi_0 hf hQ
    rw [cl_advance_159] at hQ
    have hz6 : 0 ≤ v 2 6 ∧ v 2 6 ≤ 2000 := hX 2 6
    have hz7 : 0 ≤ v 2 7 ∧ v 2 7 ≤ 2001 := hX 2 7
    have hz4 : 0 ≤ v 2 4 ∧ v 2 4 ≤ 2000 := hX 2 4
    refine r_ex 4 (pc' := 167) (lo' := [some (.inr (.inr (some 2)))]) (st' := [.inl (v 2 4), .inl (v 2 7)]) rfl ?_
    have hb_24 : 0 ≤ (v 2 7) ∧ (v 2 7) ≤ 2001 := hX 2 7
    have hb_25 : 0 ≤ (v 2 4) ∧ (v 2 4) ≤ 2000 := hX 2 4
    refine n_ic_ge (pc0 := 167) (len := 3) (t := 256) rfl (by first | assumption | omega | (unfold R32 at *; omega) | (unfold R64 at *; omega) | (simp only [R32, R64] at *; omega)) (by first | assumption | omega | (unfold R32 at *; omega) | (unfold R64 at *; omega) | (simp only [R32, R64] at *; omega)) (fun h_167 => ?_) (fun h_167 => ?_)
    · show WV _ _ _ 256 _ _ _ _ _
      rw [if_neg h_167] at hQ
      refine r_ret (rr := none) (I := .return_) (pc0 := 256) (len := 1) rfl rfl ?_
      exact hQ hX (show (v 2 7) ≤ (v 2 4) from (by first | assumption | omega | (unfold R32 at *; omega) | (unfold R64 at *; omega) | (simp only [R32, R64] at *; omega)))
    · show WV _ _ _ 170 _ _ _ _ _
      rw [if_pos h_167] at hQ
      refine r_ex 3 (pc' := 175) (lo' := [some (.inr (.inr (some 2)))]) (st' := [.inl (v 2 7), .inr (.inr (some 2))]) rfl ?_
      have hp_26 : 0 ≤ (v 2 7) ∧ (v 2 7) ≤ 2000 := (by first | assumption | omega | (unfold R32 at *; omega) | (unfold R64 at *; omega) | (simp only [R32, R64] at *; omega))
      have hb_27 : 0 ≤ v 2 4 ∧ v 2 4 ≤ 2000 := hX 2 4
      refine r_callb (P := (v 2 7) < v 2 4 ∧ 48 ≤ v 1 (v 2 7).toNat ∧ v 1 (v 2 7).toNat ≤ 57) (m := 23) (args := [.inr (.inr (some 2)), .inl (v 2 7)]) (n' := 21) (pc' := 178) (lo' := [some (.inr (.inr (some 2)))]) (st' := []) (I := .invokevirtual 23) (pc0 := 175) (len := 3) rfl rfl rfl (e_cl_isDigit hX hp_26) (fun h_175 => ?_) (fun h_175 => ?_)
      · show WV _ _ _ 178 _ _ _ _ _
        rw [if_pos h_175] at hQ
        refine r_ex 11 (pc' := 199) (lo' := [some (.inr (.inr (some 2)))]) (st' := [.inl (v 2 7), .inr (.inr (some 1)), .inl ((v 2 8) * 10), .inl 1000000, .inr (.inr (some 2))]) rfl ?_
        have hb_28 : 0 ≤ (v 2 8) ∧ (v 2 8) ≤ 1000000 := hX 2 8
        refine r_bald2 (x := (v 1 (((v 2 7)).toNat))) (pc' := 200) (pc0 := 199) (len := 1) rfl (s_1 _) (Or.inl rfl) (by first | assumption | omega | (unfold R32 at *; omega) | (unfold R64 at *; omega) | (simp only [R32, R64] at *; omega)) (by decide) rfl rfl ?_
        have hb_29 : -128 ≤ (v 1 (((v 2 7)).toNat)) ∧ (v 1 (((v 2 7)).toNat)) ≤ 127 := hX 1 (((v 2 7)).toNat)
        refine r_ex 3 (pc' := 204) (lo' := [some (.inr (.inr (some 2)))]) (st' := [.inl ((((v 2 8) * 10) + (v 1 (((v 2 7)).toNat))) - 48), .inl 1000000, .inr (.inr (some 2))]) rfl ?_
        refine r_prim (x := .inl (if w32 ((((v 2 8) * 10) + (v 1 (((v 2 7)).toNat))) - 48) < w32 1000000 then ((((v 2 8) * 10) + (v 1 (((v 2 7)).toNat))) - 48) else 1000000)) (m := 18) (args := [.inl 1000000, .inl ((((v 2 8) * 10) + (v 1 (((v 2 7)).toNat))) - 48)]) (n' := 21) (pc' := 207) (lo' := [some (.inr (.inr (some 2)))]) (st' := [.inr (.inr (some 2))]) (I := .invokestatic 18) (pc0 := 204) (len := 3) rfl rfl rfl ?_
        rw [mn32 (by first | assumption | omega | (unfold R32 at *; omega) | (unfold R64 at *; omega) | (simp only [R32, R64] at *; omega)) (by first | assumption | omega | (unfold R32 at *; omega) | (unfold R64 at *; omega) | (simp only [R32, R64] at *; omega))]
        refine r_puti2 (j := 8) (pc' := 210) (pc0 := 207) (len := 3) rfl (s_2 _) rfl rfl rfl (Or.inl rfl) rfl rfl ?_
        have hX_30 : XI (v2 v 2 8 (min 1000000 ((((v 2 8) * 10) + (v 1 (((v 2 7)).toNat))) - 48))) := XI.put hX (show 0 ≤ (min 1000000 ((((v 2 8) * 10) + (v 1 (((v 2 7)).toNat))) - 48)) ∧ (min 1000000 ((((v 2 8) * 10) + (v 1 (((v 2 7)).toNat))) - 48)) ≤ 1000000 from (by first | assumption | omega | (unfold R32 at *; omega) | (unfold R64 at *; omega) | (simp only [R32, R64] at *; omega)))
        refine r_ex 5 (pc' := 217) (lo' := [some (.inr (.inr (some 2)))]) (st' := [.inl ((v 2 7) + 1), .inr (.inr (some 2))]) rfl ?_
        have hb_31 : 0 ≤ (v 2 7) ∧ (v 2 7) ≤ 2001 := hX_30 2 7
        refine r_puti2 (j := 7) (pc' := 220) (pc0 := 217) (len := 3) rfl (s_2 _) rfl rfl rfl (Or.inl rfl) rfl rfl ?_
        have hX_32 : XI (v2 (v2 v 2 8 (min 1000000 ((((v 2 8) * 10) + (v 1 (((v 2 7)).toNat))) - 48))) 2 7 ((v 2 7) + 1)) := XI.put hX_30 (show 0 ≤ ((v 2 7) + 1) ∧ ((v 2 7) + 1) ≤ 2001 from (by first | assumption | omega | (unfold R32 at *; omega) | (unfold R64 at *; omega) | (simp only [R32, R64] at *; omega)))
        refine r_ex 1 (pc' := 159) (lo' := [some (.inr (.inr (some 2)))]) (st' := []) rfl ?_
        refine ih (v2 (v2 v 2 8 (min 1000000 ((((v 2 8) * 10) + (v 1 (((v 2 7)).toNat))) - 48))) 2 7 ((v 2 7) + 1))   hX_32 (show ((v 2 7) + 1) ≤ (v 2 4) from (by first | assumption | omega | (unfold R32 at *; omega) | (unfold R64 at *; omega) | (simp only [R32, R64] at *; omega))) (show 2000 < ((v 2 7) + 1) + f from (by first | assumption | omega | (unfold R32 at *; omega) | (unfold R64 at *; omega) | (simp only [R32, R64] at *; omega))) hQ
      · show WV _ _ _ 178 _ _ _ _ _
        rw [if_neg h_175] at hQ
        refine r_ex 1 (pc' := 256) (lo' := [some (.inr (.inr (some 2)))]) (st' := []) rfl ?_
        refine r_ret (rr := none) (I := .return_) (pc0 := 256) (len := 1) rfl rfl ?_
        exact hQ hX (show (v 2 7) ≤ (v 2 4) from (by first | assumption | omega | (unfold R32 at *; omega) | (unfold R64 at *; omega) | (simp only [R32, R64] at *; omega)))

theorem of_cl_advance_159 {rk : Nat} (hk : (rk < 2 ∨ 2 < rk)) : ∀ (f : Nat) {v : VS} , (cl_advance_159 f v ) rk = v rk := by
  intro f
  induction f with
  | zero => intro v ; rfl
  | succ f ih =>
    intro v 
    rw [cl_advance_159]
    by_cases hc_ : (v 2 7) < (v 2 4)
    · rw [if_pos hc_]
      by_cases hc_ : (v 2 7) < v 2 4 ∧ 48 ≤ v 1 (v 2 7).toNat ∧ v 1 (v 2 7).toNat ≤ 57
      · rw [if_pos hc_]
        all_goals (rw [ih, v2_row (by omega), v2_row (by omega)])
      · rw [if_neg hc_]
        all_goals (show v rk = _)
        all_goals rfl
    · rw [if_neg hc_]
      all_goals (show v rk = _)
      all_goals rfl
theorem o_cl_advance_159 {rk : Nat} {f : Nat} {v : VS}  (hk : (rk < 2 ∨ 2 < rk)) : (cl_advance_159 f v ) rk = v rk := of_cl_advance_159 hk f

theorem w_cl_advance {X : PX} {d : Nat} {v : VS}  (hX : XI v) (hp_a : (v 2 7) ≤ (v 2 4)) {Q : Option PV → Nat → VS → Prop} (hQ : XI (cl_advance v) → (((cl_advance v) 2 7) ≤ ((cl_advance v) 2 4)) → Q none 1 (cl_advance v)) : WV X (d + 1) 21 0 [some (.inr (.inr (some 2)))] [] 1 v Q := by
  rw [cl_advance] at hQ
  have hz6 : 0 ≤ v 2 6 ∧ v 2 6 ≤ 2000 := hX 2 6
  have hz7 : 0 ≤ v 2 7 ∧ v 2 7 ≤ 2001 := hX 2 7
  have hz4 : 0 ≤ v 2 4 ∧ v 2 4 ≤ 2000 := hX 2 4
  refine r_ex 3 (pc' := 5) (lo' := [some (.inr (.inr (some 2)))]) (st' := [.inl (v 2 7), .inr (.inr (some 2))]) rfl ?_
  have hb_1 : 0 ≤ (v 2 7) ∧ (v 2 7) ≤ 2001 := hX 2 7
  refine r_puti2 (j := 6) (pc' := 8) (pc0 := 5) (len := 3) rfl (s_2 _) rfl rfl rfl (Or.inl rfl) rfl rfl ?_
  have hX_2 : XI (v2 v 2 6 (v 2 7)) := XI.put hX (show 0 ≤ (v 2 7) ∧ (v 2 7) ≤ 2000 from (by first | assumption | omega | (unfold R32 at *; omega) | (unfold R64 at *; omega) | (simp only [R32, R64] at *; omega)))
  refine l_cl_advance_8 2001 (v2 v 2 6 (v 2 7))   hX_2 (show (v 2 7) ≤ (v 2 4) from (by first | assumption | omega | (unfold R32 at *; omega) | (unfold R64 at *; omega) | (simp only [R32, R64] at *; omega))) (show 2000 < (v 2 7) + (2001 : Nat) from (by first | assumption | omega | (unfold R32 at *; omega) | (unfold R64 at *; omega) | (simp only [R32, R64] at *; omega))) (fun  hX_8 hv_8_0 => ?_)
  show WV _ _ _ 60 _ _ _ _ _
  refine r_ex 3 (pc' := 65) (lo' := [some (.inr (.inr (some 2)))]) (st' := [.inl ((cl_advance_8 2001 (v2 v 2 6 (v 2 7))) 2 6), .inr (.inr (some 2))]) rfl ?_
  have hb_9 : 0 ≤ ((cl_advance_8 2001 (v2 v 2 6 (v 2 7))) 2 6) ∧ ((cl_advance_8 2001 (v2 v 2 6 (v 2 7))) 2 6) ≤ 2000 := hX_8 2 6
  refine r_puti2 (j := 7) (pc' := 68) (pc0 := 65) (len := 3) rfl (s_2 _) rfl rfl rfl (Or.inl rfl) rfl rfl ?_
  have hX_10 : XI (v2 (cl_advance_8 2001 (v2 v 2 6 (v 2 7))) 2 7 ((cl_advance_8 2001 (v2 v 2 6 (v 2 7))) 2 6)) := XI.put hX_8 (show 0 ≤ ((cl_advance_8 2001 (v2 v 2 6 (v 2 7))) 2 6) ∧ ((cl_advance_8 2001 (v2 v 2 6 (v 2 7))) 2 6) ≤ 2001 from (by first | assumption | omega | (unfold R32 at *; omega) | (unfold R64 at *; omega) | (simp only [R32, R64] at *; omega)))
  refine r_ex 4 (pc' := 76) (lo' := [some (.inr (.inr (some 2)))]) (st' := [.inl ((cl_advance_8 2001 (v2 v 2 6 (v 2 7))) 2 4), .inl ((cl_advance_8 2001 (v2 v 2 6 (v 2 7))) 2 6)]) rfl ?_
  have hb_11 : 0 ≤ ((cl_advance_8 2001 (v2 v 2 6 (v 2 7))) 2 6) ∧ ((cl_advance_8 2001 (v2 v 2 6 (v 2 7))) 2 6) ≤ 2000 := hX_10 2 6
  have hb_12 : 0 ≤ ((cl_advance_8 2001 (v2 v 2 6 (v 2 7))) 2 4) ∧ ((cl_advance_8 2001 (v2 v 2 6 (v 2 7))) 2 4) ≤ 2000 := hX_10 2 4
  refine n_ic_lt (pc0 := 76) (len := 3) (t := 87) rfl (by first | assumption | omega | (unfold R32 at *; omega) | (unfold R64 at *; omega) | (simp only [R32, R64] at *; omega)) (by first | assumption | omega | (unfold R32 at *; omega) | (unfold R64 at *; omega) | (simp only [R32, R64] at *; omega)) (fun h_76 => ?_) (fun h_76 => ?_)
  · show WV _ _ _ 87 _ _ _ _ _
    rw [if_pos h_76] at hQ
    refine r_ex 3 (pc' := 92) (lo' := [some (.inr (.inr (some 2)))]) (st' := [.inl ((cl_advance_8 2001 (v2 v 2 6 (v 2 7))) 2 6), .inr (.inr (some 2))]) rfl ?_
    have hp_13 : 0 ≤ ((cl_advance_8 2001 (v2 v 2 6 (v 2 7))) 2 6) ∧ ((cl_advance_8 2001 (v2 v 2 6 (v 2 7))) 2 6) ≤ 2000 := (by first | assumption | omega | (unfold R32 at *; omega) | (unfold R64 at *; omega) | (simp only [R32, R64] at *; omega))
    have hb_14 : 0 ≤ (v2 (cl_advance_8 2001 (v2 v 2 6 (v 2 7))) 2 7 ((cl_advance_8 2001 (v2 v 2 6 (v 2 7))) 2 6)) 2 4 ∧ (v2 (cl_advance_8 2001 (v2 v 2 6 (v 2 7))) 2 7 ((cl_advance_8 2001 (v2 v 2 6 (v 2 7))) 2 6)) 2 4 ≤ 2000 := hX_10 2 4
    refine r_callb (P := ((cl_advance_8 2001 (v2 v 2 6 (v 2 7))) 2 6) < (v2 (cl_advance_8 2001 (v2 v 2 6 (v 2 7))) 2 7 ((cl_advance_8 2001 (v2 v 2 6 (v 2 7))) 2 6)) 2 4 ∧ 97 ≤ (v2 (cl_advance_8 2001 (v2 v 2 6 (v 2 7))) 2 7 ((cl_advance_8 2001 (v2 v 2 6 (v 2 7))) 2 6)) 1 ((cl_advance_8 2001 (v2 v 2 6 (v 2 7))) 2 6).toNat ∧ (v2 (cl_advance_8 2001 (v2 v 2 6 (v 2 7))) 2 7 ((cl_advance_8 2001 (v2 v 2 6 (v 2 7))) 2 6)) 1 ((cl_advance_8 2001 (v2 v 2 6 (v 2 7))) 2 6).toNat ≤ 122) (m := 22) (args := [.inr (.inr (some 2)), .inl ((cl_advance_8 2001 (v2 v 2 6 (v 2 7))) 2 6)]) (n' := 21) (pc' := 95) (lo' := [some (.inr (.inr (some 2)))]) (st' := []) (I := .invokevirtual 22) (pc0 := 92) (len := 3) rfl rfl rfl (e_cl_isLetter hX_10 hp_13) (fun h_92 => ?_) (fun h_92 => ?_)
    · show WV _ _ _ 95 _ _ _ _ _
      rw [if_pos h_92] at hQ
      refine r_ex 3 (pc' := 100) (lo' := [some (.inr (.inr (some 2)))]) (st' := [.inl 1, .inr (.inr (some 2))]) rfl ?_
      refine r_puti2 (j := 5) (pc' := 103) (pc0 := 100) (len := 3) rfl (s_2 _) rfl rfl rfl (Or.inl rfl) rfl rfl ?_
      have hX_15 : XI (v2 (v2 (cl_advance_8 2001 (v2 v 2 6 (v 2 7))) 2 7 ((cl_advance_8 2001 (v2 v 2 6 (v 2 7))) 2 6)) 2 5 1) := XI.put hX_10 (show 0 ≤ 1 ∧ 1 ≤ 4 from (by first | assumption | omega | (unfold R32 at *; omega) | (unfold R64 at *; omega) | (simp only [R32, R64] at *; omega)))
      exact l_cl_advance_103 2001 (v2 (v2 (cl_advance_8 2001 (v2 v 2 6 (v 2 7))) 2 7 ((cl_advance_8 2001 (v2 v 2 6 (v 2 7))) 2 6)) 2 5 1)   hX_15 (show ((cl_advance_8 2001 (v2 v 2 6 (v 2 7))) 2 6) ≤ ((cl_advance_8 2001 (v2 v 2 6 (v 2 7))) 2 4) from (by first | assumption | omega | (unfold R32 at *; omega) | (unfold R64 at *; omega) | (simp only [R32, R64] at *; omega))) (show 2000 < ((cl_advance_8 2001 (v2 v 2 6 (v 2 7))) 2 6) + (2001 : Nat) from (by first | assumption | omega | (unfold R32 at *; omega) | (unfold R64 at *; omega) | (simp only [R32, R64] at *; omega))) hQ
    · show WV _ _ _ 95 _ _ _ _ _
      rw [if_neg h_92] at hQ
      refine r_ex 4 (pc' := 143) (lo' := [some (.inr (.inr (some 2)))]) (st' := [.inl ((cl_advance_8 2001 (v2 v 2 6 (v 2 7))) 2 6), .inr (.inr (some 2))]) rfl ?_
      have hp_21 : 0 ≤ ((cl_advance_8 2001 (v2 v 2 6 (v 2 7))) 2 6) ∧ ((cl_advance_8 2001 (v2 v 2 6 (v 2 7))) 2 6) ≤ 2000 := (by first | assumption | omega | (unfold R32 at *; omega) | (unfold R64 at *; omega) | (simp only [R32, R64] at *; omega))
      refine r_callb (P := ((cl_advance_8 2001 (v2 v 2 6 (v 2 7))) 2 6) < (v2 (cl_advance_8 2001 (v2 v 2 6 (v 2 7))) 2 7 ((cl_advance_8 2001 (v2 v 2 6 (v 2 7))) 2 6)) 2 4 ∧ 48 ≤ (v2 (cl_advance_8 2001 (v2 v 2 6 (v 2 7))) 2 7 ((cl_advance_8 2001 (v2 v 2 6 (v 2 7))) 2 6)) 1 ((cl_advance_8 2001 (v2 v 2 6 (v 2 7))) 2 6).toNat ∧ (v2 (cl_advance_8 2001 (v2 v 2 6 (v 2 7))) 2 7 ((cl_advance_8 2001 (v2 v 2 6 (v 2 7))) 2 6)) 1 ((cl_advance_8 2001 (v2 v 2 6 (v 2 7))) 2 6).toNat ≤ 57) (m := 23) (args := [.inr (.inr (some 2)), .inl ((cl_advance_8 2001 (v2 v 2 6 (v 2 7))) 2 6)]) (n' := 21) (pc' := 146) (lo' := [some (.inr (.inr (some 2)))]) (st' := []) (I := .invokevirtual 23) (pc0 := 143) (len := 3) rfl rfl rfl (e_cl_isDigit hX_10 hp_21) (fun h_143 => ?_) (fun h_143 => ?_)
      · show WV _ _ _ 146 _ _ _ _ _
        rw [if_pos h_143] at hQ
        refine r_ex 3 (pc' := 151) (lo' := [some (.inr (.inr (some 2)))]) (st' := [.inl 2, .inr (.inr (some 2))]) rfl ?_
        refine r_puti2 (j := 5) (pc' := 154) (pc0 := 151) (len := 3) rfl (s_2 _) rfl rfl rfl (Or.inl rfl) rfl rfl ?_
        have hX_22 : XI (v2 (v2 (cl_advance_8 2001 (v2 v 2 6 (v 2 7))) 2 7 ((cl_advance_8 2001 (v2 v 2 6 (v 2 7))) 2 6)) 2 5 2) := XI.put hX_10 (show 0 ≤ 2 ∧ 2 ≤ 4 from (by first | assumption | omega | (unfold R32 at *; omega) | (unfold R64 at *; omega) | (simp only [R32, R64] at *; omega)))
        refine r_ex 2 (pc' := 156) (lo' := [some (.inr (.inr (some 2)))]) (st' := [.inl 0, .inr (.inr (some 2))]) rfl ?_
        refine r_puti2 (j := 8) (pc' := 159) (pc0 := 156) (len := 3) rfl (s_2 _) rfl rfl rfl (Or.inl rfl) rfl rfl ?_
        have hX_23 : XI (v2 (v2 (v2 (cl_advance_8 2001 (v2 v 2 6 (v 2 7))) 2 7 ((cl_advance_8 2001 (v2 v 2 6 (v 2 7))) 2 6)) 2 5 2) 2 8 0) := XI.put hX_22 (show 0 ≤ 0 ∧ 0 ≤ 1000000 from (by first | assumption | omega | (unfold R32 at *; omega) | (unfold R64 at *; omega) | (simp only [R32, R64] at *; omega)))
        exact l_cl_advance_159 2001 (v2 (v2 (v2 (cl_advance_8 2001 (v2 v 2 6 (v 2 7))) 2 7 ((cl_advance_8 2001 (v2 v 2 6 (v 2 7))) 2 6)) 2 5 2) 2 8 0)   hX_23 (show ((cl_advance_8 2001 (v2 v 2 6 (v 2 7))) 2 6) ≤ ((cl_advance_8 2001 (v2 v 2 6 (v 2 7))) 2 4) from (by first | assumption | omega | (unfold R32 at *; omega) | (unfold R64 at *; omega) | (simp only [R32, R64] at *; omega))) (show 2000 < ((cl_advance_8 2001 (v2 v 2 6 (v 2 7))) 2 6) + (2001 : Nat) from (by first | assumption | omega | (unfold R32 at *; omega) | (unfold R64 at *; omega) | (simp only [R32, R64] at *; omega))) hQ
      · show WV _ _ _ 146 _ _ _ _ _
        rw [if_neg h_143] at hQ
        refine r_ex 6 (pc' := 232) (lo' := [some (.inr (.inr (some 2)))]) (st' := [.inl ((cl_advance_8 2001 (v2 v 2 6 (v 2 7))) 2 6), .inr (.inr (some 1)), .inr (.inr (some 2))]) rfl ?_
        refine r_bald2 (x := ((cl_advance_8 2001 (v2 v 2 6 (v 2 7))) 1 ((((cl_advance_8 2001 (v2 v 2 6 (v 2 7))) 2 6)).toNat))) (pc' := 233) (pc0 := 232) (len := 1) rfl (s_1 _) (Or.inl rfl) (by first | assumption | omega | (unfold R32 at *; omega) | (unfold R64 at *; omega) | (simp only [R32, R64] at *; omega)) (by decide) rfl rfl ?_
        have hb_33 : -128 ≤ ((cl_advance_8 2001 (v2 v 2 6 (v 2 7))) 1 ((((cl_advance_8 2001 (v2 v 2 6 (v 2 7))) 2 6)).toNat)) ∧ ((cl_advance_8 2001 (v2 v 2 6 (v 2 7))) 1 ((((cl_advance_8 2001 (v2 v 2 6 (v 2 7))) 2 6)).toNat)) ≤ 127 := hX_10 1 ((((cl_advance_8 2001 (v2 v 2 6 (v 2 7))) 2 6)).toNat)
        refine r_ex 1 (pc' := 235) (lo' := [some (.inr (.inr (some 2)))]) (st' := [.inl 59, .inl ((cl_advance_8 2001 (v2 v 2 6 (v 2 7))) 1 ((((cl_advance_8 2001 (v2 v 2 6 (v 2 7))) 2 6)).toNat)), .inr (.inr (some 2))]) rfl ?_
        refine n_ic_ne (pc0 := 235) (len := 3) (t := 242) rfl (by first | assumption | omega | (unfold R32 at *; omega) | (unfold R64 at *; omega) | (simp only [R32, R64] at *; omega)) (by first | assumption | omega | (unfold R32 at *; omega) | (unfold R64 at *; omega) | (simp only [R32, R64] at *; omega)) (fun h_235 => ?_) (fun h_235 => ?_)
        · show WV _ _ _ 242 _ _ _ _ _
          rw [if_neg h_235] at hQ
          refine r_ex 1 (pc' := 243) (lo' := [some (.inr (.inr (some 2)))]) (st' := [.inl 4, .inr (.inr (some 2))]) rfl ?_
          refine r_puti2 (j := 5) (pc' := 246) (pc0 := 243) (len := 3) rfl (s_2 _) rfl rfl rfl (Or.inl rfl) rfl rfl ?_
          have hX_34 : XI (v2 (v2 (cl_advance_8 2001 (v2 v 2 6 (v 2 7))) 2 7 ((cl_advance_8 2001 (v2 v 2 6 (v 2 7))) 2 6)) 2 5 4) := XI.put hX_10 (show 0 ≤ 4 ∧ 4 ≤ 4 from (by first | assumption | omega | (unfold R32 at *; omega) | (unfold R64 at *; omega) | (simp only [R32, R64] at *; omega)))
          refine r_ex 5 (pc' := 253) (lo' := [some (.inr (.inr (some 2)))]) (st' := [.inl (((cl_advance_8 2001 (v2 v 2 6 (v 2 7))) 2 6) + 1), .inr (.inr (some 2))]) rfl ?_
          have hb_35 : 0 ≤ ((cl_advance_8 2001 (v2 v 2 6 (v 2 7))) 2 6) ∧ ((cl_advance_8 2001 (v2 v 2 6 (v 2 7))) 2 6) ≤ 2000 := hX_34 2 6
          refine r_puti2 (j := 7) (pc' := 256) (pc0 := 253) (len := 3) rfl (s_2 _) rfl rfl rfl (Or.inl rfl) rfl rfl ?_
          have hX_36 : XI (v2 (v2 (v2 (cl_advance_8 2001 (v2 v 2 6 (v 2 7))) 2 7 ((cl_advance_8 2001 (v2 v 2 6 (v 2 7))) 2 6)) 2 5 4) 2 7 (((cl_advance_8 2001 (v2 v 2 6 (v 2 7))) 2 6) + 1)) := XI.put hX_34 (show 0 ≤ (((cl_advance_8 2001 (v2 v 2 6 (v 2 7))) 2 6) + 1) ∧ (((cl_advance_8 2001 (v2 v 2 6 (v 2 7))) 2 6) + 1) ≤ 2001 from (by first | assumption | omega | (unfold R32 at *; omega) | (unfold R64 at *; omega) | (simp only [R32, R64] at *; omega)))
          refine r_ret (rr := none) (I := .return_) (pc0 := 256) (len := 1) rfl rfl ?_
          exact hQ hX_36 (show (((cl_advance_8 2001 (v2 v 2 6 (v 2 7))) 2 6) + 1) ≤ ((cl_advance_8 2001 (v2 v 2 6 (v 2 7))) 2 4) from (by first | assumption | omega | (unfold R32 at *; omega) | (unfold R64 at *; omega) | (simp only [R32, R64] at *; omega)))
        · show WV _ _ _ 238 _ _ _ _ _
          rw [if_pos h_235] at hQ
          refine r_ex 2 (pc' := 243) (lo' := [some (.inr (.inr (some 2)))]) (st' := [.inl 3, .inr (.inr (some 2))]) rfl ?_
          refine r_puti2 (j := 5) (pc' := 246) (pc0 := 243) (len := 3) rfl (s_2 _) rfl rfl rfl (Or.inl rfl) rfl rfl ?_
          have hX_37 : XI (v2 (v2 (cl_advance_8 2001 (v2 v 2 6 (v 2 7))) 2 7 ((cl_advance_8 2001 (v2 v 2 6 (v 2 7))) 2 6)) 2 5 3) := XI.put hX_10 (show 0 ≤ 3 ∧ 3 ≤ 4 from (by first | assumption | omega | (unfold R32 at *; omega) | (unfold R64 at *; omega) | (simp only [R32, R64] at *; omega)))
          refine r_ex 5 (pc' := 253) (lo' := [some (.inr (.inr (some 2)))]) (st' := [.inl (((cl_advance_8 2001 (v2 v 2 6 (v 2 7))) 2 6) + 1), .inr (.inr (some 2))]) rfl ?_
          have hb_38 : 0 ≤ ((cl_advance_8 2001 (v2 v 2 6 (v 2 7))) 2 6) ∧ ((cl_advance_8 2001 (v2 v 2 6 (v 2 7))) 2 6) ≤ 2000 := hX_37 2 6
          refine r_puti2 (j := 7) (pc' := 256) (pc0 := 253) (len := 3) rfl (s_2 _) rfl rfl rfl (Or.inl rfl) rfl rfl ?_
          have hX_39 : XI (v2 (v2 (v2 (cl_advance_8 2001 (v2 v 2 6 (v 2 7))) 2 7 ((cl_advance_8 2001 (v2 v 2 6 (v 2 7))) 2 6)) 2 5 3) 2 7 (((cl_advance_8 2001 (v2 v 2 6 (v 2 7))) 2 6) + 1)) := XI.put hX_37 (show 0 ≤ (((cl_advance_8 2001 (v2 v 2 6 (v 2 7))) 2 6) + 1) ∧ (((cl_advance_8 2001 (v2 v 2 6 (v 2 7))) 2 6) + 1) ≤ 2001 from (by first | assumption | omega | (unfold R32 at *; omega) | (unfold R64 at *; omega) | (simp only [R32, R64] at *; omega)))
          refine r_ret (rr := none) (I := .return_) (pc0 := 256) (len := 1) rfl rfl ?_
          exact hQ hX_39 (show (((cl_advance_8 2001 (v2 v 2 6 (v 2 7))) 2 6) + 1) ≤ ((cl_advance_8 2001 (v2 v 2 6 (v 2 7))) 2 4) from (by first | assumption | omega | (unfold R32 at *; omega) | (unfold R64 at *; omega) | (simp only [R32, R64] at *; omega)))
  · show WV _ _ _ 79 _ _ _ _ _
    rw [if_neg h_76] at hQ
    refine r_ex 2 (pc' := 81) (lo' := [some (.inr (.inr (some 2)))]) (st' := [.inl 0, .inr (.inr (some 2))]) rfl ?_
    refine r_puti2 (j := 5) (pc' := 84) (pc0 := 81) (len := 3) rfl (s_2 _) rfl rfl rfl (Or.inl rfl) rfl rfl ?_
    have hX_40 : XI (v2 (v2 (cl_advance_8 2001 (v2 v 2 6 (v 2 7))) 2 7 ((cl_advance_8 2001 (v2 v 2 6 (v 2 7))) 2 6)) 2 5 0) := XI.put hX_10 (show 0 ≤ 0 ∧ 0 ≤ 4 from (by first | assumption | omega | (unfold R32 at *; omega) | (unfold R64 at *; omega) | (simp only [R32, R64] at *; omega)))
    refine r_ex 1 (pc' := 256) (lo' := [some (.inr (.inr (some 2)))]) (st' := []) rfl ?_
    refine r_ret (rr := none) (I := .return_) (pc0 := 256) (len := 1) rfl rfl ?_
    exact hQ hX_40 (show ((cl_advance_8 2001 (v2 v 2 6 (v 2 7))) 2 6) ≤ ((cl_advance_8 2001 (v2 v 2 6 (v 2 7))) 2 4) from (by first | assumption | omega | (unfold R32 at *; omega) | (unfold R64 at *; omega) | (simp only [R32, R64] at *; omega)))

theorem e_cl_advance {X : PX} {d : Nat} {v : VS}  (hX : XI v) (hp_a : (v 2 7) ≤ (v 2 4)) : EvV X (d + 1) 21 [.inr (.inr (some 2))] 1 v none 1 (cl_advance v) := EvV.of (w_cl_advance hX hp_a (fun _ _ => ⟨rfl, rfl, rfl⟩))

theorem i_cl_advance {v : VS}  (hX : XI v) (hp_a : (v 2 7) ≤ (v 2 4)) : XI (cl_advance v) := by
  have q : WV (0, fun _ => 0, none) (0 + 1) 21 0 [some (.inr (.inr (some 2)))] [] 1 v (fun _ _ _ => XI (cl_advance v)) := w_cl_advance (X := (0, fun _ => 0, none)) (d := 0) hX hp_a (fun q _ => q)
  obtain ⟨_, _, _, _, _, _, _, q⟩ := q
  exact q

theorem n_cl_advance {v : VS}  (hX : XI v) (hp_a : (v 2 7) ≤ (v 2 4)) : ((cl_advance v) 2 7) ≤ ((cl_advance v) 2 4) := by
  have q : WV (0, fun _ => 0, none) (0 + 1) 21 0 [some (.inr (.inr (some 2)))] [] 1 v (fun _ _ _ => ((cl_advance v) 2 7) ≤ ((cl_advance v) 2 4)) := w_cl_advance (X := (0, fun _ => 0, none)) (d := 0) hX hp_a (fun _ q => q)
  obtain ⟨_, _, _, _, _, _, _, q⟩ := q
  exact q

theorem o_cl_advance {rk : Nat} {v : VS}  (hk : (rk < 2 ∨ 2 < rk)) : (cl_advance v ) rk = v rk := by
  unfold cl_advance
  by_cases hc_ : ((cl_advance_8 2001 (v2 v 2 6 (v 2 7))) 2 6) < ((cl_advance_8 2001 (v2 v 2 6 (v 2 7))) 2 4)
  · rw [if_pos hc_]
    by_cases hc_ : ((cl_advance_8 2001 (v2 v 2 6 (v 2 7))) 2 6) < (v2 (cl_advance_8 2001 (v2 v 2 6 (v 2 7))) 2 7 ((cl_advance_8 2001 (v2 v 2 6 (v 2 7))) 2 6)) 2 4 ∧ 97 ≤ (v2 (cl_advance_8 2001 (v2 v 2 6 (v 2 7))) 2 7 ((cl_advance_8 2001 (v2 v 2 6 (v 2 7))) 2 6)) 1 ((cl_advance_8 2001 (v2 v 2 6 (v 2 7))) 2 6).toNat ∧ (v2 (cl_advance_8 2001 (v2 v 2 6 (v 2 7))) 2 7 ((cl_advance_8 2001 (v2 v 2 6 (v 2 7))) 2 6)) 1 ((cl_advance_8 2001 (v2 v 2 6 (v 2 7))) 2 6).toNat ≤ 122
    · rw [if_pos hc_]
      all_goals (rw [o_cl_advance_103 (by omega), v2_row (by omega), v2_row (by omega), o_cl_advance_8 (by omega), v2_row (by omega)])
    · rw [if_neg hc_]
      by_cases hc_ : ((cl_advance_8 2001 (v2 v 2 6 (v 2 7))) 2 6) < (v2 (cl_advance_8 2001 (v2 v 2 6 (v 2 7))) 2 7 ((cl_advance_8 2001 (v2 v 2 6 (v 2 7))) 2 6)) 2 4 ∧ 48 ≤ (v2 (cl_advance_8 2001 (v2 v 2 6 (v 2 7))) 2 7 ((cl_advance_8 2001 (v2 v 2 6 (v 2 7))) 2 6)) 1 ((cl_advance_8 2001 (v2 v 2 6 (v 2 7))) 2 6).toNat ∧ (v2 (cl_advance_8 2001 (v2 v 2 6 (v 2 7))) 2 7 ((cl_advance_8 2001 (v2 v 2 6 (v 2 7))) 2 6)) 1 ((cl_advance_8 2001 (v2 v 2 6 (v 2 7))) 2 6).toNat ≤ 57
      · rw [if_pos hc_]
        all_goals (rw [o_cl_advance_159 (by omega), v2_row (by omega), v2_row (by omega), v2_row (by omega), o_cl_advance_8 (by omega), v2_row (by omega)])
      · rw [if_neg hc_]
        by_cases hc_ : ((cl_advance_8 2001 (v2 v 2 6 (v 2 7))) 1 ((((cl_advance_8 2001 (v2 v 2 6 (v 2 7))) 2 6)).toNat)) = 59
        · rw [if_pos hc_]
          all_goals (show (v2 (v2 (v2 (cl_advance_8 2001 (v2 v 2 6 (v 2 7))) 2 7 ((cl_advance_8 2001 (v2 v 2 6 (v 2 7))) 2 6)) 2 5 3) 2 7 (((cl_advance_8 2001 (v2 v 2 6 (v 2 7))) 2 6) + 1)) rk = _)
          all_goals (rw [v2_row (by omega), v2_row (by omega), v2_row (by omega), o_cl_advance_8 (by omega), v2_row (by omega)])
        · rw [if_neg hc_]
          all_goals (show (v2 (v2 (v2 (cl_advance_8 2001 (v2 v 2 6 (v 2 7))) 2 7 ((cl_advance_8 2001 (v2 v 2 6 (v 2 7))) 2 6)) 2 5 4) 2 7 (((cl_advance_8 2001 (v2 v 2 6 (v 2 7))) 2 6) + 1)) rk = _)
          all_goals (rw [v2_row (by omega), v2_row (by omega), v2_row (by omega), o_cl_advance_8 (by omega), v2_row (by omega)])
  · rw [if_neg hc_]
    all_goals (show (v2 (v2 (cl_advance_8 2001 (v2 v 2 6 (v 2 7))) 2 7 ((cl_advance_8 2001 (v2 v 2 6 (v 2 7))) 2 6)) 2 5 0) rk = _)
    all_goals (rw [v2_row (by omega), v2_row (by omega), o_cl_advance_8 (by omega), v2_row (by omega)])

def cl_fail (v : VS) (k : Int) : VS :=
  (if (v 2 1) = 0 then (v2 (v2 v 2 1 k) 2 2 (v 2 6)) else v)
theorem w_cl_fail {X : PX} {d : Nat} {v : VS} {k : Int} (hX : XI v) (hp_a : 1 ≤ k ∧ k ≤ 3) (hp_b : (v 2 7) ≤ (v 2 4)) {Q : Option PV → Nat → VS → Prop} (hQ : XI (cl_fail v k) → (((cl_fail v k) 2 7) ≤ ((cl_fail v k) 2 4)) → Q none 1 (cl_fail v k)) : WV X d 39 0 [some (.inr (.inr (some 2))), some (.inl k)] [] 1 v Q := by
  rw [cl_fail] at hQ
  refine r_ex 2 (pc' := 4) (lo' := [some (.inr (.inr (some 2))), some (.inl k)]) (st' := [.inl (v 2 1)]) rfl ?_
  have hb_1 : 0 ≤ (v 2 1) ∧ (v 2 1) ≤ 3 := hX 2 1
  refine n_if_ne (pc0 := 4) (len := 3) (t := 20) rfl (by first | assumption | omega | (unfold R32 at *; omega) | (unfold R64 at *; omega) | (simp only [R32, R64] at *; omega)) (fun h_4 => ?_) (fun h_4 => ?_)
  · show WV _ _ _ 20 _ _ _ _ _
    rw [if_neg h_4] at hQ
    refine r_ret (rr := none) (I := .return_) (pc0 := 20) (len := 1) rfl rfl ?_
    exact hQ hX (show (v 2 7) ≤ (v 2 4) from (by first | assumption | omega | (unfold R32 at *; omega) | (unfold R64 at *; omega) | (simp only [R32, R64] at *; omega)))
  · show WV _ _ _ 7 _ _ _ _ _
    rw [if_pos h_4] at hQ
    refine r_ex 2 (pc' := 9) (lo' := [some (.inr (.inr (some 2))), some (.inl k)]) (st' := [.inl k, .inr (.inr (some 2))]) rfl ?_
    refine r_puti2 (j := 1) (pc' := 12) (pc0 := 9) (len := 3) rfl (s_2 _) rfl rfl rfl (Or.inl rfl) rfl rfl ?_
    have hX_2 : XI (v2 v 2 1 k) := XI.put hX (show 0 ≤ k ∧ k ≤ 3 from (by first | assumption | omega | (unfold R32 at *; omega) | (unfold R64 at *; omega) | (simp only [R32, R64] at *; omega)))
    refine r_ex 3 (pc' := 17) (lo' := [some (.inr (.inr (some 2))), some (.inl k)]) (st' := [.inl (v 2 6), .inr (.inr (some 2))]) rfl ?_
    have hb_3 : 0 ≤ (v 2 6) ∧ (v 2 6) ≤ 2000 := hX_2 2 6
    refine r_puti2 (j := 2) (pc' := 20) (pc0 := 17) (len := 3) rfl (s_2 _) rfl rfl rfl (Or.inl rfl) rfl rfl ?_
    have hX_4 : XI (v2 (v2 v 2 1 k) 2 2 (v 2 6)) := XI.put hX_2 (show -1 ≤ (v 2 6) ∧ (v 2 6) ≤ 2000 from (by first | assumption | omega | (unfold R32 at *; omega) | (unfold R64 at *; omega) | (simp only [R32, R64] at *; omega)))
    refine r_ret (rr := none) (I := .return_) (pc0 := 20) (len := 1) rfl rfl ?_
    exact hQ hX_4 (show (v 2 7) ≤ (v 2 4) from (by first | assumption | omega | (unfold R32 at *; omega) | (unfold R64 at *; omega) | (simp only [R32, R64] at *; omega)))

theorem e_cl_fail {X : PX} {d : Nat} {v : VS} {k : Int} (hX : XI v) (hp_a : 1 ≤ k ∧ k ≤ 3) (hp_b : (v 2 7) ≤ (v 2 4)) : EvV X d 39 [.inr (.inr (some 2)), .inl k] 1 v none 1 (cl_fail v k) := EvV.of (w_cl_fail hX hp_a hp_b (fun _ _ => ⟨rfl, rfl, rfl⟩))

theorem i_cl_fail {v : VS} {k : Int} (hX : XI v) (hp_a : 1 ≤ k ∧ k ≤ 3) (hp_b : (v 2 7) ≤ (v 2 4)) : XI (cl_fail v k) := by
  have q : WV (0, fun _ => 0, none) 0 39 0 [some (.inr (.inr (some 2))), some (.inl k)] [] 1 v (fun _ _ _ => XI (cl_fail v k)) := w_cl_fail (X := (0, fun _ => 0, none)) (d := 0) hX hp_a hp_b (fun q _ => q)
  obtain ⟨_, _, _, _, _, _, _, q⟩ := q
  exact q

theorem n_cl_fail {v : VS} {k : Int} (hX : XI v) (hp_a : 1 ≤ k ∧ k ≤ 3) (hp_b : (v 2 7) ≤ (v 2 4)) : ((cl_fail v k) 2 7) ≤ ((cl_fail v k) 2 4) := by
  have q : WV (0, fun _ => 0, none) 0 39 0 [some (.inr (.inr (some 2))), some (.inl k)] [] 1 v (fun _ _ _ => ((cl_fail v k) 2 7) ≤ ((cl_fail v k) 2 4)) := w_cl_fail (X := (0, fun _ => 0, none)) (d := 0) hX hp_a hp_b (fun _ q => q)
  obtain ⟨_, _, _, _, _, _, _, q⟩ := q
  exact q

theorem o_cl_fail {rk : Nat} {v : VS} {k : Int} (hk : (rk < 2 ∨ 2 < rk)) : (cl_fail v k) rk = v rk := by
  unfold cl_fail
  by_cases hc_ : (v 2 1) = 0
  · rw [if_pos hc_]
    all_goals (show (v2 (v2 v 2 1 k) 2 2 (v 2 6)) rk = _)
    all_goals (rw [v2_row (by omega), v2_row (by omega)])
  · rw [if_neg hc_]
    all_goals (show v rk = _)
    all_goals rfl

def cl_isAt0 (v : VS)  : Int :=
  (if (v 2 5) = 1 then (if 3 = ((v 2 7) - (v 2 6)) then (if (v 1 ((((v 2 6) + 0)).toNat)) = 98 then (if (v 1 ((((v 2 6) + 1)).toNat)) = 97 then (if (v 1 ((((v 2 6) + 2)).toNat)) = 121 then 1 else 0) else 0) else 0) else 0) else 0)
theorem w_cl_isAt0 {X : PX} {d : Nat} {v : VS}  (hX : XI v) (hp_a : (v 2 7) ≤ (v 2 4)) {Q : Option PV → Nat → VS → Prop} (hQ : (0 ≤ (cl_isAt0 v) ∧ (cl_isAt0 v) ≤ 1) → Q (some (.inl (cl_isAt0 v))) 1 v) : WV X (d + 1 + 1 + 1 + 1) 27 0 [some (.inr (.inr (some 2))), some (.inr (.inr (some 100001))), none] [] 1 v Q := by
  rw [cl_isAt0] at hQ
  have hz6 : 0 ≤ v 2 6 ∧ v 2 6 ≤ 2000 := hX 2 6
  have hz7 : 0 ≤ v 2 7 ∧ v 2 7 ≤ 2001 := hX 2 7
  have hz4 : 0 ≤ v 2 4 ∧ v 2 4 ≤ 2000 := hX 2 4
  refine r_ex 3 (pc' := 5) (lo' := [some (.inr (.inr (some 2))), some (.inr (.inr (some 100001))), none]) (st' := [.inl 1, .inl (v 2 5)]) rfl ?_
  have hb_1 : 0 ≤ (v 2 5) ∧ (v 2 5) ≤ 4 := hX 2 5
  refine n_ic_ne (pc0 := 5) (len := 3) (t := 24) rfl (by first | assumption | omega | (unfold R32 at *; omega) | (unfold R64 at *; omega) | (simp only [R32, R64] at *; omega)) (by first | assumption | omega | (unfold R32 at *; omega) | (unfold R64 at *; omega) | (simp only [R32, R64] at *; omega)) (fun h_5 => ?_) (fun h_5 => ?_)
  · show WV _ _ _ 24 _ _ _ _ _
    rw [if_neg h_5] at hQ
    refine r_ex 1 (pc' := 25) (lo' := [some (.inr (.inr (some 2))), some (.inr (.inr (some 100001))), none]) (st' := [.inl 0]) rfl ?_
    refine r_ret (rr := some (.inl 0)) (I := .ireturn) (pc0 := 25) (len := 1) rfl rfl ?_
    exact hQ (by first | assumption | omega | (unfold R32 at *; omega) | (unfold R64 at *; omega) | (simp only [R32, R64] at *; omega))
  · show WV _ _ _ 8 _ _ _ _ _
    rw [if_pos h_5] at hQ
    refine r_ex 1 (pc' := 9) (lo' := [some (.inr (.inr (some 2))), some (.inr (.inr (some 100001))), none]) (st' := [.inr (.inr (some 100001))]) rfl ?_
    refine r_call (rr := some (.inl 3)) (b' := 1) (v' := v) (m := 28) (args := [.inr (.inr (some 100001))]) (n' := 27) (pc' := 12) (lo' := [some (.inr (.inr (some 2))), some (.inr (.inr (some 100001))), none]) (st' := []) (I := .invokevirtual 28) (pc0 := 9) (len := 3) rfl rfl rfl ⟨60, rfl⟩ ?_
    show WV _ _ _ 12 _ [.inl 3] _ _ _
    refine r_ex 5 (pc' := 21) (lo' := [some (.inr (.inr (some 2))), some (.inr (.inr (some 100001))), none]) (st' := [.inl ((v 2 7) - (v 2 6)), .inl 3]) rfl ?_
    have hb_2 : 0 ≤ (v 2 7) ∧ (v 2 7) ≤ 2001 := hX 2 7
    have hb_3 : 0 ≤ (v 2 6) ∧ (v 2 6) ≤ 2000 := hX 2 6
    refine n_ic_eq (pc0 := 21) (len := 3) (t := 26) rfl (by first | assumption | omega | (unfold R32 at *; omega) | (unfold R64 at *; omega) | (simp only [R32, R64] at *; omega)) (by first | assumption | omega | (unfold R32 at *; omega) | (unfold R64 at *; omega) | (simp only [R32, R64] at *; omega)) (fun h_21 => ?_) (fun h_21 => ?_)
    · show WV _ _ _ 26 _ _ _ _ _
      rw [if_pos h_21] at hQ
      refine r_ex 4 (pc' := 30) (lo' := [some (.inr (.inr (some 2))), some (.inr (.inr (some 100001))), some (.inl 0)]) (st' := [.inr (.inr (some 100001)), .inl 0]) rfl ?_
      refine r_call (rr := some (.inl 3)) (b' := 1) (v' := v) (m := 28) (args := [.inr (.inr (some 100001))]) (n' := 27) (pc' := 33) (lo' := [some (.inr (.inr (some 2))), some (.inr (.inr (some 100001))), some (.inl 0)]) (st' := [.inl 0]) (I := .invokevirtual 28) (pc0 := 30) (len := 3) rfl rfl rfl ⟨60, rfl⟩ ?_
      show WV _ _ _ 33 _ [.inl 3, .inl 0] _ _ _
      refine r_ex 7 (pc' := 46) (lo' := [some (.inr (.inr (some 2))), some (.inr (.inr (some 100001))), some (.inl 0)]) (st' := [.inl ((v 2 6) + 0), .inr (.inr (some 1))]) rfl ?_
      refine r_bald2 (x := (v 1 ((((v 2 6) + 0)).toNat))) (pc' := 47) (pc0 := 46) (len := 1) rfl (s_1 _) (Or.inl rfl) (by first | assumption | omega | (unfold R32 at *; omega) | (unfold R64 at *; omega) | (simp only [R32, R64] at *; omega)) (by decide) rfl rfl ?_
      have hb_4 : -128 ≤ (v 1 ((((v 2 6) + 0)).toNat)) ∧ (v 1 ((((v 2 6) + 0)).toNat)) ≤ 127 := hX 1 ((((v 2 6) + 0)).toNat)
      refine r_ex 2 (pc' := 49) (lo' := [some (.inr (.inr (some 2))), some (.inr (.inr (some 100001))), some (.inl 0)]) (st' := [.inl 0, .inr (.inr (some 100001)), .inl (v 1 ((((v 2 6) + 0)).toNat))]) rfl ?_
      refine r_call (rr := some (.inl 98)) (b' := 1) (v' := v) (m := 30) (args := [.inr (.inr (some 100001)), .inl 0]) (n' := 27) (pc' := 52) (lo' := [some (.inr (.inr (some 2))), some (.inr (.inr (some 100001))), some (.inl 0)]) (st' := [.inl (v 1 ((((v 2 6) + 0)).toNat))]) (I := .invokevirtual 30) (pc0 := 49) (len := 3) rfl rfl rfl ⟨60, rfl⟩ ?_
      show WV _ _ _ 52 _ [.inl 98, .inl (v 1 ((((v 2 6) + 0)).toNat))] _ _ _
      refine n_ic_eq (pc0 := 52) (len := 3) (t := 57) rfl (by first | assumption | omega | (unfold R32 at *; omega) | (unfold R64 at *; omega) | (simp only [R32, R64] at *; omega)) (by first | assumption | omega | (unfold R32 at *; omega) | (unfold R64 at *; omega) | (simp only [R32, R64] at *; omega)) (fun h_52 => ?_) (fun h_52 => ?_)
      · show WV _ _ _ 57 _ _ _ _ _
        rw [if_pos h_52] at hQ
        refine r_ex 4 (pc' := 30) (lo' := [some (.inr (.inr (some 2))), some (.inr (.inr (some 100001))), some (.inl 1)]) (st' := [.inr (.inr (some 100001)), .inl 1]) rfl ?_
        refine r_call (rr := some (.inl 3)) (b' := 1) (v' := v) (m := 28) (args := [.inr (.inr (some 100001))]) (n' := 27) (pc' := 33) (lo' := [some (.inr (.inr (some 2))), some (.inr (.inr (some 100001))), some (.inl 1)]) (st' := [.inl 1]) (I := .invokevirtual 28) (pc0 := 30) (len := 3) rfl rfl rfl ⟨60, rfl⟩ ?_
        show WV _ _ _ 33 _ [.inl 3, .inl 1] _ _ _
        refine r_ex 7 (pc' := 46) (lo' := [some (.inr (.inr (some 2))), some (.inr (.inr (some 100001))), some (.inl 1)]) (st' := [.inl ((v 2 6) + 1), .inr (.inr (some 1))]) rfl ?_
        refine r_bald2 (x := (v 1 ((((v 2 6) + 1)).toNat))) (pc' := 47) (pc0 := 46) (len := 1) rfl (s_1 _) (Or.inl rfl) (by first | assumption | omega | (unfold R32 at *; omega) | (unfold R64 at *; omega) | (simp only [R32, R64] at *; omega)) (by decide) rfl rfl ?_
        have hb_5 : -128 ≤ (v 1 ((((v 2 6) + 1)).toNat)) ∧ (v 1 ((((v 2 6) + 1)).toNat)) ≤ 127 := hX 1 ((((v 2 6) + 1)).toNat)
        refine r_ex 2 (pc' := 49) (lo' := [some (.inr (.inr (some 2))), some (.inr (.inr (some 100001))), some (.inl 1)]) (st' := [.inl 1, .inr (.inr (some 100001)), .inl (v 1 ((((v 2 6) + 1)).toNat))]) rfl ?_
        refine r_call (rr := some (.inl 97)) (b' := 1) (v' := v) (m := 30) (args := [.inr (.inr (some 100001)), .inl 1]) (n' := 27) (pc' := 52) (lo' := [some (.inr (.inr (some 2))), some (.inr (.inr (some 100001))), some (.inl 1)]) (st' := [.inl (v 1 ((((v 2 6) + 1)).toNat))]) (I := .invokevirtual 30) (pc0 := 49) (len := 3) rfl rfl rfl ⟨60, rfl⟩ ?_
        show WV _ _ _ 52 _ [.inl 97, .inl (v 1 ((((v 2 6) + 1)).toNat))] _ _ _
        refine n_ic_eq (pc0 := 52) (len := 3) (t := 57) rfl (by first | assumption | omega | (unfold R32 at *; omega) | (unfold R64 at *; omega) | (simp only [R32, R64] at *; omega)) (by first | assumption | omega | (unfold R32 at *; omega) | (unfold R64 at *; omega) | (simp only [R32, R64] at *; omega)) (fun h_52 => ?_) (fun h_52 => ?_)
        · show WV _ _ _ 57 _ _ _ _ _
          rw [if_pos h_52] at hQ
          refine r_ex 4 (pc' := 30) (lo' := [some (.inr (.inr (some 2))), some (.inr (.inr (some 100001))), some (.inl 2)]) (st' := [.inr (.inr (some 100001)), .inl 2]) rfl ?_
          refine r_call (rr := some (.inl 3)) (b' := 1) (v' := v) (m := 28) (args := [.inr (.inr (some 100001))]) (n' := 27) (pc' := 33) (lo' := [some (.inr (.inr (some 2))), some (.inr (.inr (some 100001))), some (.inl 2)]) (st' := [.inl 2]) (I := .invokevirtual 28) (pc0 := 30) (len := 3) rfl rfl rfl ⟨60, rfl⟩ ?_
          show WV _ _ _ 33 _ [.inl 3, .inl 2] _ _ _
          refine r_ex 7 (pc' := 46) (lo' := [some (.inr (.inr (some 2))), some (.inr (.inr (some 100001))), some (.inl 2)]) (st' := [.inl ((v 2 6) + 2), .inr (.inr (some 1))]) rfl ?_
          refine r_bald2 (x := (v 1 ((((v 2 6) + 2)).toNat))) (pc' := 47) (pc0 := 46) (len := 1) rfl (s_1 _) (Or.inl rfl) (by first | assumption | omega | (unfold R32 at *; omega) | (unfold R64 at *; omega) | (simp only [R32, R64] at *; omega)) (by decide) rfl rfl ?_
          have hb_6 : -128 ≤ (v 1 ((((v 2 6) + 2)).toNat)) ∧ (v 1 ((((v 2 6) + 2)).toNat)) ≤ 127 := hX 1 ((((v 2 6) + 2)).toNat)
          refine r_ex 2 (pc' := 49) (lo' := [some (.inr (.inr (some 2))), some (.inr (.inr (some 100001))), some (.inl 2)]) (st' := [.inl 2, .inr (.inr (some 100001)), .inl (v 1 ((((v 2 6) + 2)).toNat))]) rfl ?_
          refine r_call (rr := some (.inl 121)) (b' := 1) (v' := v) (m := 30) (args := [.inr (.inr (some 100001)), .inl 2]) (n' := 27) (pc' := 52) (lo' := [some (.inr (.inr (some 2))), some (.inr (.inr (some 100001))), some (.inl 2)]) (st' := [.inl (v 1 ((((v 2 6) + 2)).toNat))]) (I := .invokevirtual 30) (pc0 := 49) (len := 3) rfl rfl rfl ⟨60, rfl⟩ ?_
          show WV _ _ _ 52 _ [.inl 121, .inl (v 1 ((((v 2 6) + 2)).toNat))] _ _ _
          refine n_ic_eq (pc0 := 52) (len := 3) (t := 57) rfl (by first | assumption | omega | (unfold R32 at *; omega) | (unfold R64 at *; omega) | (simp only [R32, R64] at *; omega)) (by first | assumption | omega | (unfold R32 at *; omega) | (unfold R64 at *; omega) | (simp only [R32, R64] at *; omega)) (fun h_52 => ?_) (fun h_52 => ?_)
          · show WV _ _ _ 57 _ _ _ _ _
            rw [if_pos h_52] at hQ
            refine r_ex 4 (pc' := 30) (lo' := [some (.inr (.inr (some 2))), some (.inr (.inr (some 100001))), some (.inl 3)]) (st' := [.inr (.inr (some 100001)), .inl 3]) rfl ?_
            refine r_call (rr := some (.inl 3)) (b' := 1) (v' := v) (m := 28) (args := [.inr (.inr (some 100001))]) (n' := 27) (pc' := 33) (lo' := [some (.inr (.inr (some 2))), some (.inr (.inr (some 100001))), some (.inl 3)]) (st' := [.inl 3]) (I := .invokevirtual 28) (pc0 := 30) (len := 3) rfl rfl rfl ⟨60, rfl⟩ ?_
            show WV _ _ _ 33 _ [.inl 3, .inl 3] _ _ _
            refine r_ex 2 (pc' := 64) (lo' := [some (.inr (.inr (some 2))), some (.inr (.inr (some 100001))), some (.inl 3)]) (st' := [.inl 1]) rfl ?_
            refine r_ret (rr := some (.inl 1)) (I := .ireturn) (pc0 := 64) (len := 1) rfl rfl ?_
            exact hQ (by first | assumption | omega | (unfold R32 at *; omega) | (unfold R64 at *; omega) | (simp only [R32, R64] at *; omega))
          · show WV _ _ _ 55 _ _ _ _ _
            rw [if_neg h_52] at hQ
            refine r_ex 1 (pc' := 56) (lo' := [some (.inr (.inr (some 2))), some (.inr (.inr (some 100001))), some (.inl 2)]) (st' := [.inl 0]) rfl ?_
            refine r_ret (rr := some (.inl 0)) (I := .ireturn) (pc0 := 56) (len := 1) rfl rfl ?_
            exact hQ (by first | assumption | omega | (unfold R32 at *; omega) | (unfold R64 at *; omega) | (simp only [R32, R64] at *; omega))
        · show WV _ _ _ 55 _ _ _ _ _
          rw [if_neg h_52] at hQ
          refine r_ex 1 (pc' := 56) (lo' := [some (.inr (.inr (some 2))), some (.inr (.inr (some 100001))), some (.inl 1)]) (st' := [.inl 0]) rfl ?_
          refine r_ret (rr := some (.inl 0)) (I := .ireturn) (pc0 := 56) (len := 1) rfl rfl ?_
          exact hQ (by first | assumption | omega | (unfold R32 at *; omega) | (unfold R64 at *; omega) | (simp only [R32, R64] at *; omega))
      · show WV _ _ _ 55 _ _ _ _ _
        rw [if_neg h_52] at hQ
        refine r_ex 1 (pc' := 56) (lo' := [some (.inr (.inr (some 2))), some (.inr (.inr (some 100001))), some (.inl 0)]) (st' := [.inl 0]) rfl ?_
        refine r_ret (rr := some (.inl 0)) (I := .ireturn) (pc0 := 56) (len := 1) rfl rfl ?_
        exact hQ (by first | assumption | omega | (unfold R32 at *; omega) | (unfold R64 at *; omega) | (simp only [R32, R64] at *; omega))
    · show WV _ _ _ 24 _ _ _ _ _
      rw [if_neg h_21] at hQ
      refine r_ex 1 (pc' := 25) (lo' := [some (.inr (.inr (some 2))), some (.inr (.inr (some 100001))), none]) (st' := [.inl 0]) rfl ?_
      refine r_ret (rr := some (.inl 0)) (I := .ireturn) (pc0 := 25) (len := 1) rfl rfl ?_
      exact hQ (by first | assumption | omega | (unfold R32 at *; omega) | (unfold R64 at *; omega) | (simp only [R32, R64] at *; omega))

theorem e_cl_isAt0 {X : PX} {d : Nat} {v : VS}  (hX : XI v) (hp_a : (v 2 7) ≤ (v 2 4)) : EvV X (d + 1 + 1 + 1 + 1) 27 [.inr (.inr (some 2)), .inr (.inr (some 100001))] 1 v (some (.inl (cl_isAt0 v))) 1 v := EvV.of (w_cl_isAt0 hX hp_a (fun _ => ⟨rfl, rfl, rfl⟩))

theorem n_cl_isAt0 {v : VS}  (hX : XI v) (hp_a : (v 2 7) ≤ (v 2 4)) : 0 ≤ (cl_isAt0 v) ∧ (cl_isAt0 v) ≤ 1 := by
  have q : WV (0, fun _ => 0, none) (0 + 1 + 1 + 1 + 1) 27 0 [some (.inr (.inr (some 2))), some (.inr (.inr (some 100001))), none] [] 1 v (fun _ _ _ => 0 ≤ (cl_isAt0 v) ∧ (cl_isAt0 v) ≤ 1) := w_cl_isAt0 (X := (0, fun _ => 0, none)) (d := 0) hX hp_a (fun q => q)
  obtain ⟨_, _, _, _, _, _, _, q⟩ := q
  exact q

def cl_word0 (v : VS)  : VS :=
  (if (v 2 1) = 0 then (if (cl_isAt0 v) = 0 then (cl_fail v 1) else (cl_advance v)) else (cl_fail v 1))
theorem w_cl_word0 {X : PX} {d : Nat} {v : VS}  (hX : XI v) (hp_a : (v 2 7) ≤ (v 2 4)) {Q : Option PV → Nat → VS → Prop} (hQ : XI (cl_word0 v) → (((cl_word0 v) 2 7) ≤ ((cl_word0 v) 2 4)) → Q none 1 (cl_word0 v)) : WV X (d + 1 + 1 + 1 + 1 + 1) 26 0 [some (.inr (.inr (some 2))), some (.inr (.inr (some 100001)))] [] 1 v Q := by
  rw [cl_word0] at hQ
  refine r_ex 2 (pc' := 4) (lo' := [some (.inr (.inr (some 2))), some (.inr (.inr (some 100001)))]) (st' := [.inl (v 2 1)]) rfl ?_
  have hb_1 : 0 ≤ (v 2 1) ∧ (v 2 1) ≤ 3 := hX 2 1
  refine n_if_ne (pc0 := 4) (len := 3) (t := 22) rfl (by first | assumption | omega | (unfold R32 at *; omega) | (unfold R64 at *; omega) | (simp only [R32, R64] at *; omega)) (fun h_4 => ?_) (fun h_4 => ?_)
  · show WV _ _ _ 22 _ _ _ _ _
    rw [if_neg h_4] at hQ
    refine r_ex 2 (pc' := 24) (lo' := [some (.inr (.inr (some 2))), some (.inr (.inr (some 100001)))]) (st' := [.inl 1, .inr (.inr (some 2))]) rfl ?_
    have hp_2 : 1 ≤ (1 : Int) ∧ (1 : Int) ≤ 3 := (by first | assumption | omega | (unfold R32 at *; omega) | (unfold R64 at *; omega) | (simp only [R32, R64] at *; omega))
    have hp_3 : (v 2 7) ≤ (v 2 4) := (show (v 2 7) ≤ (v 2 4) from (by first | assumption | omega | (unfold R32 at *; omega) | (unfold R64 at *; omega) | (simp only [R32, R64] at *; omega)))
    refine r_call (m := 39) (args := [.inr (.inr (some 2)), .inl 1]) (n' := 26) (pc' := 27) (lo' := [some (.inr (.inr (some 2))), some (.inr (.inr (some 100001)))]) (st' := []) (I := .invokevirtual 39) (pc0 := 24) (len := 3) rfl rfl rfl (e_cl_fail hX hp_2 hp_3) ?_
    show WV _ _ _ 27 _ [] _ (cl_fail v 1) _
    have hX_4 : XI (cl_fail v 1) := i_cl_fail (v := v) (k := 1) hX hp_2 hp_3
    have hb_5 : ((cl_fail v 1) 2 7) ≤ ((cl_fail v 1) 2 4) := n_cl_fail (v := v) (k := 1) hX hp_2 hp_3
    refine r_ret (rr := none) (I := .return_) (pc0 := 27) (len := 1) rfl rfl ?_
    exact hQ hX_4 (show ((cl_fail v 1) 2 7) ≤ ((cl_fail v 1) 2 4) from (by first | assumption | omega | (unfold R32 at *; omega) | (unfold R64 at *; omega) | (simp only [R32, R64] at *; omega)))
  · show WV _ _ _ 7 _ _ _ _ _
    rw [if_pos h_4] at hQ
    refine r_ex 2 (pc' := 9) (lo' := [some (.inr (.inr (some 2))), some (.inr (.inr (some 100001)))]) (st' := [.inr (.inr (some 100001)), .inr (.inr (some 2))]) rfl ?_
    have hp_6 : (v 2 7) ≤ (v 2 4) := (show (v 2 7) ≤ (v 2 4) from (by first | assumption | omega | (unfold R32 at *; omega) | (unfold R64 at *; omega) | (simp only [R32, R64] at *; omega)))
    refine r_call (m := 27) (args := [.inr (.inr (some 2)), .inr (.inr (some 100001))]) (n' := 26) (pc' := 12) (lo' := [some (.inr (.inr (some 2))), some (.inr (.inr (some 100001)))]) (st' := []) (I := .invokevirtual 27) (pc0 := 9) (len := 3) rfl rfl rfl (e_cl_isAt0 hX hp_6) ?_
    show WV _ _ _ 12 _ [.inl (cl_isAt0 v)] _ _ _
    have hb_7 := n_cl_isAt0 (v := v) hX hp_6
    refine n_if_eq (pc0 := 12) (len := 3) (t := 22) rfl (by first | assumption | omega | (unfold R32 at *; omega) | (unfold R64 at *; omega) | (simp only [R32, R64] at *; omega)) (fun h_12 => ?_) (fun h_12 => ?_)
    · show WV _ _ _ 22 _ _ _ _ _
      rw [if_pos h_12] at hQ
      refine r_ex 2 (pc' := 24) (lo' := [some (.inr (.inr (some 2))), some (.inr (.inr (some 100001)))]) (st' := [.inl 1, .inr (.inr (some 2))]) rfl ?_
      have hp_8 : 1 ≤ (1 : Int) ∧ (1 : Int) ≤ 3 := (by first | assumption | omega | (unfold R32 at *; omega) | (unfold R64 at *; omega) | (simp only [R32, R64] at *; omega))
      have hp_9 : (v 2 7) ≤ (v 2 4) := (show (v 2 7) ≤ (v 2 4) from (by first | assumption | omega | (unfold R32 at *; omega) | (unfold R64 at *; omega) | (simp only [R32, R64] at *; omega)))
      refine r_call (m := 39) (args := [.inr (.inr (some 2)), .inl 1]) (n' := 26) (pc' := 27) (lo' := [some (.inr (.inr (some 2))), some (.inr (.inr (some 100001)))]) (st' := []) (I := .invokevirtual 39) (pc0 := 24) (len := 3) rfl rfl rfl (e_cl_fail hX hp_8 hp_9) ?_
      show WV _ _ _ 27 _ [] _ (cl_fail v 1) _
      have hX_10 : XI (cl_fail v 1) := i_cl_fail (v := v) (k := 1) hX hp_8 hp_9
      have hb_11 : ((cl_fail v 1) 2 7) ≤ ((cl_fail v 1) 2 4) := n_cl_fail (v := v) (k := 1) hX hp_8 hp_9
      refine r_ret (rr := none) (I := .return_) (pc0 := 27) (len := 1) rfl rfl ?_
      exact hQ hX_10 (show ((cl_fail v 1) 2 7) ≤ ((cl_fail v 1) 2 4) from (by first | assumption | omega | (unfold R32 at *; omega) | (unfold R64 at *; omega) | (simp only [R32, R64] at *; omega)))
    · show WV _ _ _ 15 _ _ _ _ _
      rw [if_neg h_12] at hQ
      refine r_ex 1 (pc' := 16) (lo' := [some (.inr (.inr (some 2))), some (.inr (.inr (some 100001)))]) (st' := [.inr (.inr (some 2))]) rfl ?_
      have hp_12 : (v 2 7) ≤ (v 2 4) := (show (v 2 7) ≤ (v 2 4) from (by first | assumption | omega | (unfold R32 at *; omega) | (unfold R64 at *; omega) | (simp only [R32, R64] at *; omega)))
      refine r_call (m := 21) (args := [.inr (.inr (some 2))]) (n' := 26) (pc' := 19) (lo' := [some (.inr (.inr (some 2))), some (.inr (.inr (some 100001)))]) (st' := []) (I := .invokevirtual 21) (pc0 := 16) (len := 3) rfl rfl rfl (e_cl_advance hX hp_12) ?_
      show WV _ _ _ 19 _ [] _ (cl_advance v) _
      have hX_13 : XI (cl_advance v) := i_cl_advance (v := v) hX hp_12
      have hb_14 : ((cl_advance v) 2 7) ≤ ((cl_advance v) 2 4) := n_cl_advance (v := v) hX hp_12
      refine r_ex 1 (pc' := 27) (lo' := [some (.inr (.inr (some 2))), some (.inr (.inr (some 100001)))]) (st' := []) rfl ?_
      refine r_ret (rr := none) (I := .return_) (pc0 := 27) (len := 1) rfl rfl ?_
      exact hQ hX_13 (show ((cl_advance v) 2 7) ≤ ((cl_advance v) 2 4) from (by first | assumption | omega | (unfold R32 at *; omega) | (unfold R64 at *; omega) | (simp only [R32, R64] at *; omega)))

theorem e_cl_word0 {X : PX} {d : Nat} {v : VS}  (hX : XI v) (hp_a : (v 2 7) ≤ (v 2 4)) : EvV X (d + 1 + 1 + 1 + 1 + 1) 26 [.inr (.inr (some 2)), .inr (.inr (some 100001))] 1 v none 1 (cl_word0 v) := EvV.of (w_cl_word0 hX hp_a (fun _ _ => ⟨rfl, rfl, rfl⟩))

theorem i_cl_word0 {v : VS}  (hX : XI v) (hp_a : (v 2 7) ≤ (v 2 4)) : XI (cl_word0 v) := by
  have q : WV (0, fun _ => 0, none) (0 + 1 + 1 + 1 + 1 + 1) 26 0 [some (.inr (.inr (some 2))), some (.inr (.inr (some 100001)))] [] 1 v (fun _ _ _ => XI (cl_word0 v)) := w_cl_word0 (X := (0, fun _ => 0, none)) (d := 0) hX hp_a (fun q _ => q)
  obtain ⟨_, _, _, _, _, _, _, q⟩ := q
  exact q

theorem n_cl_word0 {v : VS}  (hX : XI v) (hp_a : (v 2 7) ≤ (v 2 4)) : ((cl_word0 v) 2 7) ≤ ((cl_word0 v) 2 4) := by
  have q : WV (0, fun _ => 0, none) (0 + 1 + 1 + 1 + 1 + 1) 26 0 [some (.inr (.inr (some 2))), some (.inr (.inr (some 100001)))] [] 1 v (fun _ _ _ => ((cl_word0 v) 2 7) ≤ ((cl_word0 v) 2 4)) := w_cl_word0 (X := (0, fun _ => 0, none)) (d := 0) hX hp_a (fun _ q => q)
  obtain ⟨_, _, _, _, _, _, _, q⟩ := q
  exact q

theorem o_cl_word0 {rk : Nat} {v : VS}  (hk : (rk < 2 ∨ 2 < rk)) : (cl_word0 v ) rk = v rk := by
  unfold cl_word0
  by_cases hc_ : (v 2 1) = 0
  · rw [if_pos hc_]
    by_cases hc_ : (cl_isAt0 v) = 0
    · rw [if_pos hc_]
      all_goals (show (cl_fail v 1) rk = _)
      all_goals (rw [o_cl_fail (by omega)])
    · rw [if_neg hc_]
      all_goals (show (cl_advance v) rk = _)
      all_goals (rw [o_cl_advance (by omega)])
  · rw [if_neg hc_]
    all_goals (show (cl_fail v 1) rk = _)
    all_goals (rw [o_cl_fail (by omega)])

def cl_isAt1 (v : VS)  : Int :=
  (if (v 2 5) = 1 then (if 8 = ((v 2 7) - (v 2 6)) then (if (v 1 ((((v 2 6) + 0)).toNat)) = 99 then (if (v 1 ((((v 2 6) + 1)).toNat)) = 104 then (if (v 1 ((((v 2 6) + 2)).toNat)) = 117 then (if (v 1 ((((v 2 6) + 3)).toNat)) = 114 then (if (v 1 ((((v 2 6) + 4)).toNat)) = 99 then (if (v 1 ((((v 2 6) + 5)).toNat)) = 104 then (if (v 1 ((((v 2 6) + 6)).toNat)) = 101 then (if (v 1 ((((v 2 6) + 7)).toNat)) = 115 then 1 else 0) else 0) else 0) else 0) else 0) else 0) else 0) else 0) else 0) else 0)
theorem w_cl_isAt1 {X : PX} {d : Nat} {v : VS}  (hX : XI v) (hp_a : (v 2 7) ≤ (v 2 4)) {Q : Option PV → Nat → VS → Prop} (hQ : (0 ≤ (cl_isAt1 v) ∧ (cl_isAt1 v) ≤ 1) → Q (some (.inl (cl_isAt1 v))) 1 v) : WV X (d + 1 + 1 + 1 + 1) 27 0 [some (.inr (.inr (some 2))), some (.inr (.inr (some 100003))), none] [] 1 v Q := by
  rw [cl_isAt1] at hQ
  have hz6 : 0 ≤ v 2 6 ∧ v 2 6 ≤ 2000 := hX 2 6
  have hz7 : 0 ≤ v 2 7 ∧ v 2 7 ≤ 2001 := hX 2 7
  have hz4 : 0 ≤ v 2 4 ∧ v 2 4 ≤ 2000 := hX 2 4
  refine r_ex 3 (pc' := 5) (lo' := [some (.inr (.inr (some 2))), some (.inr (.inr (some 100003))), none]) (st' := [.inl 1, .inl (v 2 5)]) rfl ?_
  have hb_1 : 0 ≤ (v 2 5) ∧ (v 2 5) ≤ 4 := hX 2 5
  refine n_ic_ne (pc0 := 5) (len := 3) (t := 24) rfl (by first | assumption | omega | (unfold R32 at *; omega) | (unfold R64 at *; omega) | (simp only [R32, R64] at *; omega)) (by first | assumption | omega | (unfold R32 at *; omega) | (unfold R64 at *; omega) | (simp only [R32, R64] at *; omega)) (fun h_5 => ?_) (fun h_5 => ?_)
  · show WV _ _ _ 24 _ _ _ _ _
    rw [if_neg h_5] at hQ
    refine r_ex 1 (pc' := 25) (lo' := [some (.inr (.inr (some 2))), some (.inr (.inr (some 100003))), none]) (st' := [.inl 0]) rfl ?_
    refine r_ret (rr := some (.inl 0)) (I := .ireturn) (pc0 := 25) (len := 1) rfl rfl ?_
    exact hQ (by first | assumption | omega | (unfold R32 at *; omega) | (unfold R64 at *; omega) | (simp only [R32, R64] at *; omega))
  · show WV _ _ _ 8 _ _ _ _ _
    rw [if_pos h_5] at hQ
    refine r_ex 1 (pc' := 9) (lo' := [some (.inr (.inr (some 2))), some (.inr (.inr (some 100003))), none]) (st' := [.inr (.inr (some 100003))]) rfl ?_
    refine r_call (rr := some (.inl 8)) (b' := 1) (v' := v) (m := 28) (args := [.inr (.inr (some 100003))]) (n' := 27) (pc' := 12) (lo' := [some (.inr (.inr (some 2))), some (.inr (.inr (some 100003))), none]) (st' := []) (I := .invokevirtual 28) (pc0 := 9) (len := 3) rfl rfl rfl ⟨60, rfl⟩ ?_
    show WV _ _ _ 12 _ [.inl 8] _ _ _
    refine r_ex 5 (pc' := 21) (lo' := [some (.inr (.inr (some 2))), some (.inr (.inr (some 100003))), none]) (st' := [.inl ((v 2 7) - (v 2 6)), .inl 8]) rfl ?_
    have hb_2 : 0 ≤ (v 2 7) ∧ (v 2 7) ≤ 2001 := hX 2 7
    have hb_3 : 0 ≤ (v 2 6) ∧ (v 2 6) ≤ 2000 := hX 2 6
    refine n_ic_eq (pc0 := 21) (len := 3) (t := 26) rfl (by first | assumption | omega | (unfold R32 at *; omega) | (unfold R64 at *; omega) | (simp only [R32, R64] at *; omega)) (by first | assumption | omega | (unfold R32 at *; omega) | (unfold R64 at *; omega) | (simp only [R32, R64] at *; omega)) (fun h_21 => ?_) (fun h_21 => ?_)
    · show WV _ _ _ 26 _ _ _ _ _
      rw [if_pos h_21] at hQ
      refine r_ex 4 (pc' := 30) (lo' := [some (.inr (.inr (some 2))), some (.inr (.inr (some 100003))), some (.inl 0)]) (st' := [.inr (.inr (some 100003)), .inl 0]) rfl ?_
      refine r_call (rr := some (.inl 8)) (b' := 1) (v' := v) (m := 28) (args := [.inr (.inr (some 100003))]) (n' := 27) (pc' := 33) (lo' := [some (.inr (.inr (some 2))), some (.inr (.inr (some 100003))), some (.inl 0)]) (st' := [.inl 0]) (I := .invokevirtual 28) (pc0 := 30) (len := 3) rfl rfl rfl ⟨60, rfl⟩ ?_
      show WV _ _ _ 33 _ [.inl 8, .inl 0] _ _ _
      refine r_ex 7 (pc' := 46) (lo' := [some (.inr (.inr (some 2))), some (.inr (.inr (some 100003))), some (.inl 0)]) (st' := [.inl ((v 2 6) + 0), .inr (.inr (some 1))]) rfl ?_
      refine r_bald2 (x := (v 1 ((((v 2 6) + 0)).toNat))) (pc' := 47) (pc0 := 46) (len := 1) rfl (s_1 _) (Or.inl rfl) (by first | assumption | omega | (unfold R32 at *; omega) | (unfold R64 at *; omega) | (simp only [R32, R64] at *; omega)) (by decide) rfl rfl ?_
      have hb_4 : -128 ≤ (v 1 ((((v 2 6) + 0)).toNat)) ∧ (v 1 ((((v 2 6) + 0)).toNat)) ≤ 127 := hX 1 ((((v 2 6) + 0)).toNat)
      refine r_ex 2 (pc' := 49) (lo' := [some (.inr (.inr (some 2))), some (.inr (.inr (some 100003))), some (.inl 0)]) (st' := [.inl 0, .inr (.inr (some 100003)), .inl (v 1 ((((v 2 6) + 0)).toNat))]) rfl ?_
      refine r_call (rr := some (.inl 99)) (b' := 1) (v' := v) (m := 30) (args := [.inr (.inr (some 100003)), .inl 0]) (n' := 27) (pc' := 52) (lo' := [some (.inr (.inr (some 2))), some (.inr (.inr (some 100003))), some (.inl 0)]) (st' := [.inl (v 1 ((((v 2 6) + 0)).toNat))]) (I := .invokevirtual 30) (pc0 := 49) (len := 3) rfl rfl rfl ⟨60, rfl⟩ ?_
      show WV _ _ _ 52 _ [.inl 99, .inl (v 1 ((((v 2 6) + 0)).toNat))] _ _ _
      refine n_ic_eq (pc0 := 52) (len := 3) (t := 57) rfl (by first | assumption | omega | (unfold R32 at *; omega) | (unfold R64 at *; omega) | (simp only [R32, R64] at *; omega)) (by first | assumption | omega | (unfold R32 at *; omega) | (unfold R64 at *; omega) | (simp only [R32, R64] at *; omega)) (fun h_52 => ?_) (fun h_52 => ?_)
      · show WV _ _ _ 57 _ _ _ _ _
        rw [if_pos h_52] at hQ
        refine r_ex 4 (pc' := 30) (lo' := [some (.inr (.inr (some 2))), some (.inr (.inr (some 100003))), some (.inl 1)]) (st' := [.inr (.inr (some 100003)), .inl 1]) rfl ?_
        refine r_call (rr := some (.inl 8)) (b' := 1) (v' := v) (m := 28) (args := [.inr (.inr (some 100003))]) (n' := 27) (pc' := 33) (lo' := [some (.inr (.inr (some 2))), some (.inr (.inr (some 100003))), some (.inl 1)]) (st' := [.inl 1]) (I := .invokevirtual 28) (pc0 := 30) (len := 3) rfl rfl rfl ⟨60, rfl⟩ ?_
        show WV _ _ _ 33 _ [.inl 8, .inl 1] _ _ _
        refine r_ex 7 (pc' := 46) (lo' := [some (.inr (.inr (some 2))), some (.inr (.inr (some 100003))), some (.inl 1)]) (st' := [.inl ((v 2 6) + 1), .inr (.inr (some 1))]) rfl ?_
        refine r_bald2 (x := (v 1 ((((v 2 6) + 1)).toNat))) (pc' := 47) (pc0 := 46) (len := 1) rfl (s_1 _) (Or.inl rfl) (by first | assumption | omega | (unfold R32 at *; omega) | (unfold R64 at *; omega) | (simp only [R32, R64] at *; omega)) (by decide) rfl rfl ?_
        have hb_5 : -128 ≤ (v 1 ((((v 2 6) + 1)).toNat)) ∧ (v 1 ((((v 2 6) + 1)).toNat)) ≤ 127 := hX 1 ((((v 2 6) + 1)).toNat)
        refine r_ex 2 (pc' := 49) (lo' := [some (.inr (.inr (some 2))), some (.inr (.inr (some 100003))), some (.inl 1)]) (st' := [.inl 1, .inr (.inr (some 100003)), .inl (v 1 ((((v 2 6) + 1)).toNat))]) rfl ?_
        refine r_call (rr := some (.inl 104)) (b' := 1) (v' := v) (m := 30) (args := [.inr (.inr (some 100003)), .inl 1]) (n' := 27) (pc' := 52) (lo' := [some (.inr (.inr (some 2))), some (.inr (.inr (some 100003))), some (.inl 1)]) (st' := [.inl (v 1 ((((v 2 6) + 1)).toNat))]) (I := .invokevirtual 30) (pc0 := 49) (len := 3) rfl rfl rfl ⟨60, rfl⟩ ?_
        show WV _ _ _ 52 _ [.inl 104, .inl (v 1 ((((v 2 6) + 1)).toNat))] _ _ _
        refine n_ic_eq (pc0 := 52) (len := 3) (t := 57) rfl (by first | assumption | omega | (unfold R32 at *; omega) | (unfold R64 at *; omega) | (simp only [R32, R64] at *; omega)) (by first | assumption | omega | (unfold R32 at *; omega) | (unfold R64 at *; omega) | (simp only [R32, R64] at *; omega)) (fun h_52 => ?_) (fun h_52 => ?_)
        · show WV _ _ _ 57 _ _ _ _ _
          rw [if_pos h_52] at hQ
          refine r_ex 4 (pc' := 30) (lo' := [some (.inr (.inr (some 2))), some (.inr (.inr (some 100003))), some (.inl 2)]) (st' := [.inr (.inr (some 100003)), .inl 2]) rfl ?_
          refine r_call (rr := some (.inl 8)) (b' := 1) (v' := v) (m := 28) (args := [.inr (.inr (some 100003))]) (n' := 27) (pc' := 33) (lo' := [some (.inr (.inr (some 2))), some (.inr (.inr (some 100003))), some (.inl 2)]) (st' := [.inl 2]) (I := .invokevirtual 28) (pc0 := 30) (len := 3) rfl rfl rfl ⟨60, rfl⟩ ?_
          show WV _ _ _ 33 _ [.inl 8, .inl 2] _ _ _
          refine r_ex 7 (pc' := 46) (lo' := [some (.inr (.inr (some 2))), some (.inr (.inr (some 100003))), some (.inl 2)]) (st' := [.inl ((v 2 6) + 2), .inr (.inr (some 1))]) rfl ?_
          refine r_bald2 (x := (v 1 ((((v 2 6) + 2)).toNat))) (pc' := 47) (pc0 := 46) (len := 1) rfl (s_1 _) (Or.inl rfl) (by first | assumption | omega | (unfold R32 at *; omega) | (unfold R64 at *; omega) | (simp only [R32, R64] at *; omega)) (by decide) rfl rfl ?_
          have hb_6 : -128 ≤ (v 1 ((((v 2 6) + 2)).toNat)) ∧ (v 1 ((((v 2 6) + 2)).toNat)) ≤ 127 := hX 1 ((((v 2 6) + 2)).toNat)
          refine r_ex 2 (pc' := 49) (lo' := [some (.inr (.inr (some 2))), some (.inr (.inr (some 100003))), some (.inl 2)]) (st' := [.inl 2, .inr (.inr (some 100003)), .inl (v 1 ((((v 2 6) + 2)).toNat))]) rfl ?_
          refine r_call (rr := some (.inl 117)) (b' := 1) (v' := v) (m := 30) (args := [.inr (.inr (some 100003)), .inl 2]) (n' := 27) (pc' := 52) (lo' := [some (.inr (.inr (some 2))), some (.inr (.inr (some 100003))), some (.inl 2)]) (st' := [.inl (v 1 ((((v 2 6) + 2)).toNat))]) (I := .invokevirtual 30) (pc0 := 49) (len := 3) rfl rfl rfl ⟨60, rfl⟩ ?_
          show WV _ _ _ 52 _ [.inl 117, .inl (v 1 ((((v 2 6) + 2)).toNat))] _ _ _
          refine n_ic_eq (pc0 := 52) (len := 3) (t := 57) rfl (by first | assumption | omega | (unfold R32 at *; omega) | (unfold R64 at *; omega) | (simp only [R32, R64] at *; omega)) (by first | assumption | omega | (unfold R32 at *; omega) | (unfold R64 at *; omega) | (simp only [R32, R64] at *; omega)) (fun h_52 => ?_) (fun h_52 => ?_)
          · show WV _ _ _ 57 _ _ _ _ _
            rw [if_pos h_52] at hQ
            refine r_ex 4 (pc' := 30) (lo' := [some (.inr (.inr (some 2))), some (.inr (.inr (some 100003))), some (.inl 3)]) (st' := [.inr (.inr (some 100003)), .inl 3]) rfl ?_
            refine r_call (rr := some (.inl 8)) (b' := 1) (v' := v) (m := 28) (args := [.inr (.inr (some 100003))]) (n' := 27) (pc' := 33) (lo' := [some (.inr (.inr (some 2))), some (.inr (.inr (some 100003))), some (.inl 3)]) (st' := [.inl 3]) (I := .invokevirtual 28) (pc0 := 30) (len := 3) rfl rfl rfl ⟨60, rfl⟩ ?_
            show WV _ _ _ 33 _ [.inl 8, .inl 3] _ _ _
            refine r_ex 7 (pc' := 46) (lo' := [some (.inr (.inr (some 2))), some (.inr (.inr (some 100003))), some (.inl 3)]) (st' := [.inl ((v 2 6) + 3), .inr (.inr (some 1))]) rfl ?_
            refine r_bald2 (x := (v 1 ((((v 2 6) + 3)).toNat))) (pc' := 47) (pc0 := 46) (len := 1) rfl (s_1 _) (Or.inl rfl) (by first | assumption | omega | (unfold R32 at *; omega) | (unfold R64 at *; omega) | (simp only [R32, R64] at *; omega)) (by decide) rfl rfl ?_
            have hb_7 : -128 ≤ (v 1 ((((v 2 6) + 3)).toNat)) ∧ (v 1 ((((v 2 6) + 3)).toNat)) ≤ 127 := hX 1 ((((v 2 6) + 3)).toNat)
            refine r_ex 2 (pc' := 49) (lo' := [some (.inr (.inr (some 2))), some (.inr (.inr (some 100003))), some (.inl 3)]) (st' := [.inl 3, .inr (.inr (some 100003)), .inl (v 1 ((((v 2 6) + 3)).toNat))]) rfl ?_
            refine r_call (rr := some (.inl 114)) (b' := 1) (v' := v) (m := 30) (args := [.inr (.inr (some 100003)), .inl 3]) (n' := 27) (pc' := 52) (lo' := [some (.inr (.inr (some 2))), some (.inr (.inr (some 100003))), some (.inl 3)]) (st' := [.inl (v 1 ((((v 2 6) + 3)).toNat))]) (I := .invokevirtual 30) (pc0 := 49) (len := 3) rfl rfl rfl ⟨60, rfl⟩ ?_
            show WV _ _ _ 52 _ [.inl 114, .inl (v 1 ((((v 2 6) + 3)).toNat))] _ _ _
            refine n_ic_eq (pc0 := 52) (len := 3) (t := 57) rfl (by first | assumption | omega | (unfold R32 at *; omega) | (unfold R64 at *; omega) | (simp only [R32, R64] at *; omega)) (by first | assumption | omega | (unfold R32 at *; omega) | (unfold R64 at *; omega) | (simp only [R32, R64] at *; omega)) (fun h_52 => ?_) (fun h_52 => ?_)
            · show WV _ _ _ 57 _ _ _ _ _
              rw [if_pos h_52] at hQ
              refine r_ex 4 (pc' := 30) (lo' := [some (.inr (.inr (some 2))), some (.inr (.inr (some 100003))), some (.inl 4)]) (st' := [.inr (.inr (some 100003)), .inl 4]) rfl ?_
              refine r_call (rr := some (.inl 8)) (b' := 1) (v' := v) (m := 28) (args := [.inr (.inr (some 100003))]) (n' := 27) (pc' := 33) (lo' := [some (.inr (.inr (some 2))), some (.inr (.inr (some 100003))), some (.inl 4)]) (st' := [.inl 4]) (I := .invokevirtual 28) (pc0 := 30) (len := 3) rfl rfl rfl ⟨60, rfl⟩ ?_
              show WV _ _ _ 33 _ [.inl 8, .inl 4] _ _ _
              refine r_ex 7 (pc' := 46) (lo' := [some (.inr (.inr (some 2))), some (.inr (.inr (some 100003))), some (.inl 4)]) (st' := [.inl ((v 2 6) + 4), .inr (.inr (some 1))]) rfl ?_
              refine r_bald2 (x := (v 1 ((((v 2 6) + 4)).toNat))) (pc' := 47) (pc0 := 46) (len := 1) rfl (s_1 _) (Or.inl rfl) (by first | assumption | omega | (unfold R32 at *; omega) | (unfold R64 at *; omega) | (simp only [R32, R64] at *; omega)) (by decide) rfl rfl ?_
              have hb_8 : -128 ≤ (v 1 ((((v 2 6) + 4)).toNat)) ∧ (v 1 ((((v 2 6) + 4)).toNat)) ≤ 127 := hX 1 ((((v 2 6) + 4)).toNat)
              refine r_ex 2 (pc' := 49) (lo' := [some (.inr (.inr (some 2))), some (.inr (.inr (some 100003))), some (.inl 4)]) (st' := [.inl 4, .inr (.inr (some 100003)), .inl (v 1 ((((v 2 6) + 4)).toNat))]) rfl ?_
              refine r_call (rr := some (.inl 99)) (b' := 1) (v' := v) (m := 30) (args := [.inr (.inr (some 100003)), .inl 4]) (n' := 27) (pc' := 52) (lo' := [some (.inr (.inr (some 2))), some (.inr (.inr (some 100003))), some (.inl 4)]) (st' := [.inl (v 1 ((((v 2 6) + 4)).toNat))]) (I := .invokevirtual 30) (pc0 := 49) (len := 3) rfl rfl rfl ⟨60, rfl⟩ ?_
              show WV _ _ _ 52 _ [.inl 99, .inl (v 1 ((((v 2 6) + 4)).toNat))] _ _ _
              refine n_ic_eq (pc0 := 52) (len := 3) (t := 57) rfl (by first | assumption | omega | (unfold R32 at *; omega) | (unfold R64 at *; omega) | (simp only [R32, R64] at *; omega)) (by first | assumption | omega | (unfold R32 at *; omega) | (unfold R64 at *; omega) | (simp only [R32, R64] at *; omega)) (fun h_52 => ?_) (fun h_52 => ?_)
              · show WV _ _ _ 57 _ _ _ _ _
                rw [if_pos h_52] at hQ
                refine r_ex 4 (pc' := 30) (lo' := [some (.inr (.inr (some 2))), some (.inr (.inr (some 100003))), some (.inl 5)]) (st' := [.inr (.inr (some 100003)), .inl 5]) rfl ?_
                refine r_call (rr := some (.inl 8)) (b' := 1) (v' := v) (m := 28) (args := [.inr (.inr (some 100003))]) (n' := 27) (pc' := 33) (lo' := [some (.inr (.inr (some 2))), some (.inr (.inr (some 100003))), some (.inl 5)]) (st' := [.inl 5]) (I := .invokevirtual 28) (pc0 := 30) (len := 3) rfl rfl rfl ⟨60, rfl⟩ ?_
                show WV _ _ _ 33 _ [.inl 8, .inl 5] _ _ _
                refine r_ex 7 (pc' := 46) (lo' := [some (.inr (.inr (some 2))), some (.inr (.inr (some 100003))), some (.inl 5)]) (st' := [.inl ((v 2 6) + 5), .inr (.inr (some 1))]) rfl ?_
                refine r_bald2 (x := (v 1 ((((v 2 6) + 5)).toNat))) (pc' := 47) (pc0 := 46) (len := 1) rfl (s_1 _) (Or.inl rfl) (by first | assumption | omega | (unfold R32 at *; omega) | (unfold R64 at *; omega) | (simp only [R32, R64] at *; omega)) (by decide) rfl rfl ?_
                have hb_9 : -128 ≤ (v 1 ((((v 2 6) + 5)).toNat)) ∧ (v 1 ((((v 2 6) + 5)).toNat)) ≤ 127 := hX 1 ((((v 2 6) + 5)).toNat)
                refine r_ex 2 (pc' := 49) (lo' := [some (.inr (.inr (some 2))), some (.inr (.inr (some 100003))), some (.inl 5)]) (st' := [.inl 5, .inr (.inr (some 100003)), .inl (v 1 ((((v 2 6) + 5)).toNat))]) rfl ?_
                refine r_call (rr := some (.inl 104)) (b' := 1) (v' := v) (m := 30) (args := [.inr (.inr (some 100003)), .inl 5]) (n' := 27) (pc' := 52) (lo' := [some (.inr (.inr (some 2))), some (.inr (.inr (some 100003))), some (.inl 5)]) (st' := [.inl (v 1 ((((v 2 6) + 5)).toNat))]) (I := .invokevirtual 30) (pc0 := 49) (len := 3) rfl rfl rfl ⟨60, rfl⟩ ?_
                show WV _ _ _ 52 _ [.inl 104, .inl (v 1 ((((v 2 6) + 5)).toNat))] _ _ _
                refine n_ic_eq (pc0 := 52) (len := 3) (t := 57) rfl (by first | assumption | omega | (unfold R32 at *; omega) | (unfold R64 at *; omega) | (simp only [R32, R64] at *; omega)) (by first | assumption | omega | (unfold R32 at *; omega) | (unfold R64 at *; omega) | (simp only [R32, R64] at *; omega)) (fun h_52 => ?_) (fun h_52 => ?_)
                · show WV _ _ _ 57 _ _ _ _ _
                  rw [if_pos h_52] at hQ
                  refine r_ex 4 (pc' := 30) (lo' := [some (.inr (.inr (some 2))), some (.inr (.inr (some 100003))), some (.inl 6)]) (st' := [.inr (.inr (some 100003)), .inl 6]) rfl ?_
                  refine r_call (rr := some (.inl 8)) (b' := 1) (v' := v) (m := 28) (args := [.inr (.inr (some 100003))]) (n' := 27) (pc' := 33) (lo' := [some (.inr (.inr (some 2))), some (.inr (.inr (some 100003))), some (.inl 6)]) (st' := [.inl 6]) (I := .invokevirtual 28) (pc0 := 30) (len := 3) rfl rfl rfl ⟨60, rfl⟩ ?_
                  show WV _ _ _ 33 _ [.inl 8, .inl 6] _ _ _
                  refine r_ex 7 (pc' := 46) (lo' := [some (.inr (.inr (some 2))), some (.inr (.inr (some 100003))), some (.inl 6)]) (st' := [.inl ((v 2 6) + 6), .inr (.inr (some 1))]) rfl ?_
                  refine r_bald2 (x := (v 1 ((((v 2 6) + 6)).toNat))) (pc' := 47) (pc0 := 46) (len := 1) rfl (s_1 _) (Or.inl rfl) (by first | assumption | omega | (unfold R32 at *; omega) | (unfold R64 at *; omega) | (simp only [R32, R64] at *; omega)) (by decide) rfl rfl ?_
                  have hb_10 : -128 ≤ (v 1 ((((v 2 6) + 6)).toNat)) ∧ (v 1 ((((v 2 6) + 6)).toNat)) ≤ 127 := hX 1 ((((v 2 6) + 6)).toNat)
                  refine r_ex 2 (pc' := 49) (lo' := [some (.inr (.inr (some 2))), some (.inr (.inr (some 100003))), some (.inl 6)]) (st' := [.inl 6, .inr (.inr (some 100003)), .inl (v 1 ((((v 2 6) + 6)).toNat))]) rfl ?_
                  refine r_call (rr := some (.inl 101)) (b' := 1) (v' := v) (m := 30) (args := [.inr (.inr (some 100003)), .inl 6]) (n' := 27) (pc' := 52) (lo' := [some (.inr (.inr (some 2))), some (.inr (.inr (some 100003))), some (.inl 6)]) (st' := [.inl (v 1 ((((v 2 6) + 6)).toNat))]) (I := .invokevirtual 30) (pc0 := 49) (len := 3) rfl rfl rfl ⟨60, rfl⟩ ?_
                  show WV _ _ _ 52 _ [.inl 101, .inl (v 1 ((((v 2 6) + 6)).toNat))] _ _ _
                  refine n_ic_eq (pc0 := 52) (len := 3) (t := 57) rfl (by first | assumption | omega | (unfold R32 at *; omega) | (unfold R64 at *; omega) | (simp only [R32, R64] at *; omega)) (by first | assumption | omega | (unfold R32 at *; omega) | (unfold R64 at *; omega) | (simp only [R32, R64] at *; omega)) (fun h_52 => ?_) (fun h_52 => ?_)
                  · show WV _ _ _ 57 _ _ _ _ _
                    rw [if_pos h_52] at hQ
                    refine r_ex 4 (pc' := 30) (lo' := [some (.inr (.inr (some 2))), some (.inr (.inr (some 100003))), some (.inl 7)]) (st' := [.inr (.inr (some 100003)), .inl 7]) rfl ?_
                    refine r_call (rr := some (.inl 8)) (b' := 1) (v' := v) (m := 28) (args := [.inr (.inr (some 100003))]) (n' := 27) (pc' := 33) (lo' := [some (.inr (.inr (some 2))), some (.inr (.inr (some 100003))), some (.inl 7)]) (st' := [.inl 7]) (I := .invokevirtual 28) (pc0 := 30) (len := 3) rfl rfl rfl ⟨60, rfl⟩ ?_
                    show WV _ _ _ 33 _ [.inl 8, .inl 7] _ _ _
                    refine r_ex 7 (pc' := 46) (lo' := [some (.inr (.inr (some 2))), some (.inr (.inr (some 100003))), some (.inl 7)]) (st' := [.inl ((v 2 6) + 7), .inr (.inr (some 1))]) rfl ?_
                    refine r_bald2 (x := (v 1 ((((v 2 6) + 7)).toNat))) (pc' := 47) (pc0 := 46) (len := 1) rfl (s_1 _) (Or.inl rfl) (by first | assumption | omega | (unfold R32 at *; omega) | (unfold R64 at *; omega) | (simp only [R32, R64] at *; omega)) (by decide) rfl rfl ?_
                    have hb_11 : -128 ≤ (v 1 ((((v 2 6) + 7)).toNat)) ∧ (v 1 ((((v 2 6) + 7)).toNat)) ≤ 127 := hX 1 ((((v 2 6) + 7)).toNat)
                    refine r_ex 2 (pc' := 49) (lo' := [some (.inr (.inr (some 2))), some (.inr (.inr (some 100003))), some (.inl 7)]) (st' := [.inl 7, .inr (.inr (some 100003)), .inl (v 1 ((((v 2 6) + 7)).toNat))]) rfl ?_
                    refine r_call (rr := some (.inl 115)) (b' := 1) (v' := v) (m := 30) (args := [.inr (.inr (some 100003)), .inl 7]) (n' := 27) (pc' := 52) (lo' := [some (.inr (.inr (some 2))), some (.inr (.inr (some 100003))), some (.inl 7)]) (st' := [.inl (v 1 ((((v 2 6) + 7)).toNat))]) (I := .invokevirtual 30) (pc0 := 49) (len := 3) rfl rfl rfl ⟨60, rfl⟩ ?_
                    show WV _ _ _ 52 _ [.inl 115, .inl (v 1 ((((v 2 6) + 7)).toNat))] _ _ _
                    refine n_ic_eq (pc0 := 52) (len := 3) (t := 57) rfl (by first | assumption | omega | (unfold R32 at *; omega) | (unfold R64 at *; omega) | (simp only [R32, R64] at *; omega)) (by first | assumption | omega | (unfold R32 at *; omega) | (unfold R64 at *; omega) | (simp only [R32, R64] at *; omega)) (fun h_52 => ?_) (fun h_52 => ?_)
                    · show WV _ _ _ 57 _ _ _ _ _
                      rw [if_pos h_52] at hQ
                      refine r_ex 4 (pc' := 30) (lo' := [some (.inr (.inr (some 2))), some (.inr (.inr (some 100003))), some (.inl 8)]) (st' := [.inr (.inr (some 100003)), .inl 8]) rfl ?_
                      refine r_call (rr := some (.inl 8)) (b' := 1) (v' := v) (m := 28) (args := [.inr (.inr (some 100003))]) (n' := 27) (pc' := 33) (lo' := [some (.inr (.inr (some 2))), some (.inr (.inr (some 100003))), some (.inl 8)]) (st' := [.inl 8]) (I := .invokevirtual 28) (pc0 := 30) (len := 3) rfl rfl rfl ⟨60, rfl⟩ ?_
                      show WV _ _ _ 33 _ [.inl 8, .inl 8] _ _ _
                      refine r_ex 2 (pc' := 64) (lo' := [some (.inr (.inr (some 2))), some (.inr (.inr (some 100003))), some (.inl 8)]) (st' := [.inl 1]) rfl ?_
                      refine r_ret (rr := some (.inl 1)) (I := .ireturn) (pc0 := 64) (len := 1) rfl rfl ?_
                      exact hQ (by first | assumption | omega | (unfold R32 at *; omega) | (unfold R64 at *; omega) | (simp only [R32, R64] at *; omega))
                    · show WV _ _ _ 55 _ _ _ _ _
                      rw [if_neg h_52] at hQ
                      refine r_ex 1 (pc' := 56) (lo' := [some (.inr (.inr (some 2))), some (.inr (.inr (some 100003))), some (.inl 7)]) (st' := [.inl 0]) rfl ?_
                      refine r_ret (rr := some (.inl 0)) (I := .ireturn) (pc0 := 56) (len := 1) rfl rfl ?_
                      exact hQ (by first | assumption | omega | (unfold R32 at *; omega) | (unfold R64 at *; omega) | (simp only [R32, R64] at *; omega))
                  · show WV _ _ _ 55 _ _ _ _ _
                    rw [if_neg h_52] at hQ
                    refine r_ex 1 (pc' := 56) (lo' := [some (.inr (.inr (some 2))), some (.inr (.inr (some 100003))), some (.inl 6)]) (st' := [.inl 0]) rfl ?_
                    refine r_ret (rr := some (.inl 0)) (I := .ireturn) (pc0 := 56) (len := 1) rfl rfl ?_
                    exact hQ (by first | assumption | omega | (unfold R32 at *; omega) | (unfold R64 at *; omega) | (simp only [R32, R64] at *; omega))
                · show WV _ _ _ 55 _ _ _ _ _
                  rw [if_neg h_52] at hQ
                  refine r_ex 1 (pc' := 56) (lo' := [some (.inr (.inr (some 2))), some (.inr (.inr (some 100003))), some (.inl 5)]) (st' := [.inl 0]) rfl ?_
                  refine r_ret (rr := some (.inl 0)) (I := .ireturn) (pc0 := 56) (len := 1) rfl rfl ?_
                  exact hQ (by first | assumption | omega | (unfold R32 at *; omega) | (unfold R64 at *; omega) | (simp only [R32, R64] at *; omega))
              · show WV _ _ _ 55 _ _ _ _ _
                rw [if_neg h_52] at hQ
                refine r_ex 1 (pc' := 56) (lo' := [some (.inr (.inr (some 2))), some (.inr (.inr (some 100003))), some (.inl 4)]) (st' := [.inl 0]) rfl ?_
                refine r_ret (rr := some (.inl 0)) (I := .ireturn) (pc0 := 56) (len := 1) rfl rfl ?_
                exact hQ (by first | assumption | omega | (unfold R32 at *; omega) | (unfold R64 at *; omega) | (simp only [R32, R64] at *; omega))
            · show WV _ _ _ 55 _ _ _ _ _
              rw [if_neg h_52] at hQ
              refine r_ex 1 (pc' := 56) (lo' := [some (.inr (.inr (some 2))), some (.inr (.inr (some 100003))), some (.inl 3)]) (st' := [.inl 0]) rfl ?_
              refine r_ret (rr := some (.inl 0)) (I := .ireturn) (pc0 := 56) (len := 1) rfl rfl ?_
              exact hQ (by first | assumption | omega | (unfold R32 at *; omega) | (unfold R64 at *; omega) | (simp only [R32, R64] at *; omega))
          · show WV _ _ _ 55 _ _ _ _ _
            rw [if_neg h_52] at hQ
            refine r_ex 1 (pc' := 56) (lo' := [some (.inr (.inr (some 2))), some (.inr (.inr (some 100003))), some (.inl 2)]) (st' := [.inl 0]) rfl ?_
            refine r_ret (rr := some (.inl 0)) (I := .ireturn) (pc0 := 56) (len := 1) rfl rfl ?_
            exact hQ (by first | assumption | omega | (unfold R32 at *; omega) | (unfold R64 at *; omega) | (simp only [R32, R64] at *; omega))
        · show WV _ _ _ 55 _ _ _ _ _
          rw [if_neg h_52] at hQ
          refine r_ex 1 (pc' := 56) (lo' := [some (.inr (.inr (some 2))), some (.inr (.inr (some 100003))), some (.inl 1)]) (st' := [.inl 0]) rfl ?_
          refine r_ret (rr := some (.inl 0)) (I := .ireturn) (pc0 := 56) (len := 1) rfl rfl ?_
          exact hQ (by first | assumption | omega | (unfold R32 at *; omega) | (unfold R64 at *; omega) | (simp only [R32, R64] at *; omega))
      · show WV _ _ _ 55 _ _ _ _ _
        rw [if_neg h_52] at hQ
        refine r_ex 1 (pc' := 56) (lo' := [some (.inr (.inr (some 2))), some (.inr (.inr (some 100003))), some (.inl 0)]) (st' := [.inl 0]) rfl ?_
        refine r_ret (rr := some (.inl 0)) (I := .ireturn) (pc0 := 56) (len := 1) rfl rfl ?_
        exact hQ (by first | assumption | omega | (unfold R32 at *; omega) | (unfold R64 at *; omega) | (simp only [R32, R64] at *; omega))
    · show WV _ _ _ 24 _ _ _ _ _
      rw [if_neg h_21] at hQ
      refine r_ex 1 (pc' := 25) (lo' := [some (.inr (.inr (some 2))), some (.inr (.inr (some 100003))), none]) (st' := [.inl 0]) rfl ?_
      refine r_ret (rr := some (.inl 0)) (I := .ireturn) (pc0 := 25) (len := 1) rfl rfl ?_
      exact hQ (by first | assumption | omega | (unfold R32 at *; omega) | (unfold R64 at *; omega) | (simp only [R32, R64] at *; omega))

theorem e_cl_isAt1 {X : PX} {d : Nat} {v : VS}  (hX : XI v) (hp_a : (v 2 7) ≤ (v 2 4)) : EvV X (d + 1 + 1 + 1 + 1) 27 [.inr (.inr (some 2)), .inr (.inr (some 100003))] 1 v (some (.inl (cl_isAt1 v))) 1 v := EvV.of (w_cl_isAt1 hX hp_a (fun _ => ⟨rfl, rfl, rfl⟩))

theorem n_cl_isAt1 {v : VS}  (hX : XI v) (hp_a : (v 2 7) ≤ (v 2 4)) : 0 ≤ (cl_isAt1 v) ∧ (cl_isAt1 v) ≤ 1 := by
  have q : WV (0, fun _ => 0, none) (0 + 1 + 1 + 1 + 1) 27 0 [some (.inr (.inr (some 2))), some (.inr (.inr (some 100003))), none] [] 1 v (fun _ _ _ => 0 ≤ (cl_isAt1 v) ∧ (cl_isAt1 v) ≤ 1) := w_cl_isAt1 (X := (0, fun _ => 0, none)) (d := 0) hX hp_a (fun q => q)
  obtain ⟨_, _, _, _, _, _, _, q⟩ := q
  exact q

def cl_word1 (v : VS)  : VS :=
  (if (v 2 1) = 0 then (if (cl_isAt1 v) = 0 then (cl_fail v 1) else (cl_advance v)) else (cl_fail v 1))
theorem w_cl_word1 {X : PX} {d : Nat} {v : VS}  (hX : XI v) (hp_a : (v 2 7) ≤ (v 2 4)) {Q : Option PV → Nat → VS → Prop} (hQ : XI (cl_word1 v) → (((cl_word1 v) 2 7) ≤ ((cl_word1 v) 2 4)) → Q none 1 (cl_word1 v)) : WV X (d + 1 + 1 + 1 + 1 + 1) 26 0 [some (.inr (.inr (some 2))), some (.inr (.inr (some 100003)))] [] 1 v Q := by
  rw [cl_word1] at hQ
  refine r_ex 2 (pc' := 4) (lo' := [some (.inr (.inr (some 2))), some (.inr (.inr (some 100003)))]) (st' := [.inl (v 2 1)]) rfl ?_
  have hb_1 : 0 ≤ (v 2 1) ∧ (v 2 1) ≤ 3 := hX 2 1
  refine n_if_ne (pc0 := 4) (len := 3) (t := 22) rfl (by first | assumption | omega | (unfold R32 at *; omega) | (unfold R64 at *; omega) | (simp only [R32, R64] at *; omega)) (fun h_4 => ?_) (fun h_4 => ?_)
  · show WV _ _ _ 22 _ _ _ _ _
    rw [if_neg h_4] at hQ
    refine r_ex 2 (pc' := 24) (lo' := [some (.inr (.inr (some 2))), some (.inr (.inr (some 100003)))]) (st' := [.inl 1, .inr (.inr (some 2))]) rfl ?_
    have hp_2 : 1 ≤ (1 : Int) ∧ (1 : Int) ≤ 3 := (by first | assumption | omega | (unfold R32 at *; omega) | (unfold R64 at *; omega) | (simp only [R32, R64] at *; omega))
    have hp_3 : (v 2 7) ≤ (v 2 4) := (show (v 2 7) ≤ (v 2 4) from (by first | assumption | omega | (unfold R32 at *; omega) | (unfold R64 at *; omega) | (simp only [R32, R64] at *; omega)))
    refine r_call (m := 39) (args := [.inr (.inr (some 2)), .inl 1]) (n' := 26) (pc' := 27) (lo' := [some (.inr (.inr (some 2))), some (.inr (.inr (some 100003)))]) (st' := []) (I := .invokevirtual 39) (pc0 := 24) (len := 3) rfl rfl rfl (e_cl_fail hX hp_2 hp_3) ?_
    show WV _ _ _ 27 _ [] _ (cl_fail v 1) _
    have hX_4 : XI (cl_fail v 1) := i_cl_fail (v := v) (k := 1) hX hp_2 hp_3
    have hb_5 : ((cl_fail v 1) 2 7) ≤ ((cl_fail v 1) 2 4) := n_cl_fail (v := v) (k := 1) hX hp_2 hp_3
    refine r_ret (rr := none) (I := .return_) (pc0 := 27) (len := 1) rfl rfl ?_
    exact hQ hX_4 (show ((cl_fail v 1) 2 7) ≤ ((cl_fail v 1) 2 4) from (by first | assumption | omega | (unfold R32 at *; omega) | (unfold R64 at *; omega) | (simp only [R32, R64] at *; omega)))
  · show WV _ _ _ 7 _ _ _ _ _
    rw [if_pos h_4] at hQ
    refine r_ex 2 (pc' := 9) (lo' := [some (.inr (.inr (some 2))), some (.inr (.inr (some 100003)))]) (st' := [.inr (.inr (some 100003)), .inr (.inr (some 2))]) rfl ?_
    have hp_6 : (v 2 7) ≤ (v 2 4) := (show (v 2 7) ≤ (v 2 4) from (by first | assumption | omega | (unfold R32 at *; omega) | (unfold R64 at *; omega) | (simp only [R32, R64] at *; omega)))
    refine r_call (m := 27) (args := [.inr (.inr (some 2)), .inr (.inr (some 100003))]) (n' := 26) (pc' := 12) (lo' := [some (.inr (.inr (some 2))), some (.inr (.inr (some 100003)))]) (st' := []) (I := .invokevirtual 27) (pc0 := 9) (len := 3) rfl rfl rfl (e_cl_isAt1 hX hp_6) ?_
    show WV _ _ _ 12 _ [.inl (cl_isAt1 v)] _ _ _
    have hb_7 := n_cl_isAt1 (v := v) hX hp_6
    refine n_if_eq (pc0 := 12) (len := 3) (t := 22) rfl (by first | assumption | omega | (unfold R32 at *; omega) | (unfold R64 at *; omega) | (simp only [R32, R64] at *; omega)) (fun h_12 => ?_) (fun h_12 => ?_)
    · show WV _ _ _ 22 _ _ _ _ _
      rw [if_pos h_12] at hQ
      refine r_ex 2 (pc' := 24) (lo' := [some (.inr (.inr (some 2))), some (.inr (.inr (some 100003)))]) (st' := [.inl 1, .inr (.inr (some 2))]) rfl ?_
      have hp_8 : 1 ≤ (1 : Int) ∧ (1 : Int) ≤ 3 := (by first | assumption | omega | (unfold R32 at *; omega) | (unfold R64 at *; omega) | (simp only [R32, R64] at *; omega))
      have hp_9 : (v 2 7) ≤ (v 2 4) := (show (v 2 7) ≤ (v 2 4) from (by first | assumption | omega | (unfold R32 at *; omega) | (unfold R64 at *; omega) | (simp only [R32, R64] at *; omega)))
      refine r_call (m := 39) (args := [.inr (.inr (some 2)), .inl 1]) (n' := 26) (pc' := 27) (lo' := [some (.inr (.inr (some 2))), some (.inr (.inr (some 100003)))]) (st' := []) (I := .invokevirtual 39) (pc0 := 24) (len := 3) rfl rfl rfl (e_cl_fail hX hp_8 hp_9) ?_
      show WV _ _ _ 27 _ [] _ (cl_fail v 1) _
      have hX_10 : XI (cl_fail v 1) := i_cl_fail (v := v) (k := 1) hX hp_8 hp_9
      have hb_11 : ((cl_fail v 1) 2 7) ≤ ((cl_fail v 1) 2 4) := n_cl_fail (v := v) (k := 1) hX hp_8 hp_9
      refine r_ret (rr := none) (I := .return_) (pc0 := 27) (len := 1) rfl rfl ?_
      exact hQ hX_10 (show ((cl_fail v 1) 2 7) ≤ ((cl_fail v 1) 2 4) from (by first | assumption | omega | (unfold R32 at *; omega) | (unfold R64 at *; omega) | (simp only [R32, R64] at *; omega)))
    · show WV _ _ _ 15 _ _ _ _ _
      rw [if_neg h_12] at hQ
      refine r_ex 1 (pc' := 16) (lo' := [some (.inr (.inr (some 2))), some (.inr (.inr (some 100003)))]) (st' := [.inr (.inr (some 2))]) rfl ?_
      have hp_12 : (v 2 7) ≤ (v 2 4) := (show (v 2 7) ≤ (v 2 4) from (by first | assumption | omega | (unfold R32 at *; omega) | (unfold R64 at *; omega) | (simp only [R32, R64] at *; omega)))
      refine r_call (m := 21) (args := [.inr (.inr (some 2))]) (n' := 26) (pc' := 19) (lo' := [some (.inr (.inr (some 2))), some (.inr (.inr (some 100003)))]) (st' := []) (I := .invokevirtual 21) (pc0 := 16) (len := 3) rfl rfl rfl (e_cl_advance hX hp_12) ?_
      show WV _ _ _ 19 _ [] _ (cl_advance v) _
      have hX_13 : XI (cl_advance v) := i_cl_advance (v := v) hX hp_12
      have hb_14 : ((cl_advance v) 2 7) ≤ ((cl_advance v) 2 4) := n_cl_advance (v := v) hX hp_12
      refine r_ex 1 (pc' := 27) (lo' := [some (.inr (.inr (some 2))), some (.inr (.inr (some 100003)))]) (st' := []) rfl ?_
      refine r_ret (rr := none) (I := .return_) (pc0 := 27) (len := 1) rfl rfl ?_
      exact hQ hX_13 (show ((cl_advance v) 2 7) ≤ ((cl_advance v) 2 4) from (by first | assumption | omega | (unfold R32 at *; omega) | (unfold R64 at *; omega) | (simp only [R32, R64] at *; omega)))

theorem e_cl_word1 {X : PX} {d : Nat} {v : VS}  (hX : XI v) (hp_a : (v 2 7) ≤ (v 2 4)) : EvV X (d + 1 + 1 + 1 + 1 + 1) 26 [.inr (.inr (some 2)), .inr (.inr (some 100003))] 1 v none 1 (cl_word1 v) := EvV.of (w_cl_word1 hX hp_a (fun _ _ => ⟨rfl, rfl, rfl⟩))

theorem i_cl_word1 {v : VS}  (hX : XI v) (hp_a : (v 2 7) ≤ (v 2 4)) : XI (cl_word1 v) := by
  have q : WV (0, fun _ => 0, none) (0 + 1 + 1 + 1 + 1 + 1) 26 0 [some (.inr (.inr (some 2))), some (.inr (.inr (some 100003)))] [] 1 v (fun _ _ _ => XI (cl_word1 v)) := w_cl_word1 (X := (0, fun _ => 0, none)) (d := 0) hX hp_a (fun q _ => q)
  obtain ⟨_, _, _, _, _, _, _, q⟩ := q
  exact q

theorem n_cl_word1 {v : VS}  (hX : XI v) (hp_a : (v 2 7) ≤ (v 2 4)) : ((cl_word1 v) 2 7) ≤ ((cl_word1 v) 2 4) := by
  have q : WV (0, fun _ => 0, none) (0 + 1 + 1 + 1 + 1 + 1) 26 0 [some (.inr (.inr (some 2))), some (.inr (.inr (some 100003)))] [] 1 v (fun _ _ _ => ((cl_word1 v) 2 7) ≤ ((cl_word1 v) 2 4)) := w_cl_word1 (X := (0, fun _ => 0, none)) (d := 0) hX hp_a (fun _ q => q)
  obtain ⟨_, _, _, _, _, _, _, q⟩ := q
  exact q

theorem o_cl_word1 {rk : Nat} {v : VS}  (hk : (rk < 2 ∨ 2 < rk)) : (cl_word1 v ) rk = v rk := by
  unfold cl_word1
  by_cases hc_ : (v 2 1) = 0
  · rw [if_pos hc_]
    by_cases hc_ : (cl_isAt1 v) = 0
    · rw [if_pos hc_]
      all_goals (show (cl_fail v 1) rk = _)
      all_goals (rw [o_cl_fail (by omega)])
    · rw [if_neg hc_]
      all_goals (show (cl_advance v) rk = _)
      all_goals (rw [o_cl_advance (by omega)])
  · rw [if_neg hc_]
    all_goals (show (cl_fail v 1) rk = _)
    all_goals (rw [o_cl_fail (by omega)])

def cl_isAt2 (v : VS)  : Int :=
  (if (v 2 5) = 1 then (if 7 = ((v 2 7) - (v 2 6)) then (if (v 1 ((((v 2 6) + 0)).toNat)) = 115 then (if (v 1 ((((v 2 6) + 1)).toNat)) = 101 then (if (v 1 ((((v 2 6) + 2)).toNat)) = 99 then (if (v 1 ((((v 2 6) + 3)).toNat)) = 111 then (if (v 1 ((((v 2 6) + 4)).toNat)) = 110 then (if (v 1 ((((v 2 6) + 5)).toNat)) = 100 then (if (v 1 ((((v 2 6) + 6)).toNat)) = 115 then 1 else 0) else 0) else 0) else 0) else 0) else 0) else 0) else 0) else 0)
theorem w_cl_isAt2 {X : PX} {d : Nat} {v : VS}  (hX : XI v) (hp_a : (v 2 7) ≤ (v 2 4)) {Q : Option PV → Nat → VS → Prop} (hQ : (0 ≤ (cl_isAt2 v) ∧ (cl_isAt2 v) ≤ 1) → Q (some (.inl (cl_isAt2 v))) 1 v) : WV X (d + 1 + 1 + 1 + 1) 27 0 [some (.inr (.inr (some 2))), some (.inr (.inr (some 100005))), none] [] 1 v Q := by
  rw [cl_isAt2] at hQ
  have hz6 : 0 ≤ v 2 6 ∧ v 2 6 ≤ 2000 := hX 2 6
  have hz7 : 0 ≤ v 2 7 ∧ v 2 7 ≤ 2001 := hX 2 7
  have hz4 : 0 ≤ v 2 4 ∧ v 2 4 ≤ 2000 := hX 2 4
  refine r_ex 3 (pc' := 5) (lo' := [some (.inr (.inr (some 2))), some (.inr (.inr (some 100005))), none]) (st' := [.inl 1, .inl (v 2 5)]) rfl ?_
  have hb_1 : 0 ≤ (v 2 5) ∧ (v 2 5) ≤ 4 := hX 2 5
  refine n_ic_ne (pc0 := 5) (len := 3) (t := 24) rfl (by first | assumption | omega | (unfold R32 at *; omega) | (unfold R64 at *; omega) | (simp only [R32, R64] at *; omega)) (by first | assumption | omega | (unfold R32 at *; omega) | (unfold R64 at *; omega) | (simp only [R32, R64] at *; omega)) (fun h_5 => ?_) (fun h_5 => ?_)
  · show WV _ _ _ 24 _ _ _ _ _
    rw [if_neg h_5] at hQ
    refine r_ex 1 (pc' := 25) (lo' := [some (.inr (.inr (some 2))), some (.inr (.inr (some 100005))), none]) (st' := [.inl 0]) rfl ?_
    refine r_ret (rr := some (.inl 0)) (I := .ireturn) (pc0 := 25) (len := 1) rfl rfl ?_
    exact hQ (by first | assumption | omega | (unfold R32 at *; omega) | (unfold R64 at *; omega) | (simp only [R32, R64] at *; omega))
  · show WV _ _ _ 8 _ _ _ _ _
    rw [if_pos h_5] at hQ
    refine r_ex 1 (pc' := 9) (lo' := [some (.inr (.inr (some 2))), some (.inr (.inr (some 100005))), none]) (st' := [.inr (.inr (some 100005))]) rfl ?_
    refine r_call (rr := some (.inl 7)) (b' := 1) (v' := v) (m := 28) (args := [.inr (.inr (some 100005))]) (n' := 27) (pc' := 12) (lo' := [some (.inr (.inr (some 2))), some (.inr (.inr (some 100005))), none]) (st' := []) (I := .invokevirtual 28) (pc0 := 9) (len := 3) rfl rfl rfl ⟨60, rfl⟩ ?_
    show WV _ _ _ 12 _ [.inl 7] _ _ _
    refine r_ex 5 (pc' := 21) (lo' := [some (.inr (.inr (some 2))), some (.inr (.inr (some 100005))), none]) (st' := [.inl ((v 2 7) - (v 2 6)), .inl 7]) rfl ?_
    have hb_2 : 0 ≤ (v 2 7) ∧ (v 2 7) ≤ 2001 := hX 2 7
    have hb_3 : 0 ≤ (v 2 6) ∧ (v 2 6) ≤ 2000 := hX 2 6
    refine n_ic_eq (pc0 := 21) (len := 3) (t := 26) rfl (by first | assumption | omega | (unfold R32 at *; omega) | (unfold R64 at *; omega) | (simp only [R32, R64] at *; omega)) (by first | assumption | omega | (unfold R32 at *; omega) | (unfold R64 at *; omega) | (simp only [R32, R64] at *; omega)) (fun h_21 => ?_) (fun h_21 => ?_)
    · show WV _ _ _ 26 _ _ _ _ _
      rw [if_pos h_21] at hQ
      refine r_ex 4 (pc' := 30) (lo' := [some (.inr (.inr (some 2))), some (.inr (.inr (some 100005))), some (.inl 0)]) (st' := [.inr (.inr (some 100005)), .inl 0]) rfl ?_
      refine r_call (rr := some (.inl 7)) (b' := 1) (v' := v) (m := 28) (args := [.inr (.inr (some 100005))]) (n' := 27) (pc' := 33) (lo' := [some (.inr (.inr (some 2))), some (.inr (.inr (some 100005))), some (.inl 0)]) (st' := [.inl 0]) (I := .invokevirtual 28) (pc0 := 30) (len := 3) rfl rfl rfl ⟨60, rfl⟩ ?_
      show WV _ _ _ 33 _ [.inl 7, .inl 0] _ _ _
      refine r_ex 7 (pc' := 46) (lo' := [some (.inr (.inr (some 2))), some (.inr (.inr (some 100005))), some (.inl 0)]) (st' := [.inl ((v 2 6) + 0), .inr (.inr (some 1))]) rfl ?_
      refine r_bald2 (x := (v 1 ((((v 2 6) + 0)).toNat))) (pc' := 47) (pc0 := 46) (len := 1) rfl (s_1 _) (Or.inl rfl) (by first | assumption | omega | (unfold R32 at *; omega) | (unfold R64 at *; omega) | (simp only [R32, R64] at *; omega)) (by decide) rfl rfl ?_
      have hb_4 : -128 ≤ (v 1 ((((v 2 6) + 0)).toNat)) ∧ (v 1 ((((v 2 6) + 0)).toNat)) ≤ 127 := hX 1 ((((v 2 6) + 0)).toNat)
      refine r_ex 2 (pc' := 49) (lo' := [some (.inr (.inr (some 2))), some (.inr (.inr (some 100005))), some (.inl 0)]) (st' := [.inl 0, .inr (.inr (some 100005)), .inl (v 1 ((((v 2 6) + 0)).toNat))]) rfl ?_
      refine r_call (rr := some (.inl 115)) (b' := 1) (v' := v) (m := 30) (args := [.inr (.inr (some 100005)), .inl 0]) (n' := 27) (pc' := 52) (lo' := [some (.inr (.inr (some 2))), some (.inr (.inr (some 100005))), some (.inl 0)]) (st' := [.inl (v 1 ((((v 2 6) + 0)).toNat))]) (I := .invokevirtual 30) (pc0 := 49) (len := 3) rfl rfl rfl ⟨60, rfl⟩ ?_
      show WV _ _ _ 52 _ [.inl 115, .inl (v 1 ((((v 2 6) + 0)).toNat))] _ _ _
      refine n_ic_eq (pc0 := 52) (len := 3) (t := 57) rfl (by first | assumption | omega | (unfold R32 at *; omega) | (unfold R64 at *; omega) | (simp only [R32, R64] at *; omega)) (by first | assumption | omega | (unfold R32 at *; omega) | (unfold R64 at *; omega) | (simp only [R32, R64] at *; omega)) (fun h_52 => ?_) (fun h_52 => ?_)
      · show WV _ _ _ 57 _ _ _ _ _
        rw [if_pos h_52] at hQ
        refine r_ex 4 (pc' := 30) (lo' := [some (.inr (.inr (some 2))), some (.inr (.inr (some 100005))), some (.inl 1)]) (st' := [.inr (.inr (some 100005)), .inl 1]) rfl ?_
        refine r_call (rr := some (.inl 7)) (b' := 1) (v' := v) (m := 28) (args := [.inr (.inr (some 100005))]) (n' := 27) (pc' := 33) (lo' := [some (.inr (.inr (some 2))), some (.inr (.inr (some 100005))), some (.inl 1)]) (st' := [.inl 1]) (I := .invokevirtual 28) (pc0 := 30) (len := 3) rfl rfl rfl ⟨60, rfl⟩ ?_
        show WV _ _ _ 33 _ [.inl 7, .inl 1] _ _ _
        refine r_ex 7 (pc' := 46) (lo' := [some (.inr (.inr (some 2))), some (.inr (.inr (some 100005))), some (.inl 1)]) (st' := [.inl ((v 2 6) + 1), .inr (.inr (some 1))]) rfl ?_
        refine r_bald2 (x := (v 1 ((((v 2 6) + 1)).toNat))) (pc' := 47) (pc0 := 46) (len := 1) rfl (s_1 _) (Or.inl rfl) (by first | assumption | omega | (unfold R32 at *; omega) | (unfold R64 at *; omega) | (simp only [R32, R64] at *; omega)) (by decide) rfl rfl ?_
        have hb_5 : -128 ≤ (v 1 ((((v 2 6) + 1)).toNat)) ∧ (v 1 ((((v 2 6) + 1)).toNat)) ≤ 127 := hX 1 ((((v 2 6) + 1)).toNat)
        refine r_ex 2 (pc' := 49) (lo' := [some (.inr (.inr (some 2))), some (.inr (.inr (some 100005))), some (.inl 1)]) (st' := [.inl 1, .inr (.inr (some 100005)), .inl (v 1 ((((v 2 6) + 1)).toNat))]) rfl ?_
        refine r_call (rr := some (.inl 101)) (b' := 1) (v' := v) (m := 30) (args := [.inr (.inr (some 100005)), .inl 1]) (n' := 27) (pc' := 52) (lo' := [some (.inr (.inr (some 2))), some (.inr (.inr (some 100005))), some (.inl 1)]) (st' := [.inl (v 1 ((((v 2 6) + 1)).toNat))]) (I := .invokevirtual 30) (pc0 := 49) (len := 3) rfl rfl rfl ⟨60, rfl⟩ ?_
        show WV _ _ _ 52 _ [.inl 101, .inl (v 1 ((((v 2 6) + 1)).toNat))] _ _ _
        refine n_ic_eq (pc0 := 52) (len := 3) (t := 57) rfl (by first | assumption | omega | (unfold R32 at *; omega) | (unfold R64 at *; omega) | (simp only [R32, R64] at *; omega)) (by first | assumption | omega | (unfold R32 at *; omega) | (unfold R64 at *; omega) | (simp only [R32, R64] at *; omega)) (fun h_52 => ?_) (fun h_52 => ?_)
        · show WV _ _ _ 57 _ _ _ _ _
          rw [if_pos h_52] at hQ
          refine r_ex 4 (pc' := 30) (lo' := [some (.inr (.inr (some 2))), some (.inr (.inr (some 100005))), some (.inl 2)]) (st' := [.inr (.inr (some 100005)), .inl 2]) rfl ?_
          refine r_call (rr := some (.inl 7)) (b' := 1) (v' := v) (m := 28) (args := [.inr (.inr (some 100005))]) (n' := 27) (pc' := 33) (lo' := [some (.inr (.inr (some 2))), some (.inr (.inr (some 100005))), some (.inl 2)]) (st' := [.inl 2]) (I := .invokevirtual 28) (pc0 := 30) (len := 3) rfl rfl rfl ⟨60, rfl⟩ ?_
          show WV _ _ _ 33 _ [.inl 7, .inl 2] _ _ _
          refine r_ex 7 (pc' := 46) (lo' := [some (.inr (.inr (some 2))), some (.inr (.inr (some 100005))), some (.inl 2)]) (st' := [.inl ((v 2 6) + 2), .inr (.inr (some 1))]) rfl ?_
          refine r_bald2 (x := (v 1 ((((v 2 6) + 2)).toNat))) (pc' := 47) (pc0 := 46) (len := 1) rfl (s_1 _) (Or.inl rfl) (by first | assumption | omega | (unfold R32 at *; omega) | (unfold R64 at *; omega) | (simp only [R32, R64] at *; omega)) (by decide) rfl rfl ?_
          have hb_6 : -128 ≤ (v 1 ((((v 2 6) + 2)).toNat)) ∧ (v 1 ((((v 2 6) + 2)).toNat)) ≤ 127 := hX 1 ((((v 2 6) + 2)).toNat)
          refine r_ex 2 (pc' := 49) (lo' := [some (.inr (.inr (some 2))), some (.inr (.inr (some 100005))), some (.inl 2)]) (st' := [.inl 2, .inr (.inr (some 100005)), .inl (v 1 ((((v 2 6) + 2)).toNat))]) rfl ?_
          refine r_call (rr := some (.inl 99)) (b' := 1) (v' := v) (m := 30) (args := [.inr (.inr (some 100005)), .inl 2]) (n' := 27) (pc' := 52) (lo' := [some (.inr (.inr (some 2))), some (.inr (.inr (some 100005))), some (.inl 2)]) (st' := [.inl (v 1 ((((v 2 6) + 2)).toNat))]) (I := .invokevirtual 30) (pc0 := 49) (len := 3) rfl rfl rfl ⟨60, rfl⟩ ?_
          show WV _ _ _ 52 _ [.inl 99, .inl (v 1 ((((v 2 6) + 2)).toNat))] _ _ _
          refine n_ic_eq (pc0 := 52) (len := 3) (t := 57) rfl (by first | assumption | omega | (unfold R32 at *; omega) | (unfold R64 at *; omega) | (simp only [R32, R64] at *; omega)) (by first | assumption | omega | (unfold R32 at *; omega) | (unfold R64 at *; omega) | (simp only [R32, R64] at *; omega)) (fun h_52 => ?_) (fun h_52 => ?_)
          · show WV _ _ _ 57 _ _ _ _ _
            rw [if_pos h_52] at hQ
            refine r_ex 4 (pc' := 30) (lo' := [some (.inr (.inr (some 2))), some (.inr (.inr (some 100005))), some (.inl 3)]) (st' := [.inr (.inr (some 100005)), .inl 3]) rfl ?_
            refine r_call (rr := some (.inl 7)) (b' := 1) (v' := v) (m := 28) (args := [.inr (.inr (some 100005))]) (n' := 27) (pc' := 33) (lo' := [some (.inr (.inr (some 2))), some (.inr (.inr (some 100005))), some (.inl 3)]) (st' := [.inl 3]) (I := .invokevirtual 28) (pc0 := 30) (len := 3) rfl rfl rfl ⟨60, rfl⟩ ?_
            show WV _ _ _ 33 _ [.inl 7, .inl 3] _ _ _
            refine r_ex 7 (pc' := 46) (lo' := [some (.inr (.inr (some 2))), some (.inr (.inr (some 100005))), some (.inl 3)]) (st' := [.inl ((v 2 6) + 3), .inr (.inr (some 1))]) rfl ?_
            refine r_bald2 (x := (v 1 ((((v 2 6) + 3)).toNat))) (pc' := 47) (pc0 := 46) (len := 1) rfl (s_1 _) (Or.inl rfl) (by first | assumption | omega | (unfold R32 at *; omega) | (unfold R64 at *; omega) | (simp only [R32, R64] at *; omega)) (by decide) rfl rfl ?_
            have hb_7 : -128 ≤ (v 1 ((((v 2 6) + 3)).toNat)) ∧ (v 1 ((((v 2 6) + 3)).toNat)) ≤ 127 := hX 1 ((((v 2 6) + 3)).toNat)
            refine r_ex 2 (pc' := 49) (lo' := [some (.inr (.inr (some 2))), some (.inr (.inr (some 100005))), some (.inl 3)]) (st' := [.inl 3, .inr (.inr (some 100005)), .inl (v 1 ((((v 2 6) + 3)).toNat))]) rfl ?_
            refine r_call (rr := some (.inl 111)) (b' := 1) (v' := v) (m := 30) (args := [.inr (.inr (some 100005)), .inl 3]) (n' := 27) (pc' := 52) (lo' := [some (.inr (.inr (some 2))), some (.inr (.inr (some 100005))), some (.inl 3)]) (st' := [.inl (v 1 ((((v 2 6) + 3)).toNat))]) (I := .invokevirtual 30) (pc0 := 49) (len := 3) rfl rfl rfl ⟨60, rfl⟩ ?_
            show WV _ _ _ 52 _ [.inl 111, .inl (v 1 ((((v 2 6) + 3)).toNat))] _ _ _
            refine n_ic_eq (pc0 := 52) (len := 3) (t := 57) rfl (by first | assumption | omega | (unfold R32 at *; omega) | (unfold R64 at *; omega) | (simp only [R32, R64] at *; omega)) (by first | assumption | omega | (unfold R32 at *; omega) | (unfold R64 at *; omega) | (simp only [R32, R64] at *; omega)) (fun h_52 => ?_) (fun h_52 => ?_)
            · show WV _ _ _ 57 _ _ _ _ _
              rw [if_pos h_52] at hQ
              refine r_ex 4 (pc' := 30) (lo' := [some (.inr (.inr (some 2))), some (.inr (.inr (some 100005))), some (.inl 4)]) (st' := [.inr (.inr (some 100005)), .inl 4]) rfl ?_
              refine r_call (rr := some (.inl 7)) (b' := 1) (v' := v) (m := 28) (args := [.inr (.inr (some 100005))]) (n' := 27) (pc' := 33) (lo' := [some (.inr (.inr (some 2))), some (.inr (.inr (some 100005))), some (.inl 4)]) (st' := [.inl 4]) (I := .invokevirtual 28) (pc0 := 30) (len := 3) rfl rfl rfl ⟨60, rfl⟩ ?_
              show WV _ _ _ 33 _ [.inl 7, .inl 4] _ _ _
              refine r_ex 7 (pc' := 46) (lo' := [some (.inr (.inr (some 2))), some (.inr (.inr (some 100005))), some (.inl 4)]) (st' := [.inl ((v 2 6) + 4), .inr (.inr (some 1))]) rfl ?_
              refine r_bald2 (x := (v 1 ((((v 2 6) + 4)).toNat))) (pc' := 47) (pc0 := 46) (len := 1) rfl (s_1 _) (Or.inl rfl) (by first | assumption | omega | (unfold R32 at *; omega) | (unfold R64 at *; omega) | (simp only [R32, R64] at *; omega)) (by decide) rfl rfl ?_
              have hb_8 : -128 ≤ (v 1 ((((v 2 6) + 4)).toNat)) ∧ (v 1 ((((v 2 6) + 4)).toNat)) ≤ 127 := hX 1 ((((v 2 6) + 4)).toNat)
              refine r_ex 2 (pc' := 49) (lo' := [some (.inr (.inr (some 2))), some (.inr (.inr (some 100005))), some (.inl 4)]) (st' := [.inl 4, .inr (.inr (some 100005)), .inl (v 1 ((((v 2 6) + 4)).toNat))]) rfl ?_
              refine r_call (rr := some (.inl 110)) (b' := 1) (v' := v) (m := 30) (args := [.inr (.inr (some 100005)), .inl 4]) (n' := 27) (pc' := 52) (lo' := [some (.inr (.inr (some 2))), some (.inr (.inr (some 100005))), some (.inl 4)]) (st' := [.inl (v 1 ((((v 2 6) + 4)).toNat))]) (I := .invokevirtual 30) (pc0 := 49) (len := 3) rfl rfl rfl ⟨60, rfl⟩ ?_
              show WV _ _ _ 52 _ [.inl 110, .inl (v 1 ((((v 2 6) + 4)).toNat))] _ _ _
              refine n_ic_eq (pc0 := 52) (len := 3) (t := 57) rfl (by first | assumption | omega | (unfold R32 at *; omega) | (unfold R64 at *; omega) | (simp only [R32, R64] at *; omega)) (by first | assumption | omega | (unfold R32 at *; omega) | (unfold R64 at *; omega) | (simp only [R32, R64] at *; omega)) (fun h_52 => ?_) (fun h_52 => ?_)
              · show WV _ _ _ 57 _ _ _ _ _
                rw [if_pos h_52] at hQ
                refine r_ex 4 (pc' := 30) (lo' := [some (.inr (.inr (some 2))), some (.inr (.inr (some 100005))), some (.inl 5)]) (st' := [.inr (.inr (some 100005)), .inl 5]) rfl ?_
                refine r_call (rr := some (.inl 7)) (b' := 1) (v' := v) (m := 28) (args := [.inr (.inr (some 100005))]) (n' := 27) (pc' := 33) (lo' := [some (.inr (.inr (some 2))), some (.inr (.inr (some 100005))), some (.inl 5)]) (st' := [.inl 5]) (I := .invokevirtual 28) (pc0 := 30) (len := 3) rfl rfl rfl ⟨60, rfl⟩ ?_
                show WV _ _ _ 33 _ [.inl 7, .inl 5] _ _ _
                refine r_ex 7 (pc' := 46) (lo' := [some (.inr (.inr (some 2))), some (.inr (.inr (some 100005))), some (.inl 5)]) (st' := [.inl ((v 2 6) + 5), .inr (.inr (some 1))]) rfl ?_
                refine r_bald2 (x := (v 1 ((((v 2 6) + 5)).toNat))) (pc' := 47) (pc0 := 46) (len := 1) rfl (s_1 _) (Or.inl rfl) (by first | assumption | omega | (unfold R32 at *; omega) | (unfold R64 at *; omega) | (simp only [R32, R64] at *; omega)) (by decide) rfl rfl ?_
                have hb_9 : -128 ≤ (v 1 ((((v 2 6) + 5)).toNat)) ∧ (v 1 ((((v 2 6) + 5)).toNat)) ≤ 127 := hX 1 ((((v 2 6) + 5)).toNat)
                refine r_ex 2 (pc' := 49) (lo' := [some (.inr (.inr (some 2))), some (.inr (.inr (some 100005))), some (.inl 5)]) (st' := [.inl 5, .inr (.inr (some 100005)), .inl (v 1 ((((v 2 6) + 5)).toNat))]) rfl ?_
                refine r_call (rr := some (.inl 100)) (b' := 1) (v' := v) (m := 30) (args := [.inr (.inr (some 100005)), .inl 5]) (n' := 27) (pc' := 52) (lo' := [some (.inr (.inr (some 2))), some (.inr (.inr (some 100005))), some (.inl 5)]) (st' := [.inl (v 1 ((((v 2 6) + 5)).toNat))]) (I := .invokevirtual 30) (pc0 := 49) (len := 3) rfl rfl rfl ⟨60, rfl⟩ ?_
                show WV _ _ _ 52 _ [.inl 100, .inl (v 1 ((((v 2 6) + 5)).toNat))] _ _ _
                refine n_ic_eq (pc0 := 52) (len := 3) (t := 57) rfl (by first | assumption | omega | (unfold R32 at *; omega) | (unfold R64 at *; omega) | (simp only [R32, R64] at *; omega)) (by first | assumption | omega | (unfold R32 at *; omega) | (unfold R64 at *; omega) | (simp only [R32, R64] at *; omega)) (fun h_52 => ?_) (fun h_52 => ?_)
                · show WV _ _ _ 57 _ _ _ _ _
                  rw [if_pos h_52] at hQ
                  refine r_ex 4 (pc' := 30) (lo' := [some (.inr (.inr (some 2))), some (.inr (.inr (some 100005))), some (.inl 6)]) (st' := [.inr (.inr (some 100005)), .inl 6]) rfl ?_
                  refine r_call (rr := some (.inl 7)) (b' := 1) (v' := v) (m := 28) (args := [.inr (.inr (some 100005))]) (n' := 27) (pc' := 33) (lo' := [some (.inr (.inr (some 2))), some (.inr (.inr (some 100005))), some (.inl 6)]) (st' := [.inl 6]) (I := .invokevirtual 28) (pc0 := 30) (len := 3) rfl rfl rfl ⟨60, rfl⟩ ?_
                  show WV _ _ _ 33 _ [.inl 7, .inl 6] _ _ _
                  refine r_ex 7 (pc' := 46) (lo' := [some (.inr (.inr (some 2))), some (.inr (.inr (some 100005))), some (.inl 6)]) (st' := [.inl ((v 2 6) + 6), .inr (.inr (some 1))]) rfl ?_
                  refine r_bald2 (x := (v 1 ((((v 2 6) + 6)).toNat))) (pc' := 47) (pc0 := 46) (len := 1) rfl (s_1 _) (Or.inl rfl) (by first | assumption | omega | (unfold R32 at *; omega) | (unfold R64 at *; omega) | (simp only [R32, R64] at *; omega)) (by decide) rfl rfl ?_
                  have hb_10 : -128 ≤ (v 1 ((((v 2 6) + 6)).toNat)) ∧ (v 1 ((((v 2 6) + 6)).toNat)) ≤ 127 := hX 1 ((((v 2 6) + 6)).toNat)
                  refine r_ex 2 (pc' := 49) (lo' := [some (.inr (.inr (some 2))), some (.inr (.inr (some 100005))), some (.inl 6)]) (st' := [.inl 6, .inr (.inr (some 100005)), .inl (v 1 ((((v 2 6) + 6)).toNat))]) rfl ?_
                  refine r_call (rr := some (.inl 115)) (b' := 1) (v' := v) (m := 30) (args := [.inr (.inr (some 100005)), .inl 6]) (n' := 27) (pc' := 52) (lo' := [some (.inr (.inr (some 2))), some (.inr (.inr (some 100005))), some (.inl 6)]) (st' := [.inl (v 1 ((((v 2 6) + 6)).toNat))]) (I := .invokevirtual 30) (pc0 := 49) (len := 3) rfl rfl rfl ⟨60, rfl⟩ ?_
                  show WV _ _ _ 52 _ [.inl 115, .inl (v 1 ((((v 2 6) + 6)).toNat))] _ _ _
                  refine n_ic_eq (pc0 := 52) (len := 3) (t := 57) rfl (by first | assumption | omega | (unfold R32 at *; omega) | (unfold R64 at *; omega) | (simp only [R32, R64] at *; omega)) (by first | assumption | omega | (unfold R32 at *; omega) | (unfold R64 at *; omega) | (simp only [R32, R64] at *; omega)) (fun h_52 => ?_) (fun h_52 => ?_)
                  · show WV _ _ _ 57 _ _ _ _ _
                    rw [if_pos h_52] at hQ
                    refine r_ex 4 (pc' := 30) (lo' := [some (.inr (.inr (some 2))), some (.inr (.inr (some 100005))), some (.inl 7)]) (st' := [.inr (.inr (some 100005)), .inl 7]) rfl ?_
                    refine r_call (rr := some (.inl 7)) (b' := 1) (v' := v) (m := 28) (args := [.inr (.inr (some 100005))]) (n' := 27) (pc' := 33) (lo' := [some (.inr (.inr (some 2))), some (.inr (.inr (some 100005))), some (.inl 7)]) (st' := [.inl 7]) (I := .invokevirtual 28) (pc0 := 30) (len := 3) rfl rfl rfl ⟨60, rfl⟩ ?_
                    show WV _ _ _ 33 _ [.inl 7, .inl 7] _ _ _
                    refine r_ex 2 (pc' := 64) (lo' := [some (.inr (.inr (some 2))), some (.inr (.inr (some 100005))), some (.inl 7)]) (st' := [.inl 1]) rfl ?_
                    refine r_ret (rr := some (.inl 1)) (I := .ireturn) (pc0 := 64) (len := 1) rfl rfl ?_
                    exact hQ (by first | assumption | omega | (unfold R32 at *; omega) | (unfold R64 at *; omega) | (simp only [R32, R64] at *; omega))
                  · show WV _ _ _ 55 _ _ _ _ _
                    rw [if_neg h_52] at hQ
                    refine r_ex 1 (pc' := 56) (lo' := [some (.inr (.inr (some 2))), some (.inr (.inr (some 100005))), some (.inl 6)]) (st' := [.inl 0]) rfl ?_
                    refine r_ret (rr := some (.inl 0)) (I := .ireturn) (pc0 := 56) (len := 1) rfl rfl ?_
                    exact hQ (by first | assumption | omega | (unfold R32 at *; omega) | (unfold R64 at *; omega) | (simp only [R32, R64] at *; omega))
                · show WV _ _ _ 55 _ _ _ _ _
                  rw [if_neg h_52] at hQ
                  refine r_ex 1 (pc' := 56) (lo' := [some (.inr (.inr (some 2))), some (.inr (.inr (some 100005))), some (.inl 5)]) (st' := [.inl 0]) rfl ?_
                  refine r_ret (rr := some (.inl 0)) (I := .ireturn) (pc0 := 56) (len := 1) rfl rfl ?_
                  exact hQ (by first | assumption | omega | (unfold R32 at *; omega) | (unfold R64 at *; omega) | (simp only [R32, R64] at *; omega))
              · show WV _ _ _ 55 _ _ _ _ _
                rw [if_neg h_52] at hQ
                refine r_ex 1 (pc' := 56) (lo' := [some (.inr (.inr (some 2))), some (.inr (.inr (some 100005))), some (.inl 4)]) (st' := [.inl 0]) rfl ?_
                refine r_ret (rr := some (.inl 0)) (I := .ireturn) (pc0 := 56) (len := 1) rfl rfl ?_
                exact hQ (by first | assumption | omega | (unfold R32 at *; omega) | (unfold R64 at *; omega) | (simp only [R32, R64] at *; omega))
            · show WV _ _ _ 55 _ _ _ _ _
              rw [if_neg h_52] at hQ
              refine r_ex 1 (pc' := 56) (lo' := [some (.inr (.inr (some 2))), some (.inr (.inr (some 100005))), some (.inl 3)]) (st' := [.inl 0]) rfl ?_
              refine r_ret (rr := some (.inl 0)) (I := .ireturn) (pc0 := 56) (len := 1) rfl rfl ?_
              exact hQ (by first | assumption | omega | (unfold R32 at *; omega) | (unfold R64 at *; omega) | (simp only [R32, R64] at *; omega))
          · show WV _ _ _ 55 _ _ _ _ _
            rw [if_neg h_52] at hQ
            refine r_ex 1 (pc' := 56) (lo' := [some (.inr (.inr (some 2))), some (.inr (.inr (some 100005))), some (.inl 2)]) (st' := [.inl 0]) rfl ?_
            refine r_ret (rr := some (.inl 0)) (I := .ireturn) (pc0 := 56) (len := 1) rfl rfl ?_
            exact hQ (by first | assumption | omega | (unfold R32 at *; omega) | (unfold R64 at *; omega) | (simp only [R32, R64] at *; omega))
        · show WV _ _ _ 55 _ _ _ _ _
          rw [if_neg h_52] at hQ
          refine r_ex 1 (pc' := 56) (lo' := [some (.inr (.inr (some 2))), some (.inr (.inr (some 100005))), some (.inl 1)]) (st' := [.inl 0]) rfl ?_
          refine r_ret (rr := some (.inl 0)) (I := .ireturn) (pc0 := 56) (len := 1) rfl rfl ?_
          exact hQ (by first | assumption | omega | (unfold R32 at *; omega) | (unfold R64 at *; omega) | (simp only [R32, R64] at *; omega))
      · show WV _ _ _ 55 _ _ _ _ _
        rw [if_neg h_52] at hQ
        refine r_ex 1 (pc' := 56) (lo' := [some (.inr (.inr (some 2))), some (.inr (.inr (some 100005))), some (.inl 0)]) (st' := [.inl 0]) rfl ?_
        refine r_ret (rr := some (.inl 0)) (I := .ireturn) (pc0 := 56) (len := 1) rfl rfl ?_
        exact hQ (by first | assumption | omega | (unfold R32 at *; omega) | (unfold R64 at *; omega) | (simp only [R32, R64] at *; omega))
    · show WV _ _ _ 24 _ _ _ _ _
      rw [if_neg h_21] at hQ
      refine r_ex 1 (pc' := 25) (lo' := [some (.inr (.inr (some 2))), some (.inr (.inr (some 100005))), none]) (st' := [.inl 0]) rfl ?_
      refine r_ret (rr := some (.inl 0)) (I := .ireturn) (pc0 := 25) (len := 1) rfl rfl ?_
      exact hQ (by first | assumption | omega | (unfold R32 at *; omega) | (unfold R64 at *; omega) | (simp only [R32, R64] at *; omega))

theorem e_cl_isAt2 {X : PX} {d : Nat} {v : VS}  (hX : XI v) (hp_a : (v 2 7) ≤ (v 2 4)) : EvV X (d + 1 + 1 + 1 + 1) 27 [.inr (.inr (some 2)), .inr (.inr (some 100005))] 1 v (some (.inl (cl_isAt2 v))) 1 v := EvV.of (w_cl_isAt2 hX hp_a (fun _ => ⟨rfl, rfl, rfl⟩))

theorem n_cl_isAt2 {v : VS}  (hX : XI v) (hp_a : (v 2 7) ≤ (v 2 4)) : 0 ≤ (cl_isAt2 v) ∧ (cl_isAt2 v) ≤ 1 := by
  have q : WV (0, fun _ => 0, none) (0 + 1 + 1 + 1 + 1) 27 0 [some (.inr (.inr (some 2))), some (.inr (.inr (some 100005))), none] [] 1 v (fun _ _ _ => 0 ≤ (cl_isAt2 v) ∧ (cl_isAt2 v) ≤ 1) := w_cl_isAt2 (X := (0, fun _ => 0, none)) (d := 0) hX hp_a (fun q => q)
  obtain ⟨_, _, _, _, _, _, _, q⟩ := q
  exact q

def cl_word2 (v : VS)  : VS :=
  (if (v 2 1) = 0 then (if (cl_isAt2 v) = 0 then (cl_fail v 1) else (cl_advance v)) else (cl_fail v 1))
theorem w_cl_word2 {X : PX} {d : Nat} {v : VS}  (hX : XI v) (hp_a : (v 2 7) ≤ (v 2 4)) {Q : Option PV → Nat → VS → Prop} (hQ : XI (cl_word2 v) → (((cl_word2 v) 2 7) ≤ ((cl_word2 v) 2 4)) → Q none 1 (cl_word2 v)) : WV X (d + 1 + 1 + 1 + 1 + 1) 26 0 [some (.inr (.inr (some 2))), some (.inr (.inr (some 100005)))] [] 1 v Q := by
  rw [cl_word2] at hQ
  refine r_ex 2 (pc' := 4) (lo' := [some (.inr (.inr (some 2))), some (.inr (.inr (some 100005)))]) (st' := [.inl (v 2 1)]) rfl ?_
  have hb_1 : 0 ≤ (v 2 1) ∧ (v 2 1) ≤ 3 := hX 2 1
  refine n_if_ne (pc0 := 4) (len := 3) (t := 22) rfl (by first | assumption | omega | (unfold R32 at *; omega) | (unfold R64 at *; omega) | (simp only [R32, R64] at *; omega)) (fun h_4 => ?_) (fun h_4 => ?_)
  · show WV _ _ _ 22 _ _ _ _ _
    rw [if_neg h_4] at hQ
    refine r_ex 2 (pc' := 24) (lo' := [some (.inr (.inr (some 2))), some (.inr (.inr (some 100005)))]) (st' := [.inl 1, .inr (.inr (some 2))]) rfl ?_
    have hp_2 : 1 ≤ (1 : Int) ∧ (1 : Int) ≤ 3 := (by first | assumption | omega | (unfold R32 at *; omega) | (unfold R64 at *; omega) | (simp only [R32, R64] at *; omega))
    have hp_3 : (v 2 7) ≤ (v 2 4) := (show (v 2 7) ≤ (v 2 4) from (by first | assumption | omega | (unfold R32 at *; omega) | (unfold R64 at *; omega) | (simp only [R32, R64] at *; omega)))
    refine r_call (m := 39) (args := [.inr (.inr (some 2)), .inl 1]) (n' := 26) (pc' := 27) (lo' := [some (.inr (.inr (some 2))), some (.inr (.inr (some 100005)))]) (st' := []) (I := .invokevirtual 39) (pc0 := 24) (len := 3) rfl rfl rfl (e_cl_fail hX hp_2 hp_3) ?_
    show WV _ _ _ 27 _ [] _ (cl_fail v 1) _
    have hX_4 : XI (cl_fail v 1) := i_cl_fail (v := v) (k := 1) hX hp_2 hp_3
    have hb_5 : ((cl_fail v 1) 2 7) ≤ ((cl_fail v 1) 2 4) := n_cl_fail (v := v) (k := 1) hX hp_2 hp_3
    refine r_ret (rr := none) (I := .return_) (pc0 := 27) (len := 1) rfl rfl ?_
    exact hQ hX_4 (show ((cl_fail v 1) 2 7) ≤ ((cl_fail v 1) 2 4) from (by first | assumption | omega | (unfold R32 at *; omega) | (unfold R64 at *; omega) | (simp only [R32, R64] at *; omega)))
  · show WV _ _ _ 7 _ _ _ _ _
    rw [if_pos h_4] at hQ
    refine r_ex 2 (pc' := 9) (lo' := [some (.inr (.inr (some 2))), some (.inr (.inr (some 100005)))]) (st' := [.inr (.inr (some 100005)), .inr (.inr (some 2))]) rfl ?_
    have hp_6 : (v 2 7) ≤ (v 2 4) := (show (v 2 7) ≤ (v 2 4) from (by first | assumption | omega | (unfold R32 at *; omega) | (unfold R64 at *; omega) | (simp only [R32, R64] at *; omega)))
    refine r_call (m := 27) (args := [.inr (.inr (some 2)), .inr (.inr (some 100005))]) (n' := 26) (pc' := 12) (lo' := [some (.inr (.inr (some 2))), some (.inr (.inr (some 100005)))]) (st' := []) (I := .invokevirtual 27) (pc0 := 9) (len := 3) rfl rfl rfl (e_cl_isAt2 hX hp_6) ?_
    show WV _ _ _ 12 _ [.inl (cl_isAt2 v)] _ _ _
    have hb_7 := n_cl_isAt2 (v := v) hX hp_6
    refine n_if_eq (pc0 := 12) (len := 3) (t := 22) rfl (by first | assumption | omega | (unfold R32 at *; omega) | (unfold R64 at *; omega) | (simp only [R32, R64] at *; omega)) (fun h_12 => ?_) (fun h_12 => ?_)
    · show WV _ _ _ 22 _ _ _ _ _
      rw [if_pos h_12] at hQ
      refine r_ex 2 (pc' := 24) (lo' := [some (.inr (.inr (some 2))), some (.inr (.inr (some 100005)))]) (st' := [.inl 1, .inr (.inr (some 2))]) rfl ?_
      have hp_8 : 1 ≤ (1 : Int) ∧ (1 : Int) ≤ 3 := (by first | assumption | omega | (unfold R32 at *; omega) | (unfold R64 at *; omega) | (simp only [R32, R64] at *; omega))
      have hp_9 : (v 2 7) ≤ (v 2 4) := (show (v 2 7) ≤ (v 2 4) from (by first | assumption | omega | (unfold R32 at *; omega) | (unfold R64 at *; omega) | (simp only [R32, R64] at *; omega)))
      refine r_call (m := 39) (args := [.inr (.inr (some 2)), .inl 1]) (n' := 26) (pc' := 27) (lo' := [some (.inr (.inr (some 2))), some (.inr (.inr (some 100005)))]) (st' := []) (I := .invokevirtual 39) (pc0 := 24) (len := 3) rfl rfl rfl (e_cl_fail hX hp_8 hp_9) ?_
      show WV _ _ _ 27 _ [] _ (cl_fail v 1) _
      have hX_10 : XI (cl_fail v 1) := i_cl_fail (v := v) (k := 1) hX hp_8 hp_9
      have hb_11 : ((cl_fail v 1) 2 7) ≤ ((cl_fail v 1) 2 4) := n_cl_fail (v := v) (k := 1) hX hp_8 hp_9
      refine r_ret (rr := none) (I := .return_) (pc0 := 27) (len := 1) rfl rfl ?_
      exact hQ hX_10 (show ((cl_fail v 1) 2 7) ≤ ((cl_fail v 1) 2 4) from (by first | assumption | omega | (unfold R32 at *; omega) | (unfold R64 at *; omega) | (simp only [R32, R64] at *; omega)))
    · show WV _ _ _ 15 _ _ _ _ _
      rw [if_neg h_12] at hQ
      refine r_ex 1 (pc' := 16) (lo' := [some (.inr (.inr (some 2))), some (.inr (.inr (some 100005)))]) (st' := [.inr (.inr (some 2))]) rfl ?_
      have hp_12 : (v 2 7) ≤ (v 2 4) := (show (v 2 7) ≤ (v 2 4) from (by first | assumption | omega | (unfold R32 at *; omega) | (unfold R64 at *; omega) | (simp only [R32, R64] at *; omega)))
      refine r_call (m := 21) (args := [.inr (.inr (some 2))]) (n' := 26) (pc' := 19) (lo' := [some (.inr (.inr (some 2))), some (.inr (.inr (some 100005)))]) (st' := []) (I := .invokevirtual 21) (pc0 := 16) (len := 3) rfl rfl rfl (e_cl_advance hX hp_12) ?_
      show WV _ _ _ 19 _ [] _ (cl_advance v) _
      have hX_13 : XI (cl_advance v) := i_cl_advance (v := v) hX hp_12
      have hb_14 : ((cl_advance v) 2 7) ≤ ((cl_advance v) 2 4) := n_cl_advance (v := v) hX hp_12
      refine r_ex 1 (pc' := 27) (lo' := [some (.inr (.inr (some 2))), some (.inr (.inr (some 100005)))]) (st' := []) rfl ?_
      refine r_ret (rr := none) (I := .return_) (pc0 := 27) (len := 1) rfl rfl ?_
      exact hQ hX_13 (show ((cl_advance v) 2 7) ≤ ((cl_advance v) 2 4) from (by first | assumption | omega | (unfold R32 at *; omega) | (unfold R64 at *; omega) | (simp only [R32, R64] at *; omega)))

theorem e_cl_word2 {X : PX} {d : Nat} {v : VS}  (hX : XI v) (hp_a : (v 2 7) ≤ (v 2 4)) : EvV X (d + 1 + 1 + 1 + 1 + 1) 26 [.inr (.inr (some 2)), .inr (.inr (some 100005))] 1 v none 1 (cl_word2 v) := EvV.of (w_cl_word2 hX hp_a (fun _ _ => ⟨rfl, rfl, rfl⟩))

theorem i_cl_word2 {v : VS}  (hX : XI v) (hp_a : (v 2 7) ≤ (v 2 4)) : XI (cl_word2 v) := by
  have q : WV (0, fun _ => 0, none) (0 + 1 + 1 + 1 + 1 + 1) 26 0 [some (.inr (.inr (some 2))), some (.inr (.inr (some 100005)))] [] 1 v (fun _ _ _ => XI (cl_word2 v)) := w_cl_word2 (X := (0, fun _ => 0, none)) (d := 0) hX hp_a (fun q _ => q)
  obtain ⟨_, _, _, _, _, _, _, q⟩ := q
  exact q

theorem n_cl_word2 {v : VS}  (hX : XI v) (hp_a : (v 2 7) ≤ (v 2 4)) : ((cl_word2 v) 2 7) ≤ ((cl_word2 v) 2 4) := by
  have q : WV (0, fun _ => 0, none) (0 + 1 + 1 + 1 + 1 + 1) 26 0 [some (.inr (.inr (some 2))), some (.inr (.inr (some 100005)))] [] 1 v (fun _ _ _ => ((cl_word2 v) 2 7) ≤ ((cl_word2 v) 2 4)) := w_cl_word2 (X := (0, fun _ => 0, none)) (d := 0) hX hp_a (fun _ q => q)
  obtain ⟨_, _, _, _, _, _, _, q⟩ := q
  exact q

theorem o_cl_word2 {rk : Nat} {v : VS}  (hk : (rk < 2 ∨ 2 < rk)) : (cl_word2 v ) rk = v rk := by
  unfold cl_word2
  by_cases hc_ : (v 2 1) = 0
  · rw [if_pos hc_]
    by_cases hc_ : (cl_isAt2 v) = 0
    · rw [if_pos hc_]
      all_goals (show (cl_fail v 1) rk = _)
      all_goals (rw [o_cl_fail (by omega)])
    · rw [if_neg hc_]
      all_goals (show (cl_advance v) rk = _)
      all_goals (rw [o_cl_advance (by omega)])
  · rw [if_neg hc_]
    all_goals (show (cl_fail v 1) rk = _)
    all_goals (rw [o_cl_fail (by omega)])

def cl_isAt3 (v : VS)  : Int :=
  (if (v 2 5) = 1 then (if 6 = ((v 2 7) - (v 2 6)) then (if (v 1 ((((v 2 6) + 0)).toNat)) = 99 then (if (v 1 ((((v 2 6) + 1)).toNat)) = 104 then (if (v 1 ((((v 2 6) + 2)).toNat)) = 117 then (if (v 1 ((((v 2 6) + 3)).toNat)) = 114 then (if (v 1 ((((v 2 6) + 4)).toNat)) = 99 then (if (v 1 ((((v 2 6) + 5)).toNat)) = 104 then 1 else 0) else 0) else 0) else 0) else 0) else 0) else 0) else 0)
theorem w_cl_isAt3 {X : PX} {d : Nat} {v : VS}  (hX : XI v) (hp_a : (v 2 7) ≤ (v 2 4)) {Q : Option PV → Nat → VS → Prop} (hQ : (0 ≤ (cl_isAt3 v) ∧ (cl_isAt3 v) ≤ 1) → Q (some (.inl (cl_isAt3 v))) 1 v) : WV X (d + 1 + 1 + 1 + 1) 27 0 [some (.inr (.inr (some 2))), some (.inr (.inr (some 100007))), none] [] 1 v Q := by
  rw [cl_isAt3] at hQ
  have hz6 : 0 ≤ v 2 6 ∧ v 2 6 ≤ 2000 := hX 2 6
  have hz7 : 0 ≤ v 2 7 ∧ v 2 7 ≤ 2001 := hX 2 7
  have hz4 : 0 ≤ v 2 4 ∧ v 2 4 ≤ 2000 := hX 2 4
  refine r_ex 3 (pc' := 5) (lo' := [some (.inr (.inr (some 2))), some (.inr (.inr (some 100007))), none]) (st' := [.inl 1, .inl (v 2 5)]) rfl ?_
  have hb_1 : 0 ≤ (v 2 5) ∧ (v 2 5) ≤ 4 := hX 2 5
  refine n_ic_ne (pc0 := 5) (len := 3) (t := 24) rfl (by first | assumption | omega | (unfold R32 at *; omega) | (unfold R64 at *; omega) | (simp only [R32, R64] at *; omega)) (by first | assumption | omega | (unfold R32 at *; omega) | (unfold R64 at *; omega) | (simp only [R32, R64] at *; omega)) (fun h_5 => ?_) (fun h_5 => ?_)
  · show WV _ _ _ 24 _ _ _ _ _
    rw [if_neg h_5] at hQ
    refine r_ex 1 (pc' := 25) (lo' := [some (.inr (.inr (some 2))), some (.inr (.inr (some 100007))), none]) (st' := [.inl 0]) rfl ?_
    refine r_ret (rr := some (.inl 0)) (I := .ireturn) (pc0 := 25) (len := 1) rfl rfl ?_
    exact hQ (by first | assumption | omega | (unfold R32 at *; omega) | (unfold R64 at *; omega) | (simp only [R32, R64] at *; omega))
  · show WV _ _ _ 8 _ _ _ _ _
    rw [if_pos h_5] at hQ
    refine r_ex 1 (pc' := 9) (lo' := [some (.inr (.inr (some 2))), some (.inr (.inr (some 100007))), none]) (st' := [.inr (.inr (some 100007))]) rfl ?_
    refine r_call (rr := some (.inl 6)) (b' := 1) (v' := v) (m := 28) (args := [.inr (.inr (some 100007))]) (n' := 27) (pc' := 12) (lo' := [some (.inr (.inr (some 2))), some (.inr (.inr (some 100007))), none]) (st' := []) (I := .invokevirtual 28) (pc0 := 9) (len := 3) rfl rfl rfl ⟨60, rfl⟩ ?_
    show WV _ _ _ 12 _ [.inl 6] _ _ _
    refine r_ex 5 (pc' := 21) (lo' := [some (.inr (.inr (some 2))), some (.inr (.inr (some 100007))), none]) (st' := [.inl ((v 2 7) - (v 2 6)), .inl 6]) rfl ?_
    have hb_2 : 0 ≤ (v 2 7) ∧ (v 2 7) ≤ 2001 := hX 2 7
    have hb_3 : 0 ≤ (v 2 6) ∧ (v 2 6) ≤ 2000 := hX 2 6
    refine n_ic_eq (pc0 := 21) (len := 3) (t := 26) rfl (by first | assumption | omega | (unfold R32 at *; omega) | (unfold R64 at *; omega) | (simp only [R32, R64] at *; omega)) (by first | assumption | omega | (unfold R32 at *; omega) | (unfold R64 at *; omega) | (simp only [R32, R64] at *; omega)) (fun h_21 => ?_) (fun h_21 => ?_)
    · show WV _ _ _ 26 _ _ _ _ _
      rw [if_pos h_21] at hQ
      refine r_ex 4 (pc' := 30) (lo' := [some (.inr (.inr (some 2))), some (.inr (.inr (some 100007))), some (.inl 0)]) (st' := [.inr (.inr (some 100007)), .inl 0]) rfl ?_
      refine r_call (rr := some (.inl 6)) (b' := 1) (v' := v) (m := 28) (args := [.inr (.inr (some 100007))]) (n' := 27) (pc' := 33) (lo' := [some (.inr (.inr (some 2))), some (.inr (.inr (some 100007))), some (.inl 0)]) (st' := [.inl 0]) (I := .invokevirtual 28) (pc0 := 30) (len := 3) rfl rfl rfl ⟨60, rfl⟩ ?_
      show WV _ _ _ 33 _ [.inl 6, .inl 0] _ _ _
      refine r_ex 7 (pc' := 46) (lo' := [some (.inr (.inr (some 2))), some (.inr (.inr (some 100007))), some (.inl 0)]) (st' := [.inl ((v 2 6) + 0), .inr (.inr (some 1))]) rfl ?_
      refine r_bald2 (x := (v 1 ((((v 2 6) + 0)).toNat))) (pc' := 47) (pc0 := 46) (len := 1) rfl (s_1 _) (Or.inl rfl) (by first | assumption | omega | (unfold R32 at *; omega) | (unfold R64 at *; omega) | (simp only [R32, R64] at *; omega)) (by decide) rfl rfl ?_
      have hb_4 : -128 ≤ (v 1 ((((v 2 6) + 0)).toNat)) ∧ (v 1 ((((v 2 6) + 0)).toNat)) ≤ 127 := hX 1 ((((v 2 6) + 0)).toNat)
      refine r_ex 2 (pc' := 49) (lo' := [some (.inr (.inr (some 2))), some (.inr (.inr (some 100007))), some (.inl 0)]) (st' := [.inl 0, .inr (.inr (some 100007)), .inl (v 1 ((((v 2 6) + 0)).toNat))]) rfl ?_
      refine r_call (rr := some (.inl 99)) (b' := 1) (v' := v) (m := 30) (args := [.inr (.inr (some 100007)), .inl 0]) (n' := 27) (pc' := 52) (lo' := [some (.inr (.inr (some 2))), some (.inr (.inr (some 100007))), some (.inl 0)]) (st' := [.inl (v 1 ((((v 2 6) + 0)).toNat))]) (I := .invokevirtual 30) (pc0 := 49) (len := 3) rfl rfl rfl ⟨60, rfl⟩ ?_
      show WV _ _ _ 52 _ [.inl 99, .inl (v 1 ((((v 2 6) + 0)).toNat))] _ _ _
      refine n_ic_eq (pc0 := 52) (len := 3) (t := 57) rfl (by first | assumption | omega | (unfold R32 at *; omega) | (unfold R64 at *; omega) | (simp only [R32, R64] at *; omega)) (by first | assumption | omega | (unfold R32 at *; omega) | (unfold R64 at *; omega) | (simp only [R32, R64] at *; omega)) (fun h_52 => ?_) (fun h_52 => ?_)
      · show WV _ _ _ 57 _ _ _ _ _
        rw [if_pos h_52] at hQ
        refine r_ex 4 (pc' := 30) (lo' := [some (.inr (.inr (some 2))), some (.inr (.inr (some 100007))), some (.inl 1)]) (st' := [.inr (.inr (some 100007)), .inl 1]) rfl ?_
        refine r_call (rr := some (.inl 6)) (b' := 1) (v' := v) (m := 28) (args := [.inr (.inr (some 100007))]) (n' := 27) (pc' := 33) (lo' := [some (.inr (.inr (some 2))), some (.inr (.inr (some 100007))), some (.inl 1)]) (st' := [.inl 1]) (I := .invokevirtual 28) (pc0 := 30) (len := 3) rfl rfl rfl ⟨60, rfl⟩ ?_
        show WV _ _ _ 33 _ [.inl 6, .inl 1] _ _ _
        refine r_ex 7 (pc' := 46) (lo' := [some (.inr (.inr (some 2))), some (.inr (.inr (some 100007))), some (.inl 1)]) (st' := [.inl ((v 2 6) + 1), .inr (.inr (some 1))]) rfl ?_
        refine r_bald2 (x := (v 1 ((((v 2 6) + 1)).toNat))) (pc' := 47) (pc0 := 46) (len := 1) rfl (s_1 _) (Or.inl rfl) (by first | assumption | omega | (unfold R32 at *; omega) | (unfold R64 at *; omega) | (simp only [R32, R64] at *; omega)) (by decide) rfl rfl ?_
        have hb_5 : -128 ≤ (v 1 ((((v 2 6) + 1)).toNat)) ∧ (v 1 ((((v 2 6) + 1)).toNat)) ≤ 127 := hX 1 ((((v 2 6) + 1)).toNat)
        refine r_ex 2 (pc' := 49) (lo' := [some (.inr (.inr (some 2))), some (.inr (.inr (some 100007))), some (.inl 1)]) (st' := [.inl 1, .inr (.inr (some 100007)), .inl (v 1 ((((v 2 6) + 1)).toNat))]) rfl ?_
        refine r_call (rr := some (.inl 104)) (b' := 1) (v' := v) (m := 30) (args := [.inr (.inr (some 100007)), .inl 1]) (n' := 27) (pc' := 52) (lo' := [some (.inr (.inr (some 2))), some (.inr (.inr (some 100007))), some (.inl 1)]) (st' := [.inl (v 1 ((((v 2 6) + 1)).toNat))]) (I := .invokevirtual 30) (pc0 := 49) (len := 3) rfl rfl rfl ⟨60, rfl⟩ ?_
        show WV _ _ _ 52 _ [.inl 104, .inl (v 1 ((((v 2 6) + 1)).toNat))] _ _ _
        refine n_ic_eq (pc0 := 52) (len := 3) (t := 57) rfl (by first | assumption | omega | (unfold R32 at *; omega) | (unfold R64 at *; omega) | (simp only [R32, R64] at *; omega)) (by first | assumption | omega | (unfold R32 at *; omega) | (unfold R64 at *; omega) | (simp only [R32, R64] at *; omega)) (fun h_52 => ?_) (fun h_52 => ?_)
        · show WV _ _ _ 57 _ _ _ _ _
          rw [if_pos h_52] at hQ
          refine r_ex 4 (pc' := 30) (lo' := [some (.inr (.inr (some 2))), some (.inr (.inr (some 100007))), some (.inl 2)]) (st' := [.inr (.inr (some 100007)), .inl 2]) rfl ?_
          refine r_call (rr := some (.inl 6)) (b' := 1) (v' := v) (m := 28) (args := [.inr (.inr (some 100007))]) (n' := 27) (pc' := 33) (lo' := [some (.inr (.inr (some 2))), some (.inr (.inr (some 100007))), some (.inl 2)]) (st' := [.inl 2]) (I := .invokevirtual 28) (pc0 := 30) (len := 3) rfl rfl rfl ⟨60, rfl⟩ ?_
          show WV _ _ _ 33 _ [.inl 6, .inl 2] _ _ _
          refine r_ex 7 (pc' := 46) (lo' := [some (.inr (.inr (some 2))), some (.inr (.inr (some 100007))), some (.inl 2)]) (st' := [.inl ((v 2 6) + 2), .inr (.inr (some 1))]) rfl ?_
          refine r_bald2 (x := (v 1 ((((v 2 6) + 2)).toNat))) (pc' := 47) (pc0 := 46) (len := 1) rfl (s_1 _) (Or.inl rfl) (by first | assumption | omega | (unfold R32 at *; omega) | (unfold R64 at *; omega) | (simp only [R32, R64] at *; omega)) (by decide) rfl rfl ?_
          have hb_6 : -128 ≤ (v 1 ((((v 2 6) + 2)).toNat)) ∧ (v 1 ((((v 2 6) + 2)).toNat)) ≤ 127 := hX 1 ((((v 2 6) + 2)).toNat)
          refine r_ex 2 (pc' := 49) (lo' := [some (.inr (.inr (some 2))), some (.inr (.inr (some 100007))), some (.inl 2)]) (st' := [.inl 2, .inr (.inr (some 100007)), .inl (v 1 ((((v 2 6) + 2)).toNat))]) rfl ?_
          refine r_call (rr := some (.inl 117)) (b' := 1) (v' := v) (m := 30) (args := [.inr (.inr (some 100007)), .inl 2]) (n' := 27) (pc' := 52) (lo' := [some (.inr (.inr (some 2))), some (.inr (.inr (some 100007))), some (.inl 2)]) (st' := [.inl (v 1 ((((v 2 6) + 2)).toNat))]) (I := .invokevirtual 30) (pc0 := 49) (len := 3) rfl rfl rfl ⟨60, rfl⟩ ?_
          show WV _ _ _ 52 _ [.inl 117, .inl (v 1 ((((v 2 6) + 2)).toNat))] _ _ _
          refine n_ic_eq (pc0 := 52) (len := 3) (t := 57) rfl (by first | assumption | omega | (unfold R32 at *; omega) | (unfold R64 at *; omega) | (simp only [R32, R64] at *; omega)) (by first | assumption | omega | (unfold R32 at *; omega) | (unfold R64 at *; omega) | (simp only [R32, R64] at *; omega)) (fun h_52 => ?_) (fun h_52 => ?_)
          · show WV _ _ _ 57 _ _ _ _ _
            rw [if_pos h_52] at hQ
            refine r_ex 4 (pc' := 30) (lo' := [some (.inr (.inr (some 2))), some (.inr (.inr (some 100007))), some (.inl 3)]) (st' := [.inr (.inr (some 100007)), .inl 3]) rfl ?_
            refine r_call (rr := some (.inl 6)) (b' := 1) (v' := v) (m := 28) (args := [.inr (.inr (some 100007))]) (n' := 27) (pc' := 33) (lo' := [some (.inr (.inr (some 2))), some (.inr (.inr (some 100007))), some (.inl 3)]) (st' := [.inl 3]) (I := .invokevirtual 28) (pc0 := 30) (len := 3) rfl rfl rfl ⟨60, rfl⟩ ?_
            show WV _ _ _ 33 _ [.inl 6, .inl 3] _ _ _
            refine r_ex 7 (pc' := 46) (lo' := [some (.inr (.inr (some 2))), some (.inr (.inr (some 100007))), some (.inl 3)]) (st' := [.inl ((v 2 6) + 3), .inr (.inr (some 1))]) rfl ?_
            refine r_bald2 (x := (v 1 ((((v 2 6) + 3)).toNat))) (pc' := 47) (pc0 := 46) (len := 1) rfl (s_1 _) (Or.inl rfl) (by first | assumption | omega | (unfold R32 at *; omega) | (unfold R64 at *; omega) | (simp only [R32, R64] at *; omega)) (by decide) rfl rfl ?_
            have hb_7 : -128 ≤ (v 1 ((((v 2 6) + 3)).toNat)) ∧ (v 1 ((((v 2 6) + 3)).toNat)) ≤ 127 := hX 1 ((((v 2 6) + 3)).toNat)
            refine r_ex 2 (pc' := 49) (lo' := [some (.inr (.inr (some 2))), some (.inr (.inr (some 100007))), some (.inl 3)]) (st' := [.inl 3, .inr (.inr (some 100007)), .inl (v 1 ((((v 2 6) + 3)).toNat))]) rfl ?_
            refine r_call (rr := some (.inl 114)) (b' := 1) (v' := v) (m := 30) (args := [.inr (.inr (some 100007)), .inl 3]) (n' := 27) (pc' := 52) (lo' := [some (.inr (.inr (some 2))), some (.inr (.inr (some 100007))), some (.inl 3)]) (st' := [.inl (v 1 ((((v 2 6) + 3)).toNat))]) (I := .invokevirtual 30) (pc0 := 49) (len := 3) rfl rfl rfl ⟨60, rfl⟩ ?_
            show WV _ _ _ 52 _ [.inl 114, .inl (v 1 ((((v 2 6) + 3)).toNat))] _ _ _
            refine n_ic_eq (pc0 := 52) (len := 3) (t := 57) rfl (by first | assumption | omega | (unfold R32 at *; omega) | (unfold R64 at *; omega) | (simp only [R32, R64] at *; omega)) (by first | assumption | omega | (unfold R32 at *; omega) | (unfold R64 at *; omega) | (simp only [R32, R64] at *; omega)) (fun h_52 => ?_) (fun h_52 => ?_)
            · show WV _ _ _ 57 _ _ _ _ _
              rw [if_pos h_52] at hQ
              refine r_ex 4 (pc' := 30) (lo' := [some (.inr (.inr (some 2))), some (.inr (.inr (some 100007))), some (.inl 4)]) (st' := [.inr (.inr (some 100007)), .inl 4]) rfl ?_
              refine r_call (rr := some (.inl 6)) (b' := 1) (v' := v) (m := 28) (args := [.inr (.inr (some 100007))]) (n' := 27) (pc' := 33) (lo' := [some (.inr (.inr (some 2))), some (.inr (.inr (some 100007))), some (.inl 4)]) (st' := [.inl 4]) (I := .invokevirtual 28) (pc0 := 30) (len := 3) rfl rfl rfl ⟨60, rfl⟩ ?_
              show WV _ _ _ 33 _ [.inl 6, .inl 4] _ _ _
              refine r_ex 7 (pc' := 46) (lo' := [some (.inr (.inr (some 2))), some (.inr (.inr (some 100007))), some (.inl 4)]) (st' := [.inl ((v 2 6) + 4), .inr (.inr (some 1))]) rfl ?_
              refine r_bald2 (x := (v 1 ((((v 2 6) + 4)).toNat))) (pc' := 47) (pc0 := 46) (len := 1) rfl (s_1 _) (Or.inl rfl) (by first | assumption | omega | (unfold R32 at *; omega) | (unfold R64 at *; omega) | (simp only [R32, R64] at *; omega)) (by decide) rfl rfl ?_
              have hb_8 : -128 ≤ (v 1 ((((v 2 6) + 4)).toNat)) ∧ (v 1 ((((v 2 6) + 4)).toNat)) ≤ 127 := hX 1 ((((v 2 6) + 4)).toNat)
              refine r_ex 2 (pc' := 49) (lo' := [some (.inr (.inr (some 2))), some (.inr (.inr (some 100007))), some (.inl 4)]) (st' := [.inl 4, .inr (.inr (some 100007)), .inl (v 1 ((((v 2 6) + 4)).toNat))]) rfl ?_
              refine r_call (rr := some (.inl 99)) (b' := 1) (v' := v) (m := 30) (args := [.inr (.inr (some 100007)), .inl 4]) (n' := 27) (pc' := 52) (lo' := [some (.inr (.inr (some 2))), some (.inr (.inr (some 100007))), some (.inl 4)]) (st' := [.inl (v 1 ((((v 2 6) + 4)).toNat))]) (I := .invokevirtual 30) (pc0 := 49) (len := 3) rfl rfl rfl ⟨60, rfl⟩ ?_
              show WV _ _ _ 52 _ [.inl 99, .inl (v 1 ((((v 2 6) + 4)).toNat))] _ _ _
              refine n_ic_eq (pc0 := 52) (len := 3) (t := 57) rfl (by first | assumption | omega | (unfold R32 at *; omega) | (unfold R64 at *; omega) | (simp only [R32, R64] at *; omega)) (by first | assumption | omega | (unfold R32 at *; omega) | (unfold R64 at *; omega) | (simp only [R32, R64] at *; omega)) (fun h_52 => ?_) (fun h_52 => ?_)
              · show WV _ _ _ 57 _ _ _ _ _
                rw [if_pos h_52] at hQ
                refine r_ex 4 (pc' := 30) (lo' := [some (.inr (.inr (some 2))), some (.inr (.inr (some 100007))), some (.inl 5)]) (st' := [.inr (.inr (some 100007)), .inl 5]) rfl ?_
                refine r_call (rr := some (.inl 6)) (b' := 1) (v' := v) (m := 28) (args := [.inr (.inr (some 100007))]) (n' := 27) (pc' := 33) (lo' := [some (.inr (.inr (some 2))), some (.inr (.inr (some 100007))), some (.inl 5)]) (st' := [.inl 5]) (I := .invokevirtual 28) (pc0 := 30) (len := 3) rfl rfl rfl ⟨60, rfl⟩ ?_
                show WV _ _ _ 33 _ [.inl 6, .inl 5] _ _ _
                refine r_ex 7 (pc' := 46) (lo' := [some (.inr (.inr (some 2))), some (.inr (.inr (some 100007))), some (.inl 5)]) (st' := [.inl ((v 2 6) + 5), .inr (.inr (some 1))]) rfl ?_
                refine r_bald2 (x := (v 1 ((((v 2 6) + 5)).toNat))) (pc' := 47) (pc0 := 46) (len := 1) rfl (s_1 _) (Or.inl rfl) (by first | assumption | omega | (unfold R32 at *; omega) | (unfold R64 at *; omega) | (simp only [R32, R64] at *; omega)) (by decide) rfl rfl ?_
                have hb_9 : -128 ≤ (v 1 ((((v 2 6) + 5)).toNat)) ∧ (v 1 ((((v 2 6) + 5)).toNat)) ≤ 127 := hX 1 ((((v 2 6) + 5)).toNat)
                refine r_ex 2 (pc' := 49) (lo' := [some (.inr (.inr (some 2))), some (.inr (.inr (some 100007))), some (.inl 5)]) (st' := [.inl 5, .inr (.inr (some 100007)), .inl (v 1 ((((v 2 6) + 5)).toNat))]) rfl ?_
                refine r_call (rr := some (.inl 104)) (b' := 1) (v' := v) (m := 30) (args := [.inr (.inr (some 100007)), .inl 5]) (n' := 27) (pc' := 52) (lo' := [some (.inr (.inr (some 2))), some (.inr (.inr (some 100007))), some (.inl 5)]) (st' := [.inl (v 1 ((((v 2 6) + 5)).toNat))]) (I := .invokevirtual 30) (pc0 := 49) (len := 3) rfl rfl rfl ⟨60, rfl⟩ ?_
                show WV _ _ _ 52 _ [.inl 104, .inl (v 1 ((((v 2 6) + 5)).toNat))] _ _ _
                refine n_ic_eq (pc0 := 52) (len := 3) (t := 57) rfl (by first | assumption | omega | (unfold R32 at *; omega) | (unfold R64 at *; omega) | (simp only [R32, R64] at *; omega)) (by first | assumption | omega | (unfold R32 at *; omega) | (unfold R64 at *; omega) | (simp only [R32, R64] at *; omega)) (fun h_52 => ?_) (fun h_52 => ?_)
                · show WV _ _ _ 57 _ _ _ _ _
                  rw [if_pos h_52] at hQ
                  refine r_ex 4 (pc' := 30) (lo' := [some (.inr (.inr (some 2))), some (.inr (.inr (some 100007))), some (.inl 6)]) (st' := [.inr (.inr (some 100007)), .inl 6]) rfl ?_
                  refine r_call (rr := some (.inl 6)) (b' := 1) (v' := v) (m := 28) (args := [.inr (.inr (some 100007))]) (n' := 27) (pc' := 33) (lo' := [some (.inr (.inr (some 2))), some (.inr (.inr (some 100007))), some (.inl 6)]) (st' := [.inl 6]) (I := .invokevirtual 28) (pc0 := 30) (len := 3) rfl rfl rfl ⟨60, rfl⟩ ?_
                  show WV _ _ _ 33 _ [.inl 6, .inl 6] _ _ _
                  refine r_ex 2 (pc' := 64) (lo' := [some (.inr (.inr (some 2))), some (.inr (.inr (some 100007))), some (.inl 6)]) (st' := [.inl 1]) rfl ?_
                  refine r_ret (rr := some (.inl 1)) (I := .ireturn) (pc0 := 64) (len := 1) rfl rfl ?_
                  exact hQ (by first | assumption | omega | (unfold R32 at *; omega) | (unfold R64 at *; omega) | (simp only [R32, R64] at *; omega))
                · show WV _ _ _ 55 _ _ _ _ _
                  rw [if_neg h_52] at hQ
                  refine r_ex 1 (pc' := 56) (lo' := [some (.inr (.inr (some 2))), some (.inr (.inr (some 100007))), some (.inl 5)]) (st' := [.inl 0]) rfl ?_
                  refine r_ret (rr := some (.inl 0)) (I := .ireturn) (pc0 := 56) (len := 1) rfl rfl ?_
                  exact hQ (by first | assumption | omega | (unfold R32 at *; omega) | (unfold R64 at *; omega) | (simp only [R32, R64] at *; omega))
              · show WV _ _ _ 55 _ _ _ _ _
                rw [if_neg h_52] at hQ
                refine r_ex 1 (pc' := 56) (lo' := [some (.inr (.inr (some 2))), some (.inr (.inr (some 100007))), some (.inl 4)]) (st' := [.inl 0]) rfl ?_
                refine r_ret (rr := some (.inl 0)) (I := .ireturn) (pc0 := 56) (len := 1) rfl rfl ?_
                exact hQ (by first | assumption | omega | (unfold R32 at *; omega) | (unfold R64 at *; omega) | (simp only [R32, R64] at *; omega))
            · show WV _ _ _ 55 _ _ _ _ _
              rw [if_neg h_52] at hQ
              refine r_ex 1 (pc' := 56) (lo' := [some (.inr (.inr (some 2))), some (.inr (.inr (some 100007))), some (.inl 3)]) (st' := [.inl 0]) rfl ?_
              refine r_ret (rr := some (.inl 0)) (I := .ireturn) (pc0 := 56) (len := 1) rfl rfl ?_
              exact hQ (by first | assumption | omega | (unfold R32 at *; omega) | (unfold R64 at *; omega) | (simp only [R32, R64] at *; omega))
          · show WV _ _ _ 55 _ _ _ _ _
            rw [if_neg h_52] at hQ
            refine r_ex 1 (pc' := 56) (lo' := [some (.inr (.inr (some 2))), some (.inr (.inr (some 100007))), some (.inl 2)]) (st' := [.inl 0]) rfl ?_
            refine r_ret (rr := some (.inl 0)) (I := .ireturn) (pc0 := 56) (len := 1) rfl rfl ?_
            exact hQ (by first | assumption | omega | (unfold R32 at *; omega) | (unfold R64 at *; omega) | (simp only [R32, R64] at *; omega))
        · show WV _ _ _ 55 _ _ _ _ _
          rw [if_neg h_52] at hQ
          refine r_ex 1 (pc' := 56) (lo' := [some (.inr (.inr (some 2))), some (.inr (.inr (some 100007))), some (.inl 1)]) (st' := [.inl 0]) rfl ?_
          refine r_ret (rr := some (.inl 0)) (I := .ireturn) (pc0 := 56) (len := 1) rfl rfl ?_
          exact hQ (by first | assumption | omega | (unfold R32 at *; omega) | (unfold R64 at *; omega) | (simp only [R32, R64] at *; omega))
      · show WV _ _ _ 55 _ _ _ _ _
        rw [if_neg h_52] at hQ
        refine r_ex 1 (pc' := 56) (lo' := [some (.inr (.inr (some 2))), some (.inr (.inr (some 100007))), some (.inl 0)]) (st' := [.inl 0]) rfl ?_
        refine r_ret (rr := some (.inl 0)) (I := .ireturn) (pc0 := 56) (len := 1) rfl rfl ?_
        exact hQ (by first | assumption | omega | (unfold R32 at *; omega) | (unfold R64 at *; omega) | (simp only [R32, R64] at *; omega))
    · show WV _ _ _ 24 _ _ _ _ _
      rw [if_neg h_21] at hQ
      refine r_ex 1 (pc' := 25) (lo' := [some (.inr (.inr (some 2))), some (.inr (.inr (some 100007))), none]) (st' := [.inl 0]) rfl ?_
      refine r_ret (rr := some (.inl 0)) (I := .ireturn) (pc0 := 25) (len := 1) rfl rfl ?_
      exact hQ (by first | assumption | omega | (unfold R32 at *; omega) | (unfold R64 at *; omega) | (simp only [R32, R64] at *; omega))

theorem e_cl_isAt3 {X : PX} {d : Nat} {v : VS}  (hX : XI v) (hp_a : (v 2 7) ≤ (v 2 4)) : EvV X (d + 1 + 1 + 1 + 1) 27 [.inr (.inr (some 2)), .inr (.inr (some 100007))] 1 v (some (.inl (cl_isAt3 v))) 1 v := EvV.of (w_cl_isAt3 hX hp_a (fun _ => ⟨rfl, rfl, rfl⟩))

theorem n_cl_isAt3 {v : VS}  (hX : XI v) (hp_a : (v 2 7) ≤ (v 2 4)) : 0 ≤ (cl_isAt3 v) ∧ (cl_isAt3 v) ≤ 1 := by
  have q : WV (0, fun _ => 0, none) (0 + 1 + 1 + 1 + 1) 27 0 [some (.inr (.inr (some 2))), some (.inr (.inr (some 100007))), none] [] 1 v (fun _ _ _ => 0 ≤ (cl_isAt3 v) ∧ (cl_isAt3 v) ≤ 1) := w_cl_isAt3 (X := (0, fun _ => 0, none)) (d := 0) hX hp_a (fun q => q)
  obtain ⟨_, _, _, _, _, _, _, q⟩ := q
  exact q

def cl_isAt4 (v : VS)  : Int :=
  (if (v 2 5) = 1 then (if 4 = ((v 2 7) - (v 2 6)) then (if (v 1 ((((v 2 6) + 0)).toNat)) = 108 then (if (v 1 ((((v 2 6) + 1)).toNat)) = 97 then (if (v 1 ((((v 2 6) + 2)).toNat)) = 116 then (if (v 1 ((((v 2 6) + 3)).toNat)) = 101 then 1 else 0) else 0) else 0) else 0) else 0) else 0)
theorem w_cl_isAt4 {X : PX} {d : Nat} {v : VS}  (hX : XI v) (hp_a : (v 2 7) ≤ (v 2 4)) {Q : Option PV → Nat → VS → Prop} (hQ : (0 ≤ (cl_isAt4 v) ∧ (cl_isAt4 v) ≤ 1) → Q (some (.inl (cl_isAt4 v))) 1 v) : WV X (d + 1 + 1 + 1 + 1) 27 0 [some (.inr (.inr (some 2))), some (.inr (.inr (some 100009))), none] [] 1 v Q := by
  rw [cl_isAt4] at hQ
  have hz6 : 0 ≤ v 2 6 ∧ v 2 6 ≤ 2000 := hX 2 6
  have hz7 : 0 ≤ v 2 7 ∧ v 2 7 ≤ 2001 := hX 2 7
  have hz4 : 0 ≤ v 2 4 ∧ v 2 4 ≤ 2000 := hX 2 4
  refine r_ex 3 (pc' := 5) (lo' := [some (.inr (.inr (some 2))), some (.inr (.inr (some 100009))), none]) (st' := [.inl 1, .inl (v 2 5)]) rfl ?_
  have hb_1 : 0 ≤ (v 2 5) ∧ (v 2 5) ≤ 4 := hX 2 5
  refine n_ic_ne (pc0 := 5) (len := 3) (t := 24) rfl (by first | assumption | omega | (unfold R32 at *; omega) | (unfold R64 at *; omega) | (simp only [R32, R64] at *; omega)) (by first | assumption | omega | (unfold R32 at *; omega) | (unfold R64 at *; omega) | (simp only [R32, R64] at *; omega)) (fun h_5 => ?_) (fun h_5 => ?_)
  · show WV _ _ _ 24 _ _ _ _ _
    rw [if_neg h_5] at hQ
    refine r_ex 1 (pc' := 25) (lo' := [some (.inr (.inr (some 2))), some (.inr (.inr (some 100009))), none]) (st' := [.inl 0]) rfl ?_
    refine r_ret (rr := some (.inl 0)) (I := .ireturn) (pc0 := 25) (len := 1) rfl rfl ?_
    exact hQ (by first | assumption | omega | (unfold R32 at *; omega) | (unfold R64 at *; omega) | (simp only [R32, R64] at *; omega))
  · show WV _ _ _ 8 _ _ _ _ _
    rw [if_pos h_5] at hQ
    refine r_ex 1 (pc' := 9) (lo' := [some (.inr (.inr (some 2))), some (.inr (.inr (some 100009))), none]) (st' := [.inr (.inr (some 100009))]) rfl ?_
    refine r_call (rr := some (.inl 4)) (b' := 1) (v' := v) (m := 28) (args := [.inr (.inr (some 100009))]) (n' := 27) (pc' := 12) (lo' := [some (.inr (.inr (some 2))), some (.inr (.inr (some 100009))), none]) (st' := []) (I := .invokevirtual 28) (pc0 := 9) (len := 3) rfl rfl rfl ⟨60, rfl⟩ ?_
    show WV _ _ _ 12 _ [.inl 4] _ _ _
    refine r_ex 5 (pc' := 21) (lo' := [some (.inr (.inr (some 2))), some (.inr (.inr (some 100009))), none]) (st' := [.inl ((v 2 7) - (v 2 6)), .inl 4]) rfl ?_
    have hb_2 : 0 ≤ (v 2 7) ∧ (v 2 7) ≤ 2001 := hX 2 7
    have hb_3 : 0 ≤ (v 2 6) ∧ (v 2 6) ≤ 2000 := hX 2 6
    refine n_ic_eq (pc0 := 21) (len := 3) (t := 26) rfl (by first | assumption | omega | (unfold R32 at *; omega) | (unfold R64 at *; omega) | (simp only [R32, R64] at *; omega)) (by first | assumption | omega | (unfold R32 at *; omega) | (unfold R64 at *; omega) | (simp only [R32, R64] at *; omega)) (fun h_21 => ?_) (fun h_21 => ?_)
    · show WV _ _ _ 26 _ _ _ _ _
      rw [if_pos h_21] at hQ
      refine r_ex 4 (pc' := 30) (lo' := [some (.inr (.inr (some 2))), some (.inr (.inr (some 100009))), some (.inl 0)]) (st' := [.inr (.inr (some 100009)), .inl 0]) rfl ?_
      refine r_call (rr := some (.inl 4)) (b' := 1) (v' := v) (m := 28) (args := [.inr (.inr (some 100009))]) (n' := 27) (pc' := 33) (lo' := [some (.inr (.inr (some 2))), some (.inr (.inr (some 100009))), some (.inl 0)]) (st' := [.inl 0]) (I := .invokevirtual 28) (pc0 := 30) (len := 3) rfl rfl rfl ⟨60, rfl⟩ ?_
      show WV _ _ _ 33 _ [.inl 4, .inl 0] _ _ _
      refine r_ex 7 (pc' := 46) (lo' := [some (.inr (.inr (some 2))), some (.inr (.inr (some 100009))), some (.inl 0)]) (st' := [.inl ((v 2 6) + 0), .inr (.inr (some 1))]) rfl ?_
      refine r_bald2 (x := (v 1 ((((v 2 6) + 0)).toNat))) (pc' := 47) (pc0 := 46) (len := 1) rfl (s_1 _) (Or.inl rfl) (by first | assumption | omega | (unfold R32 at *; omega) | (unfold R64 at *; omega) | (simp only [R32, R64] at *; omega)) (by decide) rfl rfl ?_
      have hb_4 : -128 ≤ (v 1 ((((v 2 6) + 0)).toNat)) ∧ (v 1 ((((v 2 6) + 0)).toNat)) ≤ 127 := hX 1 ((((v 2 6) + 0)).toNat)
      refine r_ex 2 (pc' := 49) (lo' := [some (.inr (.inr (some 2))), some (.inr (.inr (some 100009))), some (.inl 0)]) (st' := [.inl 0, .inr (.inr (some 100009)), .inl (v 1 ((((v 2 6) + 0)).toNat))]) rfl ?_
      refine r_call (rr := some (.inl 108)) (b' := 1) (v' := v) (m := 30) (args := [.inr (.inr (some 100009)), .inl 0]) (n' := 27) (pc' := 52) (lo' := [some (.inr (.inr (some 2))), some (.inr (.inr (some 100009))), some (.inl 0)]) (st' := [.inl (v 1 ((((v 2 6) + 0)).toNat))]) (I := .invokevirtual 30) (pc0 := 49) (len := 3) rfl rfl rfl ⟨60, rfl⟩ ?_
      show WV _ _ _ 52 _ [.inl 108, .inl (v 1 ((((v 2 6) + 0)).toNat))] _ _ _
      refine n_ic_eq (pc0 := 52) (len := 3) (t := 57) rfl (by first | assumption | omega | (unfold R32 at *; omega) | (unfold R64 at *; omega) | (simp only [R32, R64] at *; omega)) (by first | assumption | omega | (unfold R32 at *; omega) | (unfold R64 at *; omega) | (simp only [R32, R64] at *; omega)) (fun h_52 => ?_) (fun h_52 => ?_)
      · show WV _ _ _ 57 _ _ _ _ _
        rw [if_pos h_52] at hQ
        refine r_ex 4 (pc' := 30) (lo' := [some (.inr (.inr (some 2))), some (.inr (.inr (some 100009))), some (.inl 1)]) (st' := [.inr (.inr (some 100009)), .inl 1]) rfl ?_
        refine r_call (rr := some (.inl 4)) (b' := 1) (v' := v) (m := 28) (args := [.inr (.inr (some 100009))]) (n' := 27) (pc' := 33) (lo' := [some (.inr (.inr (some 2))), some (.inr (.inr (some 100009))), some (.inl 1)]) (st' := [.inl 1]) (I := .invokevirtual 28) (pc0 := 30) (len := 3) rfl rfl rfl ⟨60, rfl⟩ ?_
        show WV _ _ _ 33 _ [.inl 4, .inl 1] _ _ _
        refine r_ex 7 (pc' := 46) (lo' := [some (.inr (.inr (some 2))), some (.inr (.inr (some 100009))), some (.inl 1)]) (st' := [.inl ((v 2 6) + 1), .inr (.inr (some 1))]) rfl ?_
        refine r_bald2 (x := (v 1 ((((v 2 6) + 1)).toNat))) (pc' := 47) (pc0 := 46) (len := 1) rfl (s_1 _) (Or.inl rfl) (by first | assumption | omega | (unfold R32 at *; omega) | (unfold R64 at *; omega) | (simp only [R32, R64] at *; omega)) (by decide) rfl rfl ?_
        have hb_5 : -128 ≤ (v 1 ((((v 2 6) + 1)).toNat)) ∧ (v 1 ((((v 2 6) + 1)).toNat)) ≤ 127 := hX 1 ((((v 2 6) + 1)).toNat)
        refine r_ex 2 (pc' := 49) (lo' := [some (.inr (.inr (some 2))), some (.inr (.inr (some 100009))), some (.inl 1)]) (st' := [.inl 1, .inr (.inr (some 100009)), .inl (v 1 ((((v 2 6) + 1)).toNat))]) rfl ?_
        refine r_call (rr := some (.inl 97)) (b' := 1) (v' := v) (m := 30) (args := [.inr (.inr (some 100009)), .inl 1]) (n' := 27) (pc' := 52) (lo' := [some (.inr (.inr (some 2))), some (.inr (.inr (some 100009))), some (.inl 1)]) (st' := [.inl (v 1 ((((v 2 6) + 1)).toNat))]) (I := .invokevirtual 30) (pc0 := 49) (len := 3) rfl rfl rfl ⟨60, rfl⟩ ?_
        show WV _ _ _ 52 _ [.inl 97, .inl (v 1 ((((v 2 6) + 1)).toNat))] _ _ _
        refine n_ic_eq (pc0 := 52) (len := 3) (t := 57) rfl (by first | assumption | omega | (unfold R32 at *; omega) | (unfold R64 at *; omega) | (simp only [R32, R64] at *; omega)) (by first | assumption | omega | (unfold R32 at *; omega) | (unfold R64 at *; omega) | (simp only [R32, R64] at *; omega)) (fun h_52 => ?_) (fun h_52 => ?_)
        · show WV _ _ _ 57 _ _ _ _ _
          rw [if_pos h_52] at hQ
          refine r_ex 4 (pc' := 30) (lo' := [some (.inr (.inr (some 2))), some (.inr (.inr (some 100009))), some (.inl 2)]) (st' := [.inr (.inr (some 100009)), .inl 2]) rfl ?_
          refine r_call (rr := some (.inl 4)) (b' := 1) (v' := v) (m := 28) (args := [.inr (.inr (some 100009))]) (n' := 27) (pc' := 33) (lo' := [some (.inr (.inr (some 2))), some (.inr (.inr (some 100009))), some (.inl 2)]) (st' := [.inl 2]) (I := .invokevirtual 28) (pc0 := 30) (len := 3) rfl rfl rfl ⟨60, rfl⟩ ?_
          show WV _ _ _ 33 _ [.inl 4, .inl 2] _ _ _
          refine r_ex 7 (pc' := 46) (lo' := [some (.inr (.inr (some 2))), some (.inr (.inr (some 100009))), some (.inl 2)]) (st' := [.inl ((v 2 6) + 2), .inr (.inr (some 1))]) rfl ?_
          refine r_bald2 (x := (v 1 ((((v 2 6) + 2)).toNat))) (pc' := 47) (pc0 := 46) (len := 1) rfl (s_1 _) (Or.inl rfl) (by first | assumption | omega | (unfold R32 at *; omega) | (unfold R64 at *; omega) | (simp only [R32, R64] at *; omega)) (by decide) rfl rfl ?_
          have hb_6 : -128 ≤ (v 1 ((((v 2 6) + 2)).toNat)) ∧ (v 1 ((((v 2 6) + 2)).toNat)) ≤ 127 := hX 1 ((((v 2 6) + 2)).toNat)
          refine r_ex 2 (pc' := 49) (lo' := [some (.inr (.inr (some 2))), some (.inr (.inr (some 100009))), some (.inl 2)]) (st' := [.inl 2, .inr (.inr (some 100009)), .inl (v 1 ((((v 2 6) + 2)).toNat))]) rfl ?_
          refine r_call (rr := some (.inl 116)) (b' := 1) (v' := v) (m := 30) (args := [.inr (.inr (some 100009)), .inl 2]) (n' := 27) (pc' := 52) (lo' := [some (.inr (.inr (some 2))), some (.inr (.inr (some 100009))), some (.inl 2)]) (st' := [.inl (v 1 ((((v 2 6) + 2)).toNat))]) (I := .invokevirtual 30) (pc0 := 49) (len := 3) rfl rfl rfl ⟨60, rfl⟩ ?_
          show WV _ _ _ 52 _ [.inl 116, .inl (v 1 ((((v 2 6) + 2)).toNat))] _ _ _
          refine n_ic_eq (pc0 := 52) (len := 3) (t := 57) rfl (by first | assumption | omega | (unfold R32 at *; omega) | (unfold R64 at *; omega) | (simp only [R32, R64] at *; omega)) (by first | assumption | omega | (unfold R32 at *; omega) | (unfold R64 at *; omega) | (simp only [R32, R64] at *; omega)) (fun h_52 => ?_) (fun h_52 => ?_)
          · show WV _ _ _ 57 _ _ _ _ _
            rw [if_pos h_52] at hQ
            refine r_ex 4 (pc' := 30) (lo' := [some (.inr (.inr (some 2))), some (.inr (.inr (some 100009))), some (.inl 3)]) (st' := [.inr (.inr (some 100009)), .inl 3]) rfl ?_
            refine r_call (rr := some (.inl 4)) (b' := 1) (v' := v) (m := 28) (args := [.inr (.inr (some 100009))]) (n' := 27) (pc' := 33) (lo' := [some (.inr (.inr (some 2))), some (.inr (.inr (some 100009))), some (.inl 3)]) (st' := [.inl 3]) (I := .invokevirtual 28) (pc0 := 30) (len := 3) rfl rfl rfl ⟨60, rfl⟩ ?_
            show WV _ _ _ 33 _ [.inl 4, .inl 3] _ _ _
            refine r_ex 7 (pc' := 46) (lo' := [some (.inr (.inr (some 2))), some (.inr (.inr (some 100009))), some (.inl 3)]) (st' := [.inl ((v 2 6) + 3), .inr (.inr (some 1))]) rfl ?_
            refine r_bald2 (x := (v 1 ((((v 2 6) + 3)).toNat))) (pc' := 47) (pc0 := 46) (len := 1) rfl (s_1 _) (Or.inl rfl) (by first | assumption | omega | (unfold R32 at *; omega) | (unfold R64 at *; omega) | (simp only [R32, R64] at *; omega)) (by decide) rfl rfl ?_
            have hb_7 : -128 ≤ (v 1 ((((v 2 6) + 3)).toNat)) ∧ (v 1 ((((v 2 6) + 3)).toNat)) ≤ 127 := hX 1 ((((v 2 6) + 3)).toNat)
            refine r_ex 2 (pc' := 49) (lo' := [some (.inr (.inr (some 2))), some (.inr (.inr (some 100009))), some (.inl 3)]) (st' := [.inl 3, .inr (.inr (some 100009)), .inl (v 1 ((((v 2 6) + 3)).toNat))]) rfl ?_
            refine r_call (rr := some (.inl 101)) (b' := 1) (v' := v) (m := 30) (args := [.inr (.inr (some 100009)), .inl 3]) (n' := 27) (pc' := 52) (lo' := [some (.inr (.inr (some 2))), some (.inr (.inr (some 100009))), some (.inl 3)]) (st' := [.inl (v 1 ((((v 2 6) + 3)).toNat))]) (I := .invokevirtual 30) (pc0 := 49) (len := 3) rfl rfl rfl ⟨60, rfl⟩ ?_
            show WV _ _ _ 52 _ [.inl 101, .inl (v 1 ((((v 2 6) + 3)).toNat))] _ _ _
            refine n_ic_eq (pc0 := 52) (len := 3) (t := 57) rfl (by first | assumption | omega | (unfold R32 at *; omega) | (unfold R64 at *; omega) | (simp only [R32, R64] at *; omega)) (by first | assumption | omega | (unfold R32 at *; omega) | (unfold R64 at *; omega) | (simp only [R32, R64] at *; omega)) (fun h_52 => ?_) (fun h_52 => ?_)
            · show WV _ _ _ 57 _ _ _ _ _
              rw [if_pos h_52] at hQ
              refine r_ex 4 (pc' := 30) (lo' := [some (.inr (.inr (some 2))), some (.inr (.inr (some 100009))), some (.inl 4)]) (st' := [.inr (.inr (some 100009)), .inl 4]) rfl ?_
              refine r_call (rr := some (.inl 4)) (b' := 1) (v' := v) (m := 28) (args := [.inr (.inr (some 100009))]) (n' := 27) (pc' := 33) (lo' := [some (.inr (.inr (some 2))), some (.inr (.inr (some 100009))), some (.inl 4)]) (st' := [.inl 4]) (I := .invokevirtual 28) (pc0 := 30) (len := 3) rfl rfl rfl ⟨60, rfl⟩ ?_
              show WV _ _ _ 33 _ [.inl 4, .inl 4] _ _ _
              refine r_ex 2 (pc' := 64) (lo' := [some (.inr (.inr (some 2))), some (.inr (.inr (some 100009))), some (.inl 4)]) (st' := [.inl 1]) rfl ?_
              refine r_ret (rr := some (.inl 1)) (I := .ireturn) (pc0 := 64) (len := 1) rfl rfl ?_
              exact hQ (by first | assumption | omega | (unfold R32 at *; omega) | (unfold R64 at *; omega) | (simp only [R32, R64] at *; omega))
            · show WV _ _ _ 55 _ _ _ _ _
              rw [if_neg h_52] at hQ
              refine r_ex 1 (pc' := 56) (lo' := [some (.inr (.inr (some 2))), some (.inr (.inr (some 100009))), some (.inl 3)]) (st' := [.inl 0]) rfl ?_
              refine r_ret (rr := some (.inl 0)) (I := .ireturn) (pc0 := 56) (len := 1) rfl rfl ?_
              exact hQ (by first | assumption | omega | (unfold R32 at *; omega) | (unfold R64 at *; omega) | (simp only [R32, R64] at *; omega))
          · show WV _ _ _ 55 _ _ _ _ _
            rw [if_neg h_52] at hQ
            refine r_ex 1 (pc' := 56) (lo' := [some (.inr (.inr (some 2))), some (.inr (.inr (some 100009))), some (.inl 2)]) (st' := [.inl 0]) rfl ?_
            refine r_ret (rr := some (.inl 0)) (I := .ireturn) (pc0 := 56) (len := 1) rfl rfl ?_
            exact hQ (by first | assumption | omega | (unfold R32 at *; omega) | (unfold R64 at *; omega) | (simp only [R32, R64] at *; omega))
        · show WV _ _ _ 55 _ _ _ _ _
          rw [if_neg h_52] at hQ
          refine r_ex 1 (pc' := 56) (lo' := [some (.inr (.inr (some 2))), some (.inr (.inr (some 100009))), some (.inl 1)]) (st' := [.inl 0]) rfl ?_
          refine r_ret (rr := some (.inl 0)) (I := .ireturn) (pc0 := 56) (len := 1) rfl rfl ?_
          exact hQ (by first | assumption | omega | (unfold R32 at *; omega) | (unfold R64 at *; omega) | (simp only [R32, R64] at *; omega))
      · show WV _ _ _ 55 _ _ _ _ _
        rw [if_neg h_52] at hQ
        refine r_ex 1 (pc' := 56) (lo' := [some (.inr (.inr (some 2))), some (.inr (.inr (some 100009))), some (.inl 0)]) (st' := [.inl 0]) rfl ?_
        refine r_ret (rr := some (.inl 0)) (I := .ireturn) (pc0 := 56) (len := 1) rfl rfl ?_
        exact hQ (by first | assumption | omega | (unfold R32 at *; omega) | (unfold R64 at *; omega) | (simp only [R32, R64] at *; omega))
    · show WV _ _ _ 24 _ _ _ _ _
      rw [if_neg h_21] at hQ
      refine r_ex 1 (pc' := 25) (lo' := [some (.inr (.inr (some 2))), some (.inr (.inr (some 100009))), none]) (st' := [.inl 0]) rfl ?_
      refine r_ret (rr := some (.inl 0)) (I := .ireturn) (pc0 := 25) (len := 1) rfl rfl ?_
      exact hQ (by first | assumption | omega | (unfold R32 at *; omega) | (unfold R64 at *; omega) | (simp only [R32, R64] at *; omega))

theorem e_cl_isAt4 {X : PX} {d : Nat} {v : VS}  (hX : XI v) (hp_a : (v 2 7) ≤ (v 2 4)) : EvV X (d + 1 + 1 + 1 + 1) 27 [.inr (.inr (some 2)), .inr (.inr (some 100009))] 1 v (some (.inl (cl_isAt4 v))) 1 v := EvV.of (w_cl_isAt4 hX hp_a (fun _ => ⟨rfl, rfl, rfl⟩))

theorem n_cl_isAt4 {v : VS}  (hX : XI v) (hp_a : (v 2 7) ≤ (v 2 4)) : 0 ≤ (cl_isAt4 v) ∧ (cl_isAt4 v) ≤ 1 := by
  have q : WV (0, fun _ => 0, none) (0 + 1 + 1 + 1 + 1) 27 0 [some (.inr (.inr (some 2))), some (.inr (.inr (some 100009))), none] [] 1 v (fun _ _ _ => 0 ≤ (cl_isAt4 v) ∧ (cl_isAt4 v) ≤ 1) := w_cl_isAt4 (X := (0, fun _ => 0, none)) (d := 0) hX hp_a (fun q => q)
  obtain ⟨_, _, _, _, _, _, _, q⟩ := q
  exact q

def cl_word4 (v : VS)  : VS :=
  (if (v 2 1) = 0 then (if (cl_isAt4 v) = 0 then (cl_fail v 1) else (cl_advance v)) else (cl_fail v 1))
theorem w_cl_word4 {X : PX} {d : Nat} {v : VS}  (hX : XI v) (hp_a : (v 2 7) ≤ (v 2 4)) {Q : Option PV → Nat → VS → Prop} (hQ : XI (cl_word4 v) → (((cl_word4 v) 2 7) ≤ ((cl_word4 v) 2 4)) → Q none 1 (cl_word4 v)) : WV X (d + 1 + 1 + 1 + 1 + 1) 26 0 [some (.inr (.inr (some 2))), some (.inr (.inr (some 100009)))] [] 1 v Q := by
  rw [cl_word4] at hQ
  refine r_ex 2 (pc' := 4) (lo' := [some (.inr (.inr (some 2))), some (.inr (.inr (some 100009)))]) (st' := [.inl (v 2 1)]) rfl ?_
  have hb_1 : 0 ≤ (v 2 1) ∧ (v 2 1) ≤ 3 := hX 2 1
  refine n_if_ne (pc0 := 4) (len := 3) (t := 22) rfl (by first | assumption | omega | (unfold R32 at *; omega) | (unfold R64 at *; omega) | (simp only [R32, R64] at *; omega)) (fun h_4 => ?_) (fun h_4 => ?_)
  · show WV _ _ _ 22 _ _ _ _ _
    rw [if_neg h_4] at hQ
    refine r_ex 2 (pc' := 24) (lo' := [some (.inr (.inr (some 2))), some (.inr (.inr (some 100009)))]) (st' := [.inl 1, .inr (.inr (some 2))]) rfl ?_
    have hp_2 : 1 ≤ (1 : Int) ∧ (1 : Int) ≤ 3 := (by first | assumption | omega | (unfold R32 at *; omega) | (unfold R64 at *; omega) | (simp only [R32, R64] at *; omega))
    have hp_3 : (v 2 7) ≤ (v 2 4) := (show (v 2 7) ≤ (v 2 4) from (by first | assumption | omega | (unfold R32 at *; omega) | (unfold R64 at *; omega) | (simp only [R32, R64] at *; omega)))
    refine r_call (m := 39) (args := [.inr (.inr (some 2)), .inl 1]) (n' := 26) (pc' := 27) (lo' := [some (.inr (.inr (some 2))), some (.inr (.inr (some 100009)))]) (st' := []) (I := .invokevirtual 39) (pc0 := 24) (len := 3) rfl rfl rfl (e_cl_fail hX hp_2 hp_3) ?_
    show WV _ _ _ 27 _ [] _ (cl_fail v 1) _
    have hX_4 : XI (cl_fail v 1) := i_cl_fail (v := v) (k := 1) hX hp_2 hp_3
    have hb_5 : ((cl_fail v 1) 2 7) ≤ ((cl_fail v 1) 2 4) := n_cl_fail (v := v) (k := 1) hX hp_2 hp_3
    refine r_ret (rr := none) (I := .return_) (pc0 := 27) (len := 1) rfl rfl ?_
    exact hQ hX_4 (show ((cl_fail v 1) 2 7) ≤ ((cl_fail v 1) 2 4) from (by first | assumption | omega | (unfold R32 at *; omega) | (unfold R64 at *; omega) | (simp only [R32, R64] at *; omega)))
  · show WV _ _ _ 7 _ _ _ _ _
    rw [if_pos h_4] at hQ
    refine r_ex 2 (pc' := 9) (lo' := [some (.inr (.inr (some 2))), some (.inr (.inr (some 100009)))]) (st' := [.inr (.inr (some 100009)), .inr (.inr (some 2))]) rfl ?_
    have hp_6 : (v 2 7) ≤ (v 2 4) := (show (v 2 7) ≤ (v 2 4) from (by first | assumption | omega | (unfold R32 at *; omega) | (unfold R64 at *; omega) | (simp only [R32, R64] at *; omega)))
    refine r_call (m := 27) (args := [.inr (.inr (some 2)), .inr (.inr (some 100009))]) (n' := 26) (pc' := 12) (lo' := [some (.inr (.inr (some 2))), some (.inr (.inr (some 100009)))]) (st' := []) (I := .invokevirtual 27) (pc0 := 9) (len := 3) rfl rfl rfl (e_cl_isAt4 hX hp_6) ?_
    show WV _ _ _ 12 _ [.inl (cl_isAt4 v)] _ _ _
    have hb_7 := n_cl_isAt4 (v := v) hX hp_6
    refine n_if_eq (pc0 := 12) (len := 3) (t := 22) rfl (by first | assumption | omega | (unfold R32 at *; omega) | (unfold R64 at *; omega) | (simp only [R32, R64] at *; omega)) (fun h_12 => ?_) (fun h_12 => ?_)
    · show WV _ _ _ 22 _ _ _ _ _
      rw [if_pos h_12] at hQ
      refine r_ex 2 (pc' := 24) (lo' := [some (.inr (.inr (some 2))), some (.inr (.inr (some 100009)))]) (st' := [.inl 1, .inr (.inr (some 2))]) rfl ?_
      have hp_8 : 1 ≤ (1 : Int) ∧ (1 : Int) ≤ 3 := (by first | assumption | omega | (unfold R32 at *; omega) | (unfold R64 at *; omega) | (simp only [R32, R64] at *; omega))
      have hp_9 : (v 2 7) ≤ (v 2 4) := (show (v 2 7) ≤ (v 2 4) from (by first | assumption | omega | (unfold R32 at *; omega) | (unfold R64 at *; omega) | (simp only [R32, R64] at *; omega)))
      refine r_call (m := 39) (args := [.inr (.inr (some 2)), .inl 1]) (n' := 26) (pc' := 27) (lo' := [some (.inr (.inr (some 2))), some (.inr (.inr (some 100009)))]) (st' := []) (I := .invokevirtual 39) (pc0 := 24) (len := 3) rfl rfl rfl (e_cl_fail hX hp_8 hp_9) ?_
      show WV _ _ _ 27 _ [] _ (cl_fail v 1) _
      have hX_10 : XI (cl_fail v 1) := i_cl_fail (v := v) (k := 1) hX hp_8 hp_9
      have hb_11 : ((cl_fail v 1) 2 7) ≤ ((cl_fail v 1) 2 4) := n_cl_fail (v := v) (k := 1) hX hp_8 hp_9
      refine r_ret (rr := none) (I := .return_) (pc0 := 27) (len := 1) rfl rfl ?_
      exact hQ hX_10 (show ((cl_fail v 1) 2 7) ≤ ((cl_fail v 1) 2 4) from (by first | assumption | omega | (unfold R32 at *; omega) | (unfold R64 at *; omega) | (simp only [R32, R64] at *; omega)))
    · show WV _ _ _ 15 _ _ _ _ _
      rw [if_neg h_12] at hQ
      refine r_ex 1 (pc' := 16) (lo' := [some (.inr (.inr (some 2))), some (.inr (.inr (some 100009)))]) (st' := [.inr (.inr (some 2))]) rfl ?_
      have hp_12 : (v 2 7) ≤ (v 2 4) := (show (v 2 7) ≤ (v 2 4) from (by first | assumption | omega | (unfold R32 at *; omega) | (unfold R64 at *; omega) | (simp only [R32, R64] at *; omega)))
      refine r_call (m := 21) (args := [.inr (.inr (some 2))]) (n' := 26) (pc' := 19) (lo' := [some (.inr (.inr (some 2))), some (.inr (.inr (some 100009)))]) (st' := []) (I := .invokevirtual 21) (pc0 := 16) (len := 3) rfl rfl rfl (e_cl_advance hX hp_12) ?_
      show WV _ _ _ 19 _ [] _ (cl_advance v) _
      have hX_13 : XI (cl_advance v) := i_cl_advance (v := v) hX hp_12
      have hb_14 : ((cl_advance v) 2 7) ≤ ((cl_advance v) 2 4) := n_cl_advance (v := v) hX hp_12
      refine r_ex 1 (pc' := 27) (lo' := [some (.inr (.inr (some 2))), some (.inr (.inr (some 100009)))]) (st' := []) rfl ?_
      refine r_ret (rr := none) (I := .return_) (pc0 := 27) (len := 1) rfl rfl ?_
      exact hQ hX_13 (show ((cl_advance v) 2 7) ≤ ((cl_advance v) 2 4) from (by first | assumption | omega | (unfold R32 at *; omega) | (unfold R64 at *; omega) | (simp only [R32, R64] at *; omega)))

theorem e_cl_word4 {X : PX} {d : Nat} {v : VS}  (hX : XI v) (hp_a : (v 2 7) ≤ (v 2 4)) : EvV X (d + 1 + 1 + 1 + 1 + 1) 26 [.inr (.inr (some 2)), .inr (.inr (some 100009))] 1 v none 1 (cl_word4 v) := EvV.of (w_cl_word4 hX hp_a (fun _ _ => ⟨rfl, rfl, rfl⟩))

theorem i_cl_word4 {v : VS}  (hX : XI v) (hp_a : (v 2 7) ≤ (v 2 4)) : XI (cl_word4 v) := by
  have q : WV (0, fun _ => 0, none) (0 + 1 + 1 + 1 + 1 + 1) 26 0 [some (.inr (.inr (some 2))), some (.inr (.inr (some 100009)))] [] 1 v (fun _ _ _ => XI (cl_word4 v)) := w_cl_word4 (X := (0, fun _ => 0, none)) (d := 0) hX hp_a (fun q _ => q)
  obtain ⟨_, _, _, _, _, _, _, q⟩ := q
  exact q

theorem n_cl_word4 {v : VS}  (hX : XI v) (hp_a : (v 2 7) ≤ (v 2 4)) : ((cl_word4 v) 2 7) ≤ ((cl_word4 v) 2 4) := by
  have q : WV (0, fun _ => 0, none) (0 + 1 + 1 + 1 + 1 + 1) 26 0 [some (.inr (.inr (some 2))), some (.inr (.inr (some 100009)))] [] 1 v (fun _ _ _ => ((cl_word4 v) 2 7) ≤ ((cl_word4 v) 2 4)) := w_cl_word4 (X := (0, fun _ => 0, none)) (d := 0) hX hp_a (fun _ q => q)
  obtain ⟨_, _, _, _, _, _, _, q⟩ := q
  exact q

theorem o_cl_word4 {rk : Nat} {v : VS}  (hk : (rk < 2 ∨ 2 < rk)) : (cl_word4 v ) rk = v rk := by
  unfold cl_word4
  by_cases hc_ : (v 2 1) = 0
  · rw [if_pos hc_]
    by_cases hc_ : (cl_isAt4 v) = 0
    · rw [if_pos hc_]
      all_goals (show (cl_fail v 1) rk = _)
      all_goals (rw [o_cl_fail (by omega)])
    · rw [if_neg hc_]
      all_goals (show (cl_advance v) rk = _)
      all_goals (rw [o_cl_advance (by omega)])
  · rw [if_neg hc_]
    all_goals (show (cl_fail v 1) rk = _)
    all_goals (rw [o_cl_fail (by omega)])

def cl_isAt5 (v : VS)  : Int :=
  (if (v 2 5) = 1 then (if 5 = ((v 2 7) - (v 2 6)) then (if (v 1 ((((v 2 6) + 0)).toNat)) = 112 then (if (v 1 ((((v 2 6) + 1)).toNat)) = 114 then (if (v 1 ((((v 2 6) + 2)).toNat)) = 111 then (if (v 1 ((((v 2 6) + 3)).toNat)) = 117 then (if (v 1 ((((v 2 6) + 4)).toNat)) = 100 then 1 else 0) else 0) else 0) else 0) else 0) else 0) else 0)
theorem w_cl_isAt5 {X : PX} {d : Nat} {v : VS}  (hX : XI v) (hp_a : (v 2 7) ≤ (v 2 4)) {Q : Option PV → Nat → VS → Prop} (hQ : (0 ≤ (cl_isAt5 v) ∧ (cl_isAt5 v) ≤ 1) → Q (some (.inl (cl_isAt5 v))) 1 v) : WV X (d + 1 + 1 + 1 + 1) 27 0 [some (.inr (.inr (some 2))), some (.inr (.inr (some 100011))), none] [] 1 v Q := by
  rw [cl_isAt5] at hQ
  have hz6 : 0 ≤ v 2 6 ∧ v 2 6 ≤ 2000 := hX 2 6
  have hz7 : 0 ≤ v 2 7 ∧ v 2 7 ≤ 2001 := hX 2 7
  have hz4 : 0 ≤ v 2 4 ∧ v 2 4 ≤ 2000 := hX 2 4
  refine r_ex 3 (pc' := 5) (lo' := [some (.inr (.inr (some 2))), some (.inr (.inr (some 100011))), none]) (st' := [.inl 1, .inl (v 2 5)]) rfl ?_
  have hb_1 : 0 ≤ (v 2 5) ∧ (v 2 5) ≤ 4 := hX 2 5
  refine n_ic_ne (pc0 := 5) (len := 3) (t := 24) rfl (by first | assumption | omega | (unfold R32 at *; omega) | (unfold R64 at *; omega) | (simp only [R32, R64] at *; omega)) (by first | assumption | omega | (unfold R32 at *; omega) | (unfold R64 at *; omega) | (simp only [R32, R64] at *; omega)) (fun h_5 => ?_) (fun h_5 => ?_)
  · show WV _ _ _ 24 _ _ _ _ _
    rw [if_neg h_5] at hQ
    refine r_ex 1 (pc' := 25) (lo' := [some (.inr (.inr (some 2))), some (.inr (.inr (some 100011))), none]) (st' := [.inl 0]) rfl ?_
    refine r_ret (rr := some (.inl 0)) (I := .ireturn) (pc0 := 25) (len := 1) rfl rfl ?_
    exact hQ (by first | assumption | omega | (unfold R32 at *; omega) | (unfold R64 at *; omega) | (simp only [R32, R64] at *; omega))
  · show WV _ _ _ 8 _ _ _ _ _
    rw [if_pos h_5] at hQ
    refine r_ex 1 (pc' := 9) (lo' := [some (.inr (.inr (some 2))), some (.inr (.inr (some 100011))), none]) (st' := [.inr (.inr (some 100011))]) rfl ?_
    refine r_call (rr := some (.inl 5)) (b' := 1) (v' := v) (m := 28) (args := [.inr (.inr (some 100011))]) (n' := 27) (pc' := 12) (lo' := [some (.inr (.inr (some 2))), some (.inr (.inr (some 100011))), none]) (st' := []) (I := .invokevirtual 28) (pc0 := 9) (len := 3) rfl rfl rfl ⟨60, rfl⟩ ?_
    show WV _ _ _ 12 _ [.inl 5] _ _ _
    refine r_ex 5 (pc' := 21) (lo' := [some (.inr (.inr (some 2))), some (.inr (.inr (some 100011))), none]) (st' := [.inl ((v 2 7) - (v 2 6)), .inl 5]) rfl ?_
    have hb_2 : 0 ≤ (v 2 7) ∧ (v 2 7) ≤ 2001 := hX 2 7
    have hb_3 : 0 ≤ (v 2 6) ∧ (v 2 6) ≤ 2000 := hX 2 6
    refine n_ic_eq (pc0 := 21) (len := 3) (t := 26) rfl (by first | assumption | omega | (unfold R32 at *; omega) | (unfold R64 at *; omega) | (simp only [R32, R64] at *; omega)) (by first | assumption | omega | (unfold R32 at *; omega) | (unfold R64 at *; omega) | (simp only [R32, R64] at *; omega)) (fun h_21 => ?_) (fun h_21 => ?_)
    · show WV _ _ _ 26 _ _ _ _ _
      rw [if_pos h_21] at hQ
      refine r_ex 4 (pc' := 30) (lo' := [some (.inr (.inr (some 2))), some (.inr (.inr (some 100011))), some (.inl 0)]) (st' := [.inr (.inr (some 100011)), .inl 0]) rfl ?_
      refine r_call (rr := some (.inl 5)) (b' := 1) (v' := v) (m := 28) (args := [.inr (.inr (some 100011))]) (n' := 27) (pc' := 33) (lo' := [some (.inr (.inr (some 2))), some (.inr (.inr (some 100011))), some (.inl 0)]) (st' := [.inl 0]) (I := .invokevirtual 28) (pc0 := 30) (len := 3) rfl rfl rfl ⟨60, rfl⟩ ?_
      show WV _ _ _ 33 _ [.inl 5, .inl 0] _ _ _
      refine r_ex 7 (pc' := 46) (lo' := [some (.inr (.inr (some 2))), some (.inr (.inr (some 100011))), some (.inl 0)]) (st' := [.inl ((v 2 6) + 0), .inr (.inr (some 1))]) rfl ?_
      refine r_bald2 (x := (v 1 ((((v 2 6) + 0)).toNat))) (pc' := 47) (pc0 := 46) (len := 1) rfl (s_1 _) (Or.inl rfl) (by first | assumption | omega | (unfold R32 at *; omega) | (unfold R64 at *; omega) | (simp only [R32, R64] at *; omega)) (by decide) rfl rfl ?_
      have hb_4 : -128 ≤ (v 1 ((((v 2 6) + 0)).toNat)) ∧ (v 1 ((((v 2 6) + 0)).toNat)) ≤ 127 := hX 1 ((((v 2 6) + 0)).toNat)
      refine r_ex 2 (pc' := 49) (lo' := [some (.inr (.inr (some 2))), some (.inr (.inr (some 100011))), some (.inl 0)]) (st' := [.inl 0, .inr (.inr (some 100011)), .inl (v 1 ((((v 2 6) + 0)).toNat))]) rfl ?_
      refine r_call (rr := some (.inl 112)) (b' := 1) (v' := v) (m := 30) (args := [.inr (.inr (some 100011)), .inl 0]) (n' := 27) (pc' := 52) (lo' := [some (.inr (.inr (some 2))), some (.inr (.inr (some 100011))), some (.inl 0)]) (st' := [.inl (v 1 ((((v 2 6) + 0)).toNat))]) (I := .invokevirtual 30) (pc0 := 49) (len := 3) rfl rfl rfl ⟨60, rfl⟩ ?_
      show WV _ _ _ 52 _ [.inl 112, .inl (v 1 ((((v 2 6) + 0)).toNat))] _ _ _
      refine n_ic_eq (pc0 := 52) (len := 3) (t := 57) rfl (by first | assumption | omega | (unfold R32 at *; omega) | (unfold R64 at *; omega) | (simp only [R32, R64] at *; omega)) (by first | assumption | omega | (unfold R32 at *; omega) | (unfold R64 at *; omega) | (simp only [R32, R64] at *; omega)) (fun h_52 => ?_) (fun h_52 => ?_)
      · show WV _ _ _ 57 _ _ _ _ _
        rw [if_pos h_52] at hQ
        refine r_ex 4 (pc' := 30) (lo' := [some (.inr (.inr (some 2))), some (.inr (.inr (some 100011))), some (.inl 1)]) (st' := [.inr (.inr (some 100011)), .inl 1]) rfl ?_
        refine r_call (rr := some (.inl 5)) (b' := 1) (v' := v) (m := 28) (args := [.inr (.inr (some 100011))]) (n' := 27) (pc' := 33) (lo' := [some (.inr (.inr (some 2))), some (.inr (.inr (some 100011))), some (.inl 1)]) (st' := [.inl 1]) (I := .invokevirtual 28) (pc0 := 30) (len := 3) rfl rfl rfl ⟨60, rfl⟩ ?_
        show WV _ _ _ 33 _ [.inl 5, .inl 1] _ _ _
        refine r_ex 7 (pc' := 46) (lo' := [some (.inr (.inr (some 2))), some (.inr (.inr (some 100011))), some (.inl 1)]) (st' := [.inl ((v 2 6) + 1), .inr (.inr (some 1))]) rfl ?_
        refine r_bald2 (x := (v 1 ((((v 2 6) + 1)).toNat))) (pc' := 47) (pc0 := 46) (len := 1) rfl (s_1 _) (Or.inl rfl) (by first | assumption | omega | (unfold R32 at *; omega) | (unfold R64 at *; omega) | (simp only [R32, R64] at *; omega)) (by decide) rfl rfl ?_
        have hb_5 : -128 ≤ (v 1 ((((v 2 6) + 1)).toNat)) ∧ (v 1 ((((v 2 6) + 1)).toNat)) ≤ 127 := hX 1 ((((v 2 6) + 1)).toNat)
        refine r_ex 2 (pc' := 49) (lo' := [some (.inr (.inr (some 2))), some (.inr (.inr (some 100011))), some (.inl 1)]) (st' := [.inl 1, .inr (.inr (some 100011)), .inl (v 1 ((((v 2 6) + 1)).toNat))]) rfl ?_
        refine r_call (rr := some (.inl 114)) (b' := 1) (v' := v) (m := 30) (args := [.inr (.inr (some 100011)), .inl 1]) (n' := 27) (pc' := 52) (lo' := [some (.inr (.inr (some 2))), some (.inr (.inr (some 100011))), some (.inl 1)]) (st' := [.inl (v 1 ((((v 2 6) + 1)).toNat))]) (I := .invokevirtual 30) (pc0 := 49) (len := 3) rfl rfl rfl ⟨60, rfl⟩ ?_
        show WV _ _ _ 52 _ [.inl 114, .inl (v 1 ((((v 2 6) + 1)).toNat))] _ _ _
        refine n_ic_eq (pc0 := 52) (len := 3) (t := 57) rfl (by first | assumption | omega | (unfold R32 at *; omega) | (unfold R64 at *; omega) | (simp only [R32, R64] at *; omega)) (by first | assumption | omega | (unfold R32 at *; omega) | (unfold R64 at *; omega) | (simp only [R32, R64] at *; omega)) (fun h_52 => ?_) (fun h_52 => ?_)
        · show WV _ _ _ 57 _ _ _ _ _
          rw [if_pos h_52] at hQ
          refine r_ex 4 (pc' := 30) (lo' := [some (.inr (.inr (some 2))), some (.inr (.inr (some 100011))), some (.inl 2)]) (st' := [.inr (.inr (some 100011)), .inl 2]) rfl ?_
          refine r_call (rr := some (.inl 5)) (b' := 1) (v' := v) (m := 28) (args := [.inr (.inr (some 100011))]) (n' := 27) (pc' := 33) (lo' := [some (.inr (.inr (some 2))), some (.inr (.inr (some 100011))), some (.inl 2)]) (st' := [.inl 2]) (I := .invokevirtual 28) (pc0 := 30) (len := 3) rfl rfl rfl ⟨60, rfl⟩ ?_
          show WV _ _ _ 33 _ [.inl 5, .inl 2] _ _ _
          refine r_ex 7 (pc' := 46) (lo' := [some (.inr (.inr (some 2))), some (.inr (.inr (some 100011))), some (.inl 2)]) (st' := [.inl ((v 2 6) + 2), .inr (.inr (some 1))]) rfl ?_
          refine r_bald2 (x := (v 1 ((((v 2 6) + 2)).toNat))) (pc' := 47) (pc0 := 46) (len := 1) rfl (s_1 _) (Or.inl rfl) (by first | assumption | omega | (unfold R32 at *; omega) | (unfold R64 at *; omega) | (simp only [R32, R64] at *; omega)) (by decide) rfl rfl ?_
          have hb_6 : -128 ≤ (v 1 ((((v 2 6) + 2)).toNat)) ∧ (v 1 ((((v 2 6) + 2)).toNat)) ≤ 127 := hX 1 ((((v 2 6) + 2)).toNat)
          refine r_ex 2 (pc' := 49) (lo' := [some (.inr (.inr (some 2))), some (.inr (.inr (some 100011))), some (.inl 2)]) (st' := [.inl 2, .inr (.inr (some 100011)), .inl (v 1 ((((v 2 6) + 2)).toNat))]) rfl ?_
          refine r_call (rr := some (.inl 111)) (b' := 1) (v' := v) (m := 30) (args := [.inr (.inr (some 100011)), .inl 2]) (n' := 27) (pc' := 52) (lo' := [some (.inr (.inr (some 2))), some (.inr (.inr (some 100011))), some (.inl 2)]) (st' := [.inl (v 1 ((((v 2 6) + 2)).toNat))]) (I := .invokevirtual 30) (pc0 := 49) (len := 3) rfl rfl rfl ⟨60, rfl⟩ ?_
          show WV _ _ _ 52 _ [.inl 111, .inl (v 1 ((((v 2 6) + 2)).toNat))] _ _ _
          refine n_ic_eq (pc0 := 52) (len := 3) (t := 57) rfl (by first | assumption | omega | (unfold R32 at *; omega) | (unfold R64 at *; omega) | (simp only [R32, R64] at *; omega)) (by first | assumption | omega | (unfold R32 at *; omega) | (unfold R64 at *; omega) | (simp only [R32, R64] at *; omega)) (fun h_52 => ?_) (fun h_52 => ?_)
          · show WV _ _ _ 57 _ _ _ _ _
            rw [if_pos h_52] at hQ
            refine r_ex 4 (pc' := 30) (lo' := [some (.inr (.inr (some 2))), some (.inr (.inr (some 100011))), some (.inl 3)]) (st' := [.inr (.inr (some 100011)), .inl 3]) rfl ?_
            refine r_call (rr := some (.inl 5)) (b' := 1) (v' := v) (m := 28) (args := [.inr (.inr (some 100011))]) (n' := 27) (pc' := 33) (lo' := [some (.inr (.inr (some 2))), some (.inr (.inr (some 100011))), some (.inl 3)]) (st' := [.inl 3]) (I := .invokevirtual 28) (pc0 := 30) (len := 3) rfl rfl rfl ⟨60, rfl⟩ ?_
            show WV _ _ _ 33 _ [.inl 5, .inl 3] _ _ _
            refine r_ex 7 (pc' := 46) (lo' := [some (.inr (.inr (some 2))), some (.inr (.inr (some 100011))), some (.inl 3)]) (st' := [.inl ((v 2 6) + 3), .inr (.inr (some 1))]) rfl ?_
            refine r_bald2 (x := (v 1 ((((v 2 6) + 3)).toNat))) (pc' := 47) (pc0 := 46) (len := 1) rfl (s_1 _) (Or.inl rfl) (by first | assumption | omega | (unfold R32 at *; omega) | (unfold R64 at *; omega) | (simp only [R32, R64] at *; omega)) (by decide) rfl rfl ?_
            have hb_7 : -128 ≤ (v 1 ((((v 2 6) + 3)).toNat)) ∧ (v 1 ((((v 2 6) + 3)).toNat)) ≤ 127 := hX 1 ((((v 2 6) + 3)).toNat)
            refine r_ex 2 (pc' := 49) (lo' := [some (.inr (.inr (some 2))), some (.inr (.inr (some 100011))), some (.inl 3)]) (st' := [.inl 3, .inr (.inr (some 100011)), .inl (v 1 ((((v 2 6) + 3)).toNat))]) rfl ?_
            refine r_call (rr := some (.inl 117)) (b' := 1) (v' := v) (m := 30) (args := [.inr (.inr (some 100011)), .inl 3]) (n' := 27) (pc' := 52) (lo' := [some (.inr (.inr (some 2))), some (.inr (.inr (some 100011))), some (.inl 3)]) (st' := [.inl (v 1 ((((v 2 6) + 3)).toNat))]) (I := .invokevirtual 30) (pc0 := 49) (len := 3) rfl rfl rfl ⟨60, rfl⟩ ?_
            show WV _ _ _ 52 _ [.inl 117, .inl (v 1 ((((v 2 6) + 3)).toNat))] _ _ _
            refine n_ic_eq (pc0 := 52) (len := 3) (t := 57) rfl (by first | assumption | omega | (unfold R32 at *; omega) | (unfold R64 at *; omega) | (simp only [R32, R64] at *; omega)) (by first | assumption | omega | (unfold R32 at *; omega) | (unfold R64 at *; omega) | (simp only [R32, R64] at *; omega)) (fun h_52 => ?_) (fun h_52 => ?_)
            · show WV _ _ _ 57 _ _ _ _ _
              rw [if_pos h_52] at hQ
              refine r_ex 4 (pc' := 30) (lo' := [some (.inr (.inr (some 2))), some (.inr (.inr (some 100011))), some (.inl 4)]) (st' := [.inr (.inr (some 100011)), .inl 4]) rfl ?_
              refine r_call (rr := some (.inl 5)) (b' := 1) (v' := v) (m := 28) (args := [.inr (.inr (some 100011))]) (n' := 27) (pc' := 33) (lo' := [some (.inr (.inr (some 2))), some (.inr (.inr (some 100011))), some (.inl 4)]) (st' := [.inl 4]) (I := .invokevirtual 28) (pc0 := 30) (len := 3) rfl rfl rfl ⟨60, rfl⟩ ?_
              show WV _ _ _ 33 _ [.inl 5, .inl 4] _ _ _
              refine r_ex 7 (pc' := 46) (lo' := [some (.inr (.inr (some 2))), some (.inr (.inr (some 100011))), some (.inl 4)]) (st' := [.inl ((v 2 6) + 4), .inr (.inr (some 1))]) rfl ?_
              refine r_bald2 (x := (v 1 ((((v 2 6) + 4)).toNat))) (pc' := 47) (pc0 := 46) (len := 1) rfl (s_1 _) (Or.inl rfl) (by first | assumption | omega | (unfold R32 at *; omega) | (unfold R64 at *; omega) | (simp only [R32, R64] at *; omega)) (by decide) rfl rfl ?_
              have hb_8 : -128 ≤ (v 1 ((((v 2 6) + 4)).toNat)) ∧ (v 1 ((((v 2 6) + 4)).toNat)) ≤ 127 := hX 1 ((((v 2 6) + 4)).toNat)
              refine r_ex 2 (pc' := 49) (lo' := [some (.inr (.inr (some 2))), some (.inr (.inr (some 100011))), some (.inl 4)]) (st' := [.inl 4, .inr (.inr (some 100011)), .inl (v 1 ((((v 2 6) + 4)).toNat))]) rfl ?_
              refine r_call (rr := some (.inl 100)) (b' := 1) (v' := v) (m := 30) (args := [.inr (.inr (some 100011)), .inl 4]) (n' := 27) (pc' := 52) (lo' := [some (.inr (.inr (some 2))), some (.inr (.inr (some 100011))), some (.inl 4)]) (st' := [.inl (v 1 ((((v 2 6) + 4)).toNat))]) (I := .invokevirtual 30) (pc0 := 49) (len := 3) rfl rfl rfl ⟨60, rfl⟩ ?_
              show WV _ _ _ 52 _ [.inl 100, .inl (v 1 ((((v 2 6) + 4)).toNat))] _ _ _
              refine n_ic_eq (pc0 := 52) (len := 3) (t := 57) rfl (by first | assumption | omega | (unfold R32 at *; omega) | (unfold R64 at *; omega) | (simp only [R32, R64] at *; omega)) (by first | assumption | omega | (unfold R32 at *; omega) | (unfold R64 at *; omega) | (simp only [R32, R64] at *; omega)) (fun h_52 => ?_) (fun h_52 => ?_)
              · show WV _ _ _ 57 _ _ _ _ _
                rw [if_pos h_52] at hQ
                refine r_ex 4 (pc' := 30) (lo' := [some (.inr (.inr (some 2))), some (.inr (.inr (some 100011))), some (.inl 5)]) (st' := [.inr (.inr (some 100011)), .inl 5]) rfl ?_
                refine r_call (rr := some (.inl 5)) (b' := 1) (v' := v) (m := 28) (args := [.inr (.inr (some 100011))]) (n' := 27) (pc' := 33) (lo' := [some (.inr (.inr (some 2))), some (.inr (.inr (some 100011))), some (.inl 5)]) (st' := [.inl 5]) (I := .invokevirtual 28) (pc0 := 30) (len := 3) rfl rfl rfl ⟨60, rfl⟩ ?_
                show WV _ _ _ 33 _ [.inl 5, .inl 5] _ _ _
                refine r_ex 2 (pc' := 64) (lo' := [some (.inr (.inr (some 2))), some (.inr (.inr (some 100011))), some (.inl 5)]) (st' := [.inl 1]) rfl ?_
                refine r_ret (rr := some (.inl 1)) (I := .ireturn) (pc0 := 64) (len := 1) rfl rfl ?_
                exact hQ (by first | assumption | omega | (unfold R32 at *; omega) | (unfold R64 at *; omega) | (simp only [R32, R64] at *; omega))
              · show WV _ _ _ 55 _ _ _ _ _
                rw [if_neg h_52] at hQ
                refine r_ex 1 (pc' := 56) (lo' := [some (.inr (.inr (some 2))), some (.inr (.inr (some 100011))), some (.inl 4)]) (st' := [.inl 0]) rfl ?_
                refine r_ret (rr := some (.inl 0)) (I := .ireturn) (pc0 := 56) (len := 1) rfl rfl ?_
                exact hQ (by first | assumption | omega | (unfold R32 at *; omega) | (unfold R64 at *; omega) | (simp only [R32, R64] at *; omega))
            · show WV _ _ _ 55 _ _ _ _ _
              rw [if_neg h_52] at hQ
              refine r_ex 1 (pc' := 56) (lo' := [some (.inr (.inr (some 2))), some (.inr (.inr (some 100011))), some (.inl 3)]) (st' := [.inl 0]) rfl ?_
              refine r_ret (rr := some (.inl 0)) (I := .ireturn) (pc0 := 56) (len := 1) rfl rfl ?_
              exact hQ (by first | assumption | omega | (unfold R32 at *; omega) | (unfold R64 at *; omega) | (simp only [R32, R64] at *; omega))
          · show WV _ _ _ 55 _ _ _ _ _
            rw [if_neg h_52] at hQ
            refine r_ex 1 (pc' := 56) (lo' := [some (.inr (.inr (some 2))), some (.inr (.inr (some 100011))), some (.inl 2)]) (st' := [.inl 0]) rfl ?_
            refine r_ret (rr := some (.inl 0)) (I := .ireturn) (pc0 := 56) (len := 1) rfl rfl ?_
            exact hQ (by first | assumption | omega | (unfold R32 at *; omega) | (unfold R64 at *; omega) | (simp only [R32, R64] at *; omega))
        · show WV _ _ _ 55 _ _ _ _ _
          rw [if_neg h_52] at hQ
          refine r_ex 1 (pc' := 56) (lo' := [some (.inr (.inr (some 2))), some (.inr (.inr (some 100011))), some (.inl 1)]) (st' := [.inl 0]) rfl ?_
          refine r_ret (rr := some (.inl 0)) (I := .ireturn) (pc0 := 56) (len := 1) rfl rfl ?_
          exact hQ (by first | assumption | omega | (unfold R32 at *; omega) | (unfold R64 at *; omega) | (simp only [R32, R64] at *; omega))
      · show WV _ _ _ 55 _ _ _ _ _
        rw [if_neg h_52] at hQ
        refine r_ex 1 (pc' := 56) (lo' := [some (.inr (.inr (some 2))), some (.inr (.inr (some 100011))), some (.inl 0)]) (st' := [.inl 0]) rfl ?_
        refine r_ret (rr := some (.inl 0)) (I := .ireturn) (pc0 := 56) (len := 1) rfl rfl ?_
        exact hQ (by first | assumption | omega | (unfold R32 at *; omega) | (unfold R64 at *; omega) | (simp only [R32, R64] at *; omega))
    · show WV _ _ _ 24 _ _ _ _ _
      rw [if_neg h_21] at hQ
      refine r_ex 1 (pc' := 25) (lo' := [some (.inr (.inr (some 2))), some (.inr (.inr (some 100011))), none]) (st' := [.inl 0]) rfl ?_
      refine r_ret (rr := some (.inl 0)) (I := .ireturn) (pc0 := 25) (len := 1) rfl rfl ?_
      exact hQ (by first | assumption | omega | (unfold R32 at *; omega) | (unfold R64 at *; omega) | (simp only [R32, R64] at *; omega))

theorem e_cl_isAt5 {X : PX} {d : Nat} {v : VS}  (hX : XI v) (hp_a : (v 2 7) ≤ (v 2 4)) : EvV X (d + 1 + 1 + 1 + 1) 27 [.inr (.inr (some 2)), .inr (.inr (some 100011))] 1 v (some (.inl (cl_isAt5 v))) 1 v := EvV.of (w_cl_isAt5 hX hp_a (fun _ => ⟨rfl, rfl, rfl⟩))

theorem n_cl_isAt5 {v : VS}  (hX : XI v) (hp_a : (v 2 7) ≤ (v 2 4)) : 0 ≤ (cl_isAt5 v) ∧ (cl_isAt5 v) ≤ 1 := by
  have q : WV (0, fun _ => 0, none) (0 + 1 + 1 + 1 + 1) 27 0 [some (.inr (.inr (some 2))), some (.inr (.inr (some 100011))), none] [] 1 v (fun _ _ _ => 0 ≤ (cl_isAt5 v) ∧ (cl_isAt5 v) ≤ 1) := w_cl_isAt5 (X := (0, fun _ => 0, none)) (d := 0) hX hp_a (fun q => q)
  obtain ⟨_, _, _, _, _, _, _, q⟩ := q
  exact q

def cl_word5 (v : VS)  : VS :=
  (if (v 2 1) = 0 then (if (cl_isAt5 v) = 0 then (cl_fail v 1) else (cl_advance v)) else (cl_fail v 1))
theorem w_cl_word5 {X : PX} {d : Nat} {v : VS}  (hX : XI v) (hp_a : (v 2 7) ≤ (v 2 4)) {Q : Option PV → Nat → VS → Prop} (hQ : XI (cl_word5 v) → (((cl_word5 v) 2 7) ≤ ((cl_word5 v) 2 4)) → Q none 1 (cl_word5 v)) : WV X (d + 1 + 1 + 1 + 1 + 1) 26 0 [some (.inr (.inr (some 2))), some (.inr (.inr (some 100011)))] [] 1 v Q := by
  rw [cl_word5] at hQ
  refine r_ex 2 (pc' := 4) (lo' := [some (.inr (.inr (some 2))), some (.inr (.inr (some 100011)))]) (st' := [.inl (v 2 1)]) rfl ?_
  have hb_1 : 0 ≤ (v 2 1) ∧ (v 2 1) ≤ 3 := hX 2 1
  refine n_if_ne (pc0 := 4) (len := 3) (t := 22) rfl (by first | assumption | omega | (unfold R32 at *; omega) | (unfold R64 at *; omega) | (simp only [R32, R64] at *; omega)) (fun h_4 => ?_) (fun h_4 => ?_)
  · show WV _ _ _ 22 _ _ _ _ _
    rw [if_neg h_4] at hQ
    refine r_ex 2 (pc' := 24) (lo' := [some (.inr (.inr (some 2))), some (.inr (.inr (some 100011)))]) (st' := [.inl 1, .inr (.inr (some 2))]) rfl ?_
    have hp_2 : 1 ≤ (1 : Int) ∧ (1 : Int) ≤ 3 := (by first | assumption | omega | (unfold R32 at *; omega) | (unfold R64 at *; omega) | (simp only [R32, R64] at *; omega))
    have hp_3 : (v 2 7) ≤ (v 2 4) := (show (v 2 7) ≤ (v 2 4) from (by first | assumption | omega | (unfold R32 at *; omega) | (unfold R64 at *; omega) | (simp only [R32, R64] at *; omega)))
    refine r_call (m := 39) (args := [.inr (.inr (some 2)), .inl 1]) (n' := 26) (pc' := 27) (lo' := [some (.inr (.inr (some 2))), some (.inr (.inr (some 100011)))]) (st' := []) (I := .invokevirtual 39) (pc0 := 24) (len := 3) rfl rfl rfl (e_cl_fail hX hp_2 hp_3) ?_
    show WV _ _ _ 27 _ [] _ (cl_fail v 1) _
    have hX_4 : XI (cl_fail v 1) := i_cl_fail (v := v) (k := 1) hX hp_2 hp_3
    have hb_5 : ((cl_fail v 1) 2 7) ≤ ((cl_fail v 1) 2 4) := n_cl_fail (v := v) (k := 1) hX hp_2 hp_3
    refine r_ret (rr := none) (I := .return_) (pc0 := 27) (len := 1) rfl rfl ?_
    exact hQ hX_4 (show ((cl_fail v 1) 2 7) ≤ ((cl_fail v 1) 2 4) from (by first | assumption | omega | (unfold R32 at *; omega) | (unfold R64 at *; omega) | (simp only [R32, R64] at *; omega)))
  · show WV _ _ _ 7 _ _ _ _ _
    rw [if_pos h_4] at hQ
    refine r_ex 2 (pc' := 9) (lo' := [some (.inr (.inr (some 2))), some (.inr (.inr (some 100011)))]) (st' := [.inr (.inr (some 100011)), .inr (.inr (some 2))]) rfl ?_
    have hp_6 : (v 2 7) ≤ (v 2 4) := (show (v 2 7) ≤ (v 2 4) from (by first | assumption | omega | (unfold R32 at *; omega) | (unfold R64 at *; omega) | (simp only [R32, R64] at *; omega)))
    refine r_call (m := 27) (args := [.inr (.inr (some 2)), .inr (.inr (some 100011))]) (n' := 26) (pc' := 12) (lo' := [some (.inr (.inr (some 2))), some (.inr (.inr (some 100011)))]) (st' := []) (I := .invokevirtual 27) (pc0 := 9) (len := 3) rfl rfl rfl (e_cl_isAt5 hX hp_6) ?_
    show WV _ _ _ 12 _ [.inl (cl_isAt5 v)] _ _ _
    have hb_7 := n_cl_isAt5 (v := v) hX hp_6
    refine n_if_eq (pc0 := 12) (len := 3) (t := 22) rfl (by first | assumption | omega | (unfold R32 at *; omega) | (unfold R64 at *; omega) | (simp only [R32, R64] at *; omega)) (fun h_12 => ?_) (fun h_12 => ?_)
    · show WV _ _ _ 22 _ _ _ _ _
      rw [if_pos h_12] at hQ
      refine r_ex 2 (pc' := 24) (lo' := [some (.inr (.inr (some 2))), some (.inr (.inr (some 100011)))]) (st' := [.inl 1, .inr (.inr (some 2))]) rfl ?_
      have hp_8 : 1 ≤ (1 : Int) ∧ (1 : Int) ≤ 3 := (by first | assumption | omega | (unfold R32 at *; omega) | (unfold R64 at *; omega) | (simp only [R32, R64] at *; omega))
      have hp_9 : (v 2 7) ≤ (v 2 4) := (show (v 2 7) ≤ (v 2 4) from (by first | assumption | omega | (unfold R32 at *; omega) | (unfold R64 at *; omega) | (simp only [R32, R64] at *; omega)))
      refine r_call (m := 39) (args := [.inr (.inr (some 2)), .inl 1]) (n' := 26) (pc' := 27) (lo' := [some (.inr (.inr (some 2))), some (.inr (.inr (some 100011)))]) (st' := []) (I := .invokevirtual 39) (pc0 := 24) (len := 3) rfl rfl rfl (e_cl_fail hX hp_8 hp_9) ?_
      show WV _ _ _ 27 _ [] _ (cl_fail v 1) _
      have hX_10 : XI (cl_fail v 1) := i_cl_fail (v := v) (k := 1) hX hp_8 hp_9
      have hb_11 : ((cl_fail v 1) 2 7) ≤ ((cl_fail v 1) 2 4) := n_cl_fail (v := v) (k := 1) hX hp_8 hp_9
      refine r_ret (rr := none) (I := .return_) (pc0 := 27) (len := 1) rfl rfl ?_
      exact hQ hX_10 (show ((cl_fail v 1) 2 7) ≤ ((cl_fail v 1) 2 4) from (by first | assumption | omega | (unfold R32 at *; omega) | (unfold R64 at *; omega) | (simp only [R32, R64] at *; omega)))
    · show WV _ _ _ 15 _ _ _ _ _
      rw [if_neg h_12] at hQ
      refine r_ex 1 (pc' := 16) (lo' := [some (.inr (.inr (some 2))), some (.inr (.inr (some 100011)))]) (st' := [.inr (.inr (some 2))]) rfl ?_
      have hp_12 : (v 2 7) ≤ (v 2 4) := (show (v 2 7) ≤ (v 2 4) from (by first | assumption | omega | (unfold R32 at *; omega) | (unfold R64 at *; omega) | (simp only [R32, R64] at *; omega)))
      refine r_call (m := 21) (args := [.inr (.inr (some 2))]) (n' := 26) (pc' := 19) (lo' := [some (.inr (.inr (some 2))), some (.inr (.inr (some 100011)))]) (st' := []) (I := .invokevirtual 21) (pc0 := 16) (len := 3) rfl rfl rfl (e_cl_advance hX hp_12) ?_
      show WV _ _ _ 19 _ [] _ (cl_advance v) _
      have hX_13 : XI (cl_advance v) := i_cl_advance (v := v) hX hp_12
      have hb_14 : ((cl_advance v) 2 7) ≤ ((cl_advance v) 2 4) := n_cl_advance (v := v) hX hp_12
      refine r_ex 1 (pc' := 27) (lo' := [some (.inr (.inr (some 2))), some (.inr (.inr (some 100011)))]) (st' := []) rfl ?_
      refine r_ret (rr := none) (I := .return_) (pc0 := 27) (len := 1) rfl rfl ?_
      exact hQ hX_13 (show ((cl_advance v) 2 7) ≤ ((cl_advance v) 2 4) from (by first | assumption | omega | (unfold R32 at *; omega) | (unfold R64 at *; omega) | (simp only [R32, R64] at *; omega)))

theorem e_cl_word5 {X : PX} {d : Nat} {v : VS}  (hX : XI v) (hp_a : (v 2 7) ≤ (v 2 4)) : EvV X (d + 1 + 1 + 1 + 1 + 1) 26 [.inr (.inr (some 2)), .inr (.inr (some 100011))] 1 v none 1 (cl_word5 v) := EvV.of (w_cl_word5 hX hp_a (fun _ _ => ⟨rfl, rfl, rfl⟩))

theorem i_cl_word5 {v : VS}  (hX : XI v) (hp_a : (v 2 7) ≤ (v 2 4)) : XI (cl_word5 v) := by
  have q : WV (0, fun _ => 0, none) (0 + 1 + 1 + 1 + 1 + 1) 26 0 [some (.inr (.inr (some 2))), some (.inr (.inr (some 100011)))] [] 1 v (fun _ _ _ => XI (cl_word5 v)) := w_cl_word5 (X := (0, fun _ => 0, none)) (d := 0) hX hp_a (fun q _ => q)
  obtain ⟨_, _, _, _, _, _, _, q⟩ := q
  exact q

theorem n_cl_word5 {v : VS}  (hX : XI v) (hp_a : (v 2 7) ≤ (v 2 4)) : ((cl_word5 v) 2 7) ≤ ((cl_word5 v) 2 4) := by
  have q : WV (0, fun _ => 0, none) (0 + 1 + 1 + 1 + 1 + 1) 26 0 [some (.inr (.inr (some 2))), some (.inr (.inr (some 100011)))] [] 1 v (fun _ _ _ => ((cl_word5 v) 2 7) ≤ ((cl_word5 v) 2 4)) := w_cl_word5 (X := (0, fun _ => 0, none)) (d := 0) hX hp_a (fun _ q => q)
  obtain ⟨_, _, _, _, _, _, _, q⟩ := q
  exact q

theorem o_cl_word5 {rk : Nat} {v : VS}  (hk : (rk < 2 ∨ 2 < rk)) : (cl_word5 v ) rk = v rk := by
  unfold cl_word5
  by_cases hc_ : (v 2 1) = 0
  · rw [if_pos hc_]
    by_cases hc_ : (cl_isAt5 v) = 0
    · rw [if_pos hc_]
      all_goals (show (cl_fail v 1) rk = _)
      all_goals (rw [o_cl_fail (by omega)])
    · rw [if_neg hc_]
      all_goals (show (cl_advance v) rk = _)
      all_goals (rw [o_cl_advance (by omega)])
  · rw [if_neg hc_]
    all_goals (show (cl_fail v 1) rk = _)
    all_goals (rw [o_cl_fail (by omega)])

def cl_isAt6 (v : VS)  : Int :=
  (if (v 2 5) = 1 then (if 5 = ((v 2 7) - (v 2 6)) then (if (v 1 ((((v 2 6) + 0)).toNat)) = 101 then (if (v 1 ((((v 2 6) + 1)).toNat)) = 97 then (if (v 1 ((((v 2 6) + 2)).toNat)) = 103 then (if (v 1 ((((v 2 6) + 3)).toNat)) = 101 then (if (v 1 ((((v 2 6) + 4)).toNat)) = 114 then 1 else 0) else 0) else 0) else 0) else 0) else 0) else 0)
theorem w_cl_isAt6 {X : PX} {d : Nat} {v : VS}  (hX : XI v) (hp_a : (v 2 7) ≤ (v 2 4)) {Q : Option PV → Nat → VS → Prop} (hQ : (0 ≤ (cl_isAt6 v) ∧ (cl_isAt6 v) ≤ 1) → Q (some (.inl (cl_isAt6 v))) 1 v) : WV X (d + 1 + 1 + 1 + 1) 27 0 [some (.inr (.inr (some 2))), some (.inr (.inr (some 100013))), none] [] 1 v Q := by
  rw [cl_isAt6] at hQ
  have hz6 : 0 ≤ v 2 6 ∧ v 2 6 ≤ 2000 := hX 2 6
  have hz7 : 0 ≤ v 2 7 ∧ v 2 7 ≤ 2001 := hX 2 7
  have hz4 : 0 ≤ v 2 4 ∧ v 2 4 ≤ 2000 := hX 2 4
  refine r_ex 3 (pc' := 5) (lo' := [some (.inr (.inr (some 2))), some (.inr (.inr (some 100013))), none]) (st' := [.inl 1, .inl (v 2 5)]) rfl ?_
  have hb_1 : 0 ≤ (v 2 5) ∧ (v 2 5) ≤ 4 := hX 2 5
  refine n_ic_ne (pc0 := 5) (len := 3) (t := 24) rfl (by first | assumption | omega | (unfold R32 at *; omega) | (unfold R64 at *; omega) | (simp only [R32, R64] at *; omega)) (by first | assumption | omega | (unfold R32 at *; omega) | (unfold R64 at *; omega) | (simp only [R32, R64] at *; omega)) (fun h_5 => ?_) (fun h_5 => ?_)
  · show WV _ _ _ 24 _ _ _ _ _
    rw [if_neg h_5] at hQ
    refine r_ex 1 (pc' := 25) (lo' := [some (.inr (.inr (some 2))), some (.inr (.inr (some 100013))), none]) (st' := [.inl 0]) rfl ?_
    refine r_ret (rr := some (.inl 0)) (I := .ireturn) (pc0 := 25) (len := 1) rfl rfl ?_
    exact hQ (by first | assumption | omega | (unfold R32 at *; omega) | (unfold R64 at *; omega) | (simp only [R32, R64] at *; omega))
  · show WV _ _ _ 8 _ _ _ _ _
    rw [if_pos h_5] at hQ
    refine r_ex 1 (pc' := 9) (lo' := [some (.inr (.inr (some 2))), some (.inr (.inr (some 100013))), none]) (st' := [.inr (.inr (some 100013))]) rfl ?_
    refine r_call (rr := some (.inl 5)) (b' := 1) (v' := v) (m := 28) (args := [.inr (.inr (some 100013))]) (n' := 27) (pc' := 12) (lo' := [some (.inr (.inr (some 2))), some (.inr (.inr (some 100013))), none]) (st' := []) (I := .invokevirtual 28) (pc0 := 9) (len := 3) rfl rfl rfl ⟨60, rfl⟩ ?_
    show WV _ _ _ 12 _ [.inl 5] _ _ _
    refine r_ex 5 (pc' := 21) (lo' := [some (.inr (.inr (some 2))), some (.inr (.inr (some 100013))), none]) (st' := [.inl ((v 2 7) - (v 2 6)), .inl 5]) rfl ?_
    have hb_2 : 0 ≤ (v 2 7) ∧ (v 2 7) ≤ 2001 := hX 2 7
    have hb_3 : 0 ≤ (v 2 6) ∧ (v 2 6) ≤ 2000 := hX 2 6
    refine n_ic_eq (pc0 := 21) (len := 3) (t := 26) rfl (by first | assumption | omega | (unfold R32 at *; omega) | (unfold R64 at *; omega) | (simp only [R32, R64] at *; omega)) (by first | assumption | omega | (unfold R32 at *; omega) | (unfold R64 at *; omega) | (simp only [R32, R64] at *; omega)) (fun h_21 => ?_) (fun h_21 => ?_)
    · show WV _ _ _ 26 _ _ _ _ _
      rw [if_pos h_21] at hQ
      refine r_ex 4 (pc' := 30) (lo' := [some (.inr (.inr (some 2))), some (.inr (.inr (some 100013))), some (.inl 0)]) (st' := [.inr (.inr (some 100013)), .inl 0]) rfl ?_
      refine r_call (rr := some (.inl 5)) (b' := 1) (v' := v) (m := 28) (args := [.inr (.inr (some 100013))]) (n' := 27) (pc' := 33) (lo' := [some (.inr (.inr (some 2))), some (.inr (.inr (some 100013))), some (.inl 0)]) (st' := [.inl 0]) (I := .invokevirtual 28) (pc0 := 30) (len := 3) rfl rfl rfl ⟨60, rfl⟩ ?_
      show WV _ _ _ 33 _ [.inl 5, .inl 0] _ _ _
      refine r_ex 7 (pc' := 46) (lo' := [some (.inr (.inr (some 2))), some (.inr (.inr (some 100013))), some (.inl 0)]) (st' := [.inl ((v 2 6) + 0), .inr (.inr (some 1))]) rfl ?_
      refine r_bald2 (x := (v 1 ((((v 2 6) + 0)).toNat))) (pc' := 47) (pc0 := 46) (len := 1) rfl (s_1 _) (Or.inl rfl) (by first | assumption | omega | (unfold R32 at *; omega) | (unfold R64 at *; omega) | (simp only [R32, R64] at *; omega)) (by decide) rfl rfl ?_
      have hb_4 : -128 ≤ (v 1 ((((v 2 6) + 0)).toNat)) ∧ (v 1 ((((v 2 6) + 0)).toNat)) ≤ 127 := hX 1 ((((v 2 6) + 0)).toNat)
      refine r_ex 2 (pc' := 49) (lo' := [some (.inr (.inr (some 2))), some (.inr (.inr (some 100013))), some (.inl 0)]) (st' := [.inl 0, .inr (.inr (some 100013)), .inl (v 1 ((((v 2 6) + 0)).toNat))]) rfl ?_
      refine r_call (rr := some (.inl 101)) (b' := 1) (v' := v) (m := 30) (args := [.inr (.inr (some 100013)), .inl 0]) (n' := 27) (pc' := 52) (lo' := [some (.inr (.inr (some 2))), some (.inr (.inr (some 100013))), some (.inl 0)]) (st' := [.inl (v 1 ((((v 2 6) + 0)).toNat))]) (I := .invokevirtual 30) (pc0 := 49) (len := 3) rfl rfl rfl ⟨60, rfl⟩ ?_
      show WV _ _ _ 52 _ [.inl 101, .inl (v 1 ((((v 2 6) + 0)).toNat))] _ _ _
      refine n_ic_eq (pc0 := 52) (len := 3) (t := 57) rfl (by first | assumption | omega | (unfold R32 at *; omega) | (unfold R64 at *; omega) | (simp only [R32, R64] at *; omega)) (by first | assumption | omega | (unfold R32 at *; omega) | (unfold R64 at *; omega) | (simp only [R32, R64] at *; omega)) (fun h_52 => ?_) (fun h_52 => ?_)
      · show WV _ _ _ 57 _ _ _ _ _
        rw [if_pos h_52] at hQ
        refine r_ex 4 (pc' := 30) (lo' := [some (.inr (.inr (some 2))), some (.inr (.inr (some 100013))), some (.inl 1)]) (st' := [.inr (.inr (some 100013)), .inl 1]) rfl ?_
        refine r_call (rr := some (.inl 5)) (b' := 1) (v' := v) (m := 28) (args := [.inr (.inr (some 100013))]) (n' := 27) (pc' := 33) (lo' := [some (.inr (.inr (some 2))), some (.inr (.inr (some 100013))), some (.inl 1)]) (st' := [.inl 1]) (I := .invokevirtual 28) (pc0 := 30) (len := 3) rfl rfl rfl ⟨60, rfl⟩ ?_
        show WV _ _ _ 33 _ [.inl 5, .inl 1] _ _ _
        refine r_ex 7 (pc' := 46) (lo' := [some (.inr (.inr (some 2))), some (.inr (.inr (some 100013))), some (.inl 1)]) (st' := [.inl ((v 2 6) + 1), .inr (.inr (some 1))]) rfl ?_
        refine r_bald2 (x := (v 1 ((((v 2 6) + 1)).toNat))) (pc' := 47) (pc0 := 46) (len := 1) rfl (s_1 _) (Or.inl rfl) (by first | assumption | omega | (unfold R32 at *; omega) | (unfold R64 at *; omega) | (simp only [R32, R64] at *; omega)) (by decide) rfl rfl ?_
        have hb_5 : -128 ≤ (v 1 ((((v 2 6) + 1)).toNat)) ∧ (v 1 ((((v 2 6) + 1)).toNat)) ≤ 127 := hX 1 ((((v 2 6) + 1)).toNat)
        refine r_ex 2 (pc' := 49) (lo' := [some (.inr (.inr (some 2))), some (.inr (.inr (some 100013))), some (.inl 1)]) (st' := [.inl 1, .inr (.inr (some 100013)), .inl (v 1 ((((v 2 6) + 1)).toNat))]) rfl ?_
        refine r_call (rr := some (.inl 97)) (b' := 1) (v' := v) (m := 30) (args := [.inr (.inr (some 100013)), .inl 1]) (n' := 27) (pc' := 52) (lo' := [some (.inr (.inr (some 2))), some (.inr (.inr (some 100013))), some (.inl 1)]) (st' := [.inl (v 1 ((((v 2 6) + 1)).toNat))]) (I := .invokevirtual 30) (pc0 := 49) (len := 3) rfl rfl rfl ⟨60, rfl⟩ ?_
        show WV _ _ _ 52 _ [.inl 97, .inl (v 1 ((((v 2 6) + 1)).toNat))] _ _ _
        refine n_ic_eq (pc0 := 52) (len := 3) (t := 57) rfl (by first | assumption | omega | (unfold R32 at *; omega) | (unfold R64 at *; omega) | (simp only [R32, R64] at *; omega)) (by first | assumption | omega | (unfold R32 at *; omega) | (unfold R64 at *; omega) | (simp only [R32, R64] at *; omega)) (fun h_52 => ?_) (fun h_52 => ?_)
        · show WV _ _ _ 57 _ _ _ _ _
          rw [if_pos h_52] at hQ
          refine r_ex 4 (pc' := 30) (lo' := [some (.inr (.inr (some 2))), some (.inr (.inr (some 100013))), some (.inl 2)]) (st' := [.inr (.inr (some 100013)), .inl 2]) rfl ?_
          refine r_call (rr := some (.inl 5)) (b' := 1) (v' := v) (m := 28) (args := [.inr (.inr (some 100013))]) (n' := 27) (pc' := 33) (lo' := [some (.inr (.inr (some 2))), some (.inr (.inr (some 100013))), some (.inl 2)]) (st' := [.inl 2]) (I := .invokevirtual 28) (pc0 := 30) (len := 3) rfl rfl rfl ⟨60, rfl⟩ ?_
          show WV _ _ _ 33 _ [.inl 5, .inl 2] _ _ _
          refine r_ex 7 (pc' := 46) (lo' := [some (.inr (.inr (some 2))), some (.inr (.inr (some 100013))), some (.inl 2)]) (st' := [.inl ((v 2 6) + 2), .inr (.inr (some 1))]) rfl ?_
          refine r_bald2 (x := (v 1 ((((v 2 6) + 2)).toNat))) (pc' := 47) (pc0 := 46) (len := 1) rfl (s_1 _) (Or.inl rfl) (by first | assumption | omega | (unfold R32 at *; omega) | (unfold R64 at *; omega) | (simp only [R32, R64] at *; omega)) (by decide) rfl rfl ?_
          have hb_6 : -128 ≤ (v 1 ((((v 2 6) + 2)).toNat)) ∧ (v 1 ((((v 2 6) + 2)).toNat)) ≤ 127 := hX 1 ((((v 2 6) + 2)).toNat)
          refine r_ex 2 (pc' := 49) (lo' := [some (.inr (.inr (some 2))), some (.inr (.inr (some 100013))), some (.inl 2)]) (st' := [.inl 2, .inr (.inr (some 100013)), .inl (v 1 ((((v 2 6) + 2)).toNat))]) rfl ?_
          refine r_call (rr := some (.inl 103)) (b' := 1) (v' := v) (m := 30) (args := [.inr (.inr (some 100013)), .inl 2]) (n' := 27) (pc' := 52) (lo' := [some (.inr (.inr (some 2))), some (.inr (.inr (some 100013))), some (.inl 2)]) (st' := [.inl (v 1 ((((v 2 6) + 2)).toNat))]) (I := .invokevirtual 30) (pc0 := 49) (len := 3) rfl rfl rfl ⟨60, rfl⟩ ?_
          show WV _ _ _ 52 _ [.inl 103, .inl (v 1 ((((v 2 6) + 2)).toNat))] _ _ _
          refine n_ic_eq (pc0 := 52) (len := 3) (t := 57) rfl (by first | assumption | omega | (unfold R32 at *; omega) | (unfold R64 at *; omega) | (simp only [R32, R64] at *; omega)) (by first | assumption | omega | (unfold R32 at *; omega) | (unfold R64 at *; omega) | (simp only [R32, R64] at *; omega)) (fun h_52 => ?_) (fun h_52 => ?_)
          · show WV _ _ _ 57 _ _ _ _ _
            rw [if_pos h_52] at hQ
            refine r_ex 4 (pc' := 30) (lo' := [some (.inr (.inr (some 2))), some (.inr (.inr (some 100013))), some (.inl 3)]) (st' := [.inr (.inr (some 100013)), .inl 3]) rfl ?_
            refine r_call (rr := some (.inl 5)) (b' := 1) (v' := v) (m := 28) (args := [.inr (.inr (some 100013))]) (n' := 27) (pc' := 33) (lo' := [some (.inr (.inr (some 2))), some (.inr (.inr (some 100013))), some (.inl 3)]) (st' := [.inl 3]) (I := .invokevirtual 28) (pc0 := 30) (len := 3) rfl rfl rfl ⟨60, rfl⟩ ?_
            show WV _ _ _ 33 _ [.inl 5, .inl 3] _ _ _
            refine r_ex 7 (pc' := 46) (lo' := [some (.inr (.inr (some 2))), some (.inr (.inr (some 100013))), some (.inl 3)]) (st' := [.inl ((v 2 6) + 3), .inr (.inr (some 1))]) rfl ?_
            refine r_bald2 (x := (v 1 ((((v 2 6) + 3)).toNat))) (pc' := 47) (pc0 := 46) (len := 1) rfl (s_1 _) (Or.inl rfl) (by first | assumption | omega | (unfold R32 at *; omega) | (unfold R64 at *; omega) | (simp only [R32, R64] at *; omega)) (by decide) rfl rfl ?_
            have hb_7 : -128 ≤ (v 1 ((((v 2 6) + 3)).toNat)) ∧ (v 1 ((((v 2 6) + 3)).toNat)) ≤ 127 := hX 1 ((((v 2 6) + 3)).toNat)
            refine r_ex 2 (pc' := 49) (lo' := [some (.inr (.inr (some 2))), some (.inr (.inr (some 100013))), some (.inl 3)]) (st' := [.inl 3, .inr (.inr (some 100013)), .inl (v 1 ((((v 2 6) + 3)).toNat))]) rfl ?_
            refine r_call (rr := some (.inl 101)) (b' := 1) (v' := v) (m := 30) (args := [.inr (.inr (some 100013)), .inl 3]) (n' := 27) (pc' := 52) (lo' := [some (.inr (.inr (some 2))), some (.inr (.inr (some 100013))), some (.inl 3)]) (st' := [.inl (v 1 ((((v 2 6) + 3)).toNat))]) (I := .invokevirtual 30) (pc0 := 49) (len := 3) rfl rfl rfl ⟨60, rfl⟩ ?_
            show WV _ _ _ 52 _ [.inl 101, .inl (v 1 ((((v 2 6) + 3)).toNat))] _ _ _
            refine n_ic_eq (pc0 := 52) (len := 3) (t := 57) rfl (by first | assumption | omega | (unfold R32 at *; omega) | (unfold R64 at *; omega) | (simp only [R32, R64] at *; omega)) (by first | assumption | omega | (unfold R32 at *; omega) | (unfold R64 at *; omega) | (simp only [R32, R64] at *; omega)) (fun h_52 => ?_) (fun h_52 => ?_)
            · show WV _ _ _ 57 _ _ _ _ _
              rw [if_pos h_52] at hQ
              refine r_ex 4 (pc' := 30) (lo' := [some (.inr (.inr (some 2))), some (.inr (.inr (some 100013))), some (.inl 4)]) (st' := [.inr (.inr (some 100013)), .inl 4]) rfl ?_
              refine r_call (rr := some (.inl 5)) (b' := 1) (v' := v) (m := 28) (args := [.inr (.inr (some 100013))]) (n' := 27) (pc' := 33) (lo' := [some (.inr (.inr (some 2))), some (.inr (.inr (some 100013))), some (.inl 4)]) (st' := [.inl 4]) (I := .invokevirtual 28) (pc0 := 30) (len := 3) rfl rfl rfl ⟨60, rfl⟩ ?_
              show WV _ _ _ 33 _ [.inl 5, .inl 4] _ _ _
              refine r_ex 7 (pc' := 46) (lo' := [some (.inr (.inr (some 2))), some (.inr (.inr (some 100013))), some (.inl 4)]) (st' := [.inl ((v 2 6) + 4), .inr (.inr (some 1))]) rfl ?_
              refine r_bald2 (x := (v 1 ((((v 2 6) + 4)).toNat))) (pc' := 47) (pc0 := 46) (len := 1) rfl (s_1 _) (Or.inl rfl) (by first | assumption | omega | (unfold R32 at *; omega) | (unfold R64 at *; omega) | (simp only [R32, R64] at *; omega)) (by decide) rfl rfl ?_
              have hb_8 : -128 ≤ (v 1 ((((v 2 6) + 4)).toNat)) ∧ (v 1 ((((v 2 6) + 4)).toNat)) ≤ 127 := hX 1 ((((v 2 6) + 4)).toNat)
              refine r_ex 2 (pc' := 49) (lo' := [some (.inr (.inr (some 2))), some (.inr (.inr (some 100013))), some (.inl 4)]) (st' := [.inl 4, .inr (.inr (some 100013)), .inl (v 1 ((((v 2 6) + 4)).toNat))]) rfl ?_
              refine r_call (rr := some (.inl 114)) (b' := 1) (v' := v) (m := 30) (args := [.inr (.inr (some 100013)), .inl 4]) (n' := 27) (pc' := 52) (lo' := [some (.inr (.inr (some 2))), some (.inr (.inr (some 100013))), some (.inl 4)]) (st' := [.inl (v 1 ((((v 2 6) + 4)).toNat))]) (I := .invokevirtual 30) (pc0 := 49) (len := 3) rfl rfl rfl ⟨60, rfl⟩ ?_
              show WV _ _ _ 52 _ [.inl 114, .inl (v 1 ((((v 2 6) + 4)).toNat))] _ _ _
              refine n_ic_eq (pc0 := 52) (len := 3) (t := 57) rfl (by first | assumption | omega | (unfold R32 at *; omega) | (unfold R64 at *; omega) | (simp only [R32, R64] at *; omega)) (by first | assumption | omega | (unfold R32 at *; omega) | (unfold R64 at *; omega) | (simp only [R32, R64] at *; omega)) (fun h_52 => ?_) (fun h_52 => ?_)
              · show WV _ _ _ 57 _ _ _ _ _
                rw [if_pos h_52] at hQ
                refine r_ex 4 (pc' := 30) (lo' := [some (.inr (.inr (some 2))), some (.inr (.inr (some 100013))), some (.inl 5)]) (st' := [.inr (.inr (some 100013)), .inl 5]) rfl ?_
                refine r_call (rr := some (.inl 5)) (b' := 1) (v' := v) (m := 28) (args := [.inr (.inr (some 100013))]) (n' := 27) (pc' := 33) (lo' := [some (.inr (.inr (some 2))), some (.inr (.inr (some 100013))), some (.inl 5)]) (st' := [.inl 5]) (I := .invokevirtual 28) (pc0 := 30) (len := 3) rfl rfl rfl ⟨60, rfl⟩ ?_
                show WV _ _ _ 33 _ [.inl 5, .inl 5] _ _ _
                refine r_ex 2 (pc' := 64) (lo' := [some (.inr (.inr (some 2))), some (.inr (.inr (some 100013))), some (.inl 5)]) (st' := [.inl 1]) rfl ?_
                refine r_ret (rr := some (.inl 1)) (I := .ireturn) (pc0 := 64) (len := 1) rfl rfl ?_
                exact hQ (by first | assumption | omega | (unfold R32 at *; omega) | (unfold R64 at *; omega) | (simp only [R32, R64] at *; omega))
              · show WV _ _ _ 55 _ _ _ _ _
                rw [if_neg h_52] at hQ
                refine r_ex 1 (pc' := 56) (lo' := [some (.inr (.inr (some 2))), some (.inr (.inr (some 100013))), some (.inl 4)]) (st' := [.inl 0]) rfl ?_
                refine r_ret (rr := some (.inl 0)) (I := .ireturn) (pc0 := 56) (len := 1) rfl rfl ?_
                exact hQ (by first | assumption | omega | (unfold R32 at *; omega) | (unfold R64 at *; omega) | (simp only [R32, R64] at *; omega))
            · show WV _ _ _ 55 _ _ _ _ _
              rw [if_neg h_52] at hQ
              refine r_ex 1 (pc' := 56) (lo' := [some (.inr (.inr (some 2))), some (.inr (.inr (some 100013))), some (.inl 3)]) (st' := [.inl 0]) rfl ?_
              refine r_ret (rr := some (.inl 0)) (I := .ireturn) (pc0 := 56) (len := 1) rfl rfl ?_
              exact hQ (by first | assumption | omega | (unfold R32 at *; omega) | (unfold R64 at *; omega) | (simp only [R32, R64] at *; omega))
          · show WV _ _ _ 55 _ _ _ _ _
            rw [if_neg h_52] at hQ
            refine r_ex 1 (pc' := 56) (lo' := [some (.inr (.inr (some 2))), some (.inr (.inr (some 100013))), some (.inl 2)]) (st' := [.inl 0]) rfl ?_
            refine r_ret (rr := some (.inl 0)) (I := .ireturn) (pc0 := 56) (len := 1) rfl rfl ?_
            exact hQ (by first | assumption | omega | (unfold R32 at *; omega) | (unfold R64 at *; omega) | (simp only [R32, R64] at *; omega))
        · show WV _ _ _ 55 _ _ _ _ _
          rw [if_neg h_52] at hQ
          refine r_ex 1 (pc' := 56) (lo' := [some (.inr (.inr (some 2))), some (.inr (.inr (some 100013))), some (.inl 1)]) (st' := [.inl 0]) rfl ?_
          refine r_ret (rr := some (.inl 0)) (I := .ireturn) (pc0 := 56) (len := 1) rfl rfl ?_
          exact hQ (by first | assumption | omega | (unfold R32 at *; omega) | (unfold R64 at *; omega) | (simp only [R32, R64] at *; omega))
      · show WV _ _ _ 55 _ _ _ _ _
        rw [if_neg h_52] at hQ
        refine r_ex 1 (pc' := 56) (lo' := [some (.inr (.inr (some 2))), some (.inr (.inr (some 100013))), some (.inl 0)]) (st' := [.inl 0]) rfl ?_
        refine r_ret (rr := some (.inl 0)) (I := .ireturn) (pc0 := 56) (len := 1) rfl rfl ?_
        exact hQ (by first | assumption | omega | (unfold R32 at *; omega) | (unfold R64 at *; omega) | (simp only [R32, R64] at *; omega))
    · show WV _ _ _ 24 _ _ _ _ _
      rw [if_neg h_21] at hQ
      refine r_ex 1 (pc' := 25) (lo' := [some (.inr (.inr (some 2))), some (.inr (.inr (some 100013))), none]) (st' := [.inl 0]) rfl ?_
      refine r_ret (rr := some (.inl 0)) (I := .ireturn) (pc0 := 25) (len := 1) rfl rfl ?_
      exact hQ (by first | assumption | omega | (unfold R32 at *; omega) | (unfold R64 at *; omega) | (simp only [R32, R64] at *; omega))

theorem e_cl_isAt6 {X : PX} {d : Nat} {v : VS}  (hX : XI v) (hp_a : (v 2 7) ≤ (v 2 4)) : EvV X (d + 1 + 1 + 1 + 1) 27 [.inr (.inr (some 2)), .inr (.inr (some 100013))] 1 v (some (.inl (cl_isAt6 v))) 1 v := EvV.of (w_cl_isAt6 hX hp_a (fun _ => ⟨rfl, rfl, rfl⟩))

theorem n_cl_isAt6 {v : VS}  (hX : XI v) (hp_a : (v 2 7) ≤ (v 2 4)) : 0 ≤ (cl_isAt6 v) ∧ (cl_isAt6 v) ≤ 1 := by
  have q : WV (0, fun _ => 0, none) (0 + 1 + 1 + 1 + 1) 27 0 [some (.inr (.inr (some 2))), some (.inr (.inr (some 100013))), none] [] 1 v (fun _ _ _ => 0 ≤ (cl_isAt6 v) ∧ (cl_isAt6 v) ≤ 1) := w_cl_isAt6 (X := (0, fun _ => 0, none)) (d := 0) hX hp_a (fun q => q)
  obtain ⟨_, _, _, _, _, _, _, q⟩ := q
  exact q

def cl_word6 (v : VS)  : VS :=
  (if (v 2 1) = 0 then (if (cl_isAt6 v) = 0 then (cl_fail v 1) else (cl_advance v)) else (cl_fail v 1))
theorem w_cl_word6 {X : PX} {d : Nat} {v : VS}  (hX : XI v) (hp_a : (v 2 7) ≤ (v 2 4)) {Q : Option PV → Nat → VS → Prop} (hQ : XI (cl_word6 v) → (((cl_word6 v) 2 7) ≤ ((cl_word6 v) 2 4)) → Q none 1 (cl_word6 v)) : WV X (d + 1 + 1 + 1 + 1 + 1) 26 0 [some (.inr (.inr (some 2))), some (.inr (.inr (some 100013)))] [] 1 v Q := by
  rw [cl_word6] at hQ
  refine r_ex 2 (pc' := 4) (lo' := [some (.inr (.inr (some 2))), some (.inr (.inr (some 100013)))]) (st' := [.inl (v 2 1)]) rfl ?_
  have hb_1 : 0 ≤ (v 2 1) ∧ (v 2 1) ≤ 3 := hX 2 1
  refine n_if_ne (pc0 := 4) (len := 3) (t := 22) rfl (by first | assumption | omega | (unfold R32 at *; omega) | (unfold R64 at *; omega) | (simp only [R32, R64] at *; omega)) (fun h_4 => ?_) (fun h_4 => ?_)
  · show WV _ _ _ 22 _ _ _ _ _
    rw [if_neg h_4] at hQ
    refine r_ex 2 (pc' := 24) (lo' := [some (.inr (.inr (some 2))), some (.inr (.inr (some 100013)))]) (st' := [.inl 1, .inr (.inr (some 2))]) rfl ?_
    have hp_2 : 1 ≤ (1 : Int) ∧ (1 : Int) ≤ 3 := (by first | assumption | omega | (unfold R32 at *; omega) | (unfold R64 at *; omega) | (simp only [R32, R64] at *; omega))
    have hp_3 : (v 2 7) ≤ (v 2 4) := (show (v 2 7) ≤ (v 2 4) from (by first | assumption | omega | (unfold R32 at *; omega) | (unfold R64 at *; omega) | (simp only [R32, R64] at *; omega)))
    refine r_call (m := 39) (args := [.inr (.inr (some 2)), .inl 1]) (n' := 26) (pc' := 27) (lo' := [some (.inr (.inr (some 2))), some (.inr (.inr (some 100013)))]) (st' := []) (I := .invokevirtual 39) (pc0 := 24) (len := 3) rfl rfl rfl (e_cl_fail hX hp_2 hp_3) ?_
    show WV _ _ _ 27 _ [] _ (cl_fail v 1) _
    have hX_4 : XI (cl_fail v 1) := i_cl_fail (v := v) (k := 1) hX hp_2 hp_3
    have hb_5 : ((cl_fail v 1) 2 7) ≤ ((cl_fail v 1) 2 4) := n_cl_fail (v := v) (k := 1) hX hp_2 hp_3
    refine r_ret (rr := none) (I := .return_) (pc0 := 27) (len := 1) rfl rfl ?_
    exact hQ hX_4 (show ((cl_fail v 1) 2 7) ≤ ((cl_fail v 1) 2 4) from (by first | assumption | omega | (unfold R32 at *; omega) | (unfold R64 at *; omega) | (simp only [R32, R64] at *; omega)))
  · show WV _ _ _ 7 _ _ _ _ _
    rw [if_pos h_4] at hQ
    refine r_ex 2 (pc' := 9) (lo' := [some (.inr (.inr (some 2))), some (.inr (.inr (some 100013)))]) (st' := [.inr (.inr (some 100013)), .inr (.inr (some 2))]) rfl ?_
    have hp_6 : (v 2 7) ≤ (v 2 4) := (show (v 2 7) ≤ (v 2 4) from (by first | assumption | omega | (unfold R32 at *; omega) | (unfold R64 at *; omega) | (simp only [R32, R64] at *; omega)))
    refine r_call (m := 27) (args := [.inr (.inr (some 2)), .inr (.inr (some 100013))]) (n' := 26) (pc' := 12) (lo' := [some (.inr (.inr (some 2))), some (.inr (.inr (some 100013)))]) (st' := []) (I := .invokevirtual 27) (pc0 := 9) (len := 3) rfl rfl rfl (e_cl_isAt6 hX hp_6) ?_
    show WV _ _ _ 12 _ [.inl (cl_isAt6 v)] _ _ _
    have hb_7 := n_cl_isAt6 (v := v) hX hp_6
    refine n_if_eq (pc0 := 12) (len := 3) (t := 22) rfl (by first | assumption | omega | (unfold R32 at *; omega) | (unfold R64 at *; omega) | (simp only [R32, R64] at *; omega)) (fun h_12 => ?_) (fun h_12 => ?_)
    · show WV _ _ _ 22 _ _ _ _ _
      rw [if_pos h_12] at hQ
      refine r_ex 2 (pc' := 24) (lo' := [some (.inr (.inr (some 2))), some (.inr (.inr (some 100013)))]) (st' := [.inl 1, .inr (.inr (some 2))]) rfl ?_
      have hp_8 : 1 ≤ (1 : Int) ∧ (1 : Int) ≤ 3 := (by first | assumption | omega | (unfold R32 at *; omega) | (unfold R64 at *; omega) | (simp only [R32, R64] at *; omega))
      have hp_9 : (v 2 7) ≤ (v 2 4) := (show (v 2 7) ≤ (v 2 4) from (by first | assumption | omega | (unfold R32 at *; omega) | (unfold R64 at *; omega) | (simp only [R32, R64] at *; omega)))
      refine r_call (m := 39) (args := [.inr (.inr (some 2)), .inl 1]) (n' := 26) (pc' := 27) (lo' := [some (.inr (.inr (some 2))), some (.inr (.inr (some 100013)))]) (st' := []) (I := .invokevirtual 39) (pc0 := 24) (len := 3) rfl rfl rfl (e_cl_fail hX hp_8 hp_9) ?_
      show WV _ _ _ 27 _ [] _ (cl_fail v 1) _
      have hX_10 : XI (cl_fail v 1) := i_cl_fail (v := v) (k := 1) hX hp_8 hp_9
      have hb_11 : ((cl_fail v 1) 2 7) ≤ ((cl_fail v 1) 2 4) := n_cl_fail (v := v) (k := 1) hX hp_8 hp_9
      refine r_ret (rr := none) (I := .return_) (pc0 := 27) (len := 1) rfl rfl ?_
      exact hQ hX_10 (show ((cl_fail v 1) 2 7) ≤ ((cl_fail v 1) 2 4) from (by first | assumption | omega | (unfold R32 at *; omega) | (unfold R64 at *; omega) | (simp only [R32, R64] at *; omega)))
    · show WV _ _ _ 15 _ _ _ _ _
      rw [if_neg h_12] at hQ
      refine r_ex 1 (pc' := 16) (lo' := [some (.inr (.inr (some 2))), some (.inr (.inr (some 100013)))]) (st' := [.inr (.inr (some 2))]) rfl ?_
      have hp_12 : (v 2 7) ≤ (v 2 4) := (show (v 2 7) ≤ (v 2 4) from (by first | assumption | omega | (unfold R32 at *; omega) | (unfold R64 at *; omega) | (simp only [R32, R64] at *; omega)))
      refine r_call (m := 21) (args := [.inr (.inr (some 2))]) (n' := 26) (pc' := 19) (lo' := [some (.inr (.inr (some 2))), some (.inr (.inr (some 100013)))]) (st' := []) (I := .invokevirtual 21) (pc0 := 16) (len := 3) rfl rfl rfl (e_cl_advance hX hp_12) ?_
      show WV _ _ _ 19 _ [] _ (cl_advance v) _
      have hX_13 : XI (cl_advance v) := i_cl_advance (v := v) hX hp_12
      have hb_14 : ((cl_advance v) 2 7) ≤ ((cl_advance v) 2 4) := n_cl_advance (v := v) hX hp_12
      refine r_ex 1 (pc' := 27) (lo' := [some (.inr (.inr (some 2))), some (.inr (.inr (some 100013)))]) (st' := []) rfl ?_
      refine r_ret (rr := none) (I := .return_) (pc0 := 27) (len := 1) rfl rfl ?_
      exact hQ hX_13 (show ((cl_advance v) 2 7) ≤ ((cl_advance v) 2 4) from (by first | assumption | omega | (unfold R32 at *; omega) | (unfold R64 at *; omega) | (simp only [R32, R64] at *; omega)))

theorem e_cl_word6 {X : PX} {d : Nat} {v : VS}  (hX : XI v) (hp_a : (v 2 7) ≤ (v 2 4)) : EvV X (d + 1 + 1 + 1 + 1 + 1) 26 [.inr (.inr (some 2)), .inr (.inr (some 100013))] 1 v none 1 (cl_word6 v) := EvV.of (w_cl_word6 hX hp_a (fun _ _ => ⟨rfl, rfl, rfl⟩))

theorem i_cl_word6 {v : VS}  (hX : XI v) (hp_a : (v 2 7) ≤ (v 2 4)) : XI (cl_word6 v) := by
  have q : WV (0, fun _ => 0, none) (0 + 1 + 1 + 1 + 1 + 1) 26 0 [some (.inr (.inr (some 2))), some (.inr (.inr (some 100013)))] [] 1 v (fun _ _ _ => XI (cl_word6 v)) := w_cl_word6 (X := (0, fun _ => 0, none)) (d := 0) hX hp_a (fun q _ => q)
  obtain ⟨_, _, _, _, _, _, _, q⟩ := q
  exact q

theorem n_cl_word6 {v : VS}  (hX : XI v) (hp_a : (v 2 7) ≤ (v 2 4)) : ((cl_word6 v) 2 7) ≤ ((cl_word6 v) 2 4) := by
  have q : WV (0, fun _ => 0, none) (0 + 1 + 1 + 1 + 1 + 1) 26 0 [some (.inr (.inr (some 2))), some (.inr (.inr (some 100013)))] [] 1 v (fun _ _ _ => ((cl_word6 v) 2 7) ≤ ((cl_word6 v) 2 4)) := w_cl_word6 (X := (0, fun _ => 0, none)) (d := 0) hX hp_a (fun _ q => q)
  obtain ⟨_, _, _, _, _, _, _, q⟩ := q
  exact q

theorem o_cl_word6 {rk : Nat} {v : VS}  (hk : (rk < 2 ∨ 2 < rk)) : (cl_word6 v ) rk = v rk := by
  unfold cl_word6
  by_cases hc_ : (v 2 1) = 0
  · rw [if_pos hc_]
    by_cases hc_ : (cl_isAt6 v) = 0
    · rw [if_pos hc_]
      all_goals (show (cl_fail v 1) rk = _)
      all_goals (rw [o_cl_fail (by omega)])
    · rw [if_neg hc_]
      all_goals (show (cl_advance v) rk = _)
      all_goals (rw [o_cl_advance (by omega)])
  · rw [if_neg hc_]
    all_goals (show (cl_fail v 1) rk = _)
    all_goals (rw [o_cl_fail (by omega)])

def cl_isAt7 (v : VS)  : Int :=
  (if (v 2 5) = 1 then (if 5 = ((v 2 7) - (v 2 6)) then (if (v 1 ((((v 2 6) + 0)).toNat)) = 114 then (if (v 1 ((((v 2 6) + 1)).toNat)) = 101 then (if (v 1 ((((v 2 6) + 2)).toNat)) = 115 then (if (v 1 ((((v 2 6) + 3)).toNat)) = 116 then (if (v 1 ((((v 2 6) + 4)).toNat)) = 115 then 1 else 0) else 0) else 0) else 0) else 0) else 0) else 0)
theorem w_cl_isAt7 {X : PX} {d : Nat} {v : VS}  (hX : XI v) (hp_a : (v 2 7) ≤ (v 2 4)) {Q : Option PV → Nat → VS → Prop} (hQ : (0 ≤ (cl_isAt7 v) ∧ (cl_isAt7 v) ≤ 1) → Q (some (.inl (cl_isAt7 v))) 1 v) : WV X (d + 1 + 1 + 1 + 1) 27 0 [some (.inr (.inr (some 2))), some (.inr (.inr (some 100015))), none] [] 1 v Q := by
  rw [cl_isAt7] at hQ
  have hz6 : 0 ≤ v 2 6 ∧ v 2 6 ≤ 2000 := hX 2 6
  have hz7 : 0 ≤ v 2 7 ∧ v 2 7 ≤ 2001 := hX 2 7
  have hz4 : 0 ≤ v 2 4 ∧ v 2 4 ≤ 2000 := hX 2 4
  refine r_ex 3 (pc' := 5) (lo' := [some (.inr (.inr (some 2))), some (.inr (.inr (some 100015))), none]) (st' := [.inl 1, .inl (v 2 5)]) rfl ?_
  have hb_1 : 0 ≤ (v 2 5) ∧ (v 2 5) ≤ 4 := hX 2 5
  refine n_ic_ne (pc0 := 5) (len := 3) (t := 24) rfl (by first | assumption | omega | (unfold R32 at *; omega) | (unfold R64 at *; omega) | (simp only [R32, R64] at *; omega)) (by first | assumption | omega | (unfold R32 at *; omega) | (unfold R64 at *; omega) | (simp only [R32, R64] at *; omega)) (fun h_5 => ?_) (fun h_5 => ?_)
  · show WV _ _ _ 24 _ _ _ _ _
    rw [if_neg h_5] at hQ
    refine r_ex 1 (pc' := 25) (lo' := [some (.inr (.inr (some 2))), some (.inr (.inr (some 100015))), none]) (st' := [.inl 0]) rfl ?_
    refine r_ret (rr := some (.inl 0)) (I := .ireturn) (pc0 := 25) (len := 1) rfl rfl ?_
    exact hQ (by first | assumption | omega | (unfold R32 at *; omega) | (unfold R64 at *; omega) | (simp only [R32, R64] at *; omega))
  · show WV _ _ _ 8 _ _ _ _ _
    rw [if_pos h_5] at hQ
    refine r_ex 1 (pc' := 9) (lo' := [some (.inr (.inr (some 2))), some (.inr (.inr (some 100015))), none]) (st' := [.inr (.inr (some 100015))]) rfl ?_
    refine r_call (rr := some (.inl 5)) (b' := 1) (v' := v) (m := 28) (args := [.inr (.inr (some 100015))]) (n' := 27) (pc' := 12) (lo' := [some (.inr (.inr (some 2))), some (.inr (.inr (some 100015))), none]) (st' := []) (I := .invokevirtual 28) (pc0 := 9) (len := 3) rfl rfl rfl ⟨60, rfl⟩ ?_
    show WV _ _ _ 12 _ [.inl 5] _ _ _
    refine r_ex 5 (pc' := 21) (lo' := [some (.inr (.inr (some 2))), some (.inr (.inr (some 100015))), none]) (st' := [.inl ((v 2 7) - (v 2 6)), .inl 5]) rfl ?_
    have hb_2 : 0 ≤ (v 2 7) ∧ (v 2 7) ≤ 2001 := hX 2 7
    have hb_3 : 0 ≤ (v 2 6) ∧ (v 2 6) ≤ 2000 := hX 2 6
    refine n_ic_eq (pc0 := 21) (len := 3) (t := 26) rfl (by first | assumption | omega | (unfold R32 at *; omega) | (unfold R64 at *; omega) | (simp only [R32, R64] at *; omega)) (by first | assumption | omega | (unfold R32 at *; omega) | (unfold R64 at *; omega) | (simp only [R32, R64] at *; omega)) (fun h_21 => ?_) (fun h_21 => ?_)
    · show WV _ _ _ 26 _ _ _ _ _
      rw [if_pos h_21] at hQ
      refine r_ex 4 (pc' := 30) (lo' := [some (.inr (.inr (some 2))), some (.inr (.inr (some 100015))), some (.inl 0)]) (st' := [.inr (.inr (some 100015)), .inl 0]) rfl ?_
      refine r_call (rr := some (.inl 5)) (b' := 1) (v' := v) (m := 28) (args := [.inr (.inr (some 100015))]) (n' := 27) (pc' := 33) (lo' := [some (.inr (.inr (some 2))), some (.inr (.inr (some 100015))), some (.inl 0)]) (st' := [.inl 0]) (I := .invokevirtual 28) (pc0 := 30) (len := 3) rfl rfl rfl ⟨60, rfl⟩ ?_
      show WV _ _ _ 33 _ [.inl 5, .inl 0] _ _ _
      refine r_ex 7 (pc' := 46) (lo' := [some (.inr (.inr (some 2))), some (.inr (.inr (some 100015))), some (.inl 0)]) (st' := [.inl ((v 2 6) + 0), .inr (.inr (some 1))]) rfl ?_
      refine r_bald2 (x := (v 1 ((((v 2 6) + 0)).toNat))) (pc' := 47) (pc0 := 46) (len := 1) rfl (s_1 _) (Or.inl rfl) (by first | assumption | omega | (unfold R32 at *; omega) | (unfold R64 at *; omega) | (simp only [R32, R64] at *; omega)) (by decide) rfl rfl ?_
      have hb_4 : -128 ≤ (v 1 ((((v 2 6) + 0)).toNat)) ∧ (v 1 ((((v 2 6) + 0)).toNat)) ≤ 127 := hX 1 ((((v 2 6) + 0)).toNat)
      refine r_ex 2 (pc' := 49) (lo' := [some (.inr (.inr (some 2))), some (.inr (.inr (some 100015))), some (.inl 0)]) (st' := [.inl 0, .inr (.inr (some 100015)), .inl (v 1 ((((v 2 6) + 0)).toNat))]) rfl ?_
      refine r_call (rr := some (.inl 114)) (b' := 1) (v' := v) (m := 30) (args := [.inr (.inr (some 100015)), .inl 0]) (n' := 27) (pc' := 52) (lo' := [some (.inr (.inr (some 2))), some (.inr (.inr (some 100015))), some (.inl 0)]) (st' := [.inl (v 1 ((((v 2 6) + 0)).toNat))]) (I := .invokevirtual 30) (pc0 := 49) (len := 3) rfl rfl rfl ⟨60, rfl⟩ ?_
      show WV _ _ _ 52 _ [.inl 114, .inl (v 1 ((((v 2 6) + 0)).toNat))] _ _ _
      refine n_ic_eq (pc0 := 52) (len := 3) (t := 57) rfl (by first | assumption | omega | (unfold R32 at *; omega) | (unfold R64 at *; omega) | (simp only [R32, R64] at *; omega)) (by first | assumption | omega | (unfold R32 at *; omega) | (unfold R64 at *; omega) | (simp only [R32, R64] at *; omega)) (fun h_52 => ?_) (fun h_52 => ?_)
      · show WV _ _ _ 57 _ _ _ _ _
        rw [if_pos h_52] at hQ
        refine r_ex 4 (pc' := 30) (lo' := [some (.inr (.inr (some 2))), some (.inr (.inr (some 100015))), some (.inl 1)]) (st' := [.inr (.inr (some 100015)), .inl 1]) rfl ?_
        refine r_call (rr := some (.inl 5)) (b' := 1) (v' := v) (m := 28) (args := [.inr (.inr (some 100015))]) (n' := 27) (pc' := 33) (lo' := [some (.inr (.inr (some 2))), some (.inr (.inr (some 100015))), some (.inl 1)]) (st' := [.inl 1]) (I := .invokevirtual 28) (pc0 := 30) (len := 3) rfl rfl rfl ⟨60, rfl⟩ ?_
        show WV _ _ _ 33 _ [.inl 5, .inl 1] _ _ _
        refine r_ex 7 (pc' := 46) (lo' := [some (.inr (.inr (some 2))), some (.inr (.inr (some 100015))), some (.inl 1)]) (st' := [.inl ((v 2 6) + 1), .inr (.inr (some 1))]) rfl ?_
        refine r_bald2 (x := (v 1 ((((v 2 6) + 1)).toNat))) (pc' := 47) (pc0 := 46) (len := 1) rfl (s_1 _) (Or.inl rfl) (by first | assumption | omega | (unfold R32 at *; omega) | (unfold R64 at *; omega) | (simp only [R32, R64] at *; omega)) (by decide) rfl rfl ?_
        have hb_5 : -128 ≤ (v 1 ((((v 2 6) + 1)).toNat)) ∧ (v 1 ((((v 2 6) + 1)).toNat)) ≤ 127 := hX 1 ((((v 2 6) + 1)).toNat)
        refine r_ex 2 (pc' := 49) (lo' := [some (.inr (.inr (some 2))), some (.inr (.inr (some 100015))), some (.inl 1)]) (st' := [.inl 1, .inr (.inr (some 100015)), .inl (v 1 ((((v 2 6) + 1)).toNat))]) rfl ?_
        refine r_call (rr := some (.inl 101)) (b' := 1) (v' := v) (m := 30) (args := [.inr (.inr (some 100015)), .inl 1]) (n' := 27) (pc' := 52) (lo' := [some (.inr (.inr (some 2))), some (.inr (.inr (some 100015))), some (.inl 1)]) (st' := [.inl (v 1 ((((v 2 6) + 1)).toNat))]) (I := .invokevirtual 30) (pc0 := 49) (len := 3) rfl rfl rfl ⟨60, rfl⟩ ?_
        show WV _ _ _ 52 _ [.inl 101, .inl (v 1 ((((v 2 6) + 1)).toNat))] _ _ _
        refine n_ic_eq (pc0 := 52) (len := 3) (t := 57) rfl (by first | assumption | omega | (unfold R32 at *; omega) | (unfold R64 at *; omega) | (simp only [R32, R64] at *; omega)) (by first | assumption | omega | (unfold R32 at *; omega) | (unfold R64 at *; omega) | (simp only [R32, R64] at *; omega)) (fun h_52 => ?_) (fun h_52 => ?_)
        · show WV _ _ _ 57 _ _ _ _ _
          rw [if_pos h_52] at hQ
          refine r_ex 4 (pc' := 30) (lo' := [some (.inr (.inr (some 2))), some (.inr (.inr (some 100015))), some (.inl 2)]) (st' := [.inr (.inr (some 100015)), .inl 2]) rfl ?_
          refine r_call (rr := some (.inl 5)) (b' := 1) (v' := v) (m := 28) (args := [.inr (.inr (some 100015))]) (n' := 27) (pc' := 33) (lo' := [some (.inr (.inr (some 2))), some (.inr (.inr (some 100015))), some (.inl 2)]) (st' := [.inl 2]) (I := .invokevirtual 28) (pc0 := 30) (len := 3) rfl rfl rfl ⟨60, rfl⟩ ?_
          show WV _ _ _ 33 _ [.inl 5, .inl 2] _ _ _
          refine r_ex 7 (pc' := 46) (lo' := [some (.inr (.inr (some 2))), some (.inr (.inr (some 100015))), some (.inl 2)]) (st' := [.inl ((v 2 6) + 2), .inr (.inr (some 1))]) rfl ?_
          refine r_bald2 (x := (v 1 ((((v 2 6) + 2)).toNat))) (pc' := 47) (pc0 := 46) (len := 1) rfl (s_1 _) (Or.inl rfl) (by first | assumption | omega | (unfold R32 at *; omega) | (unfold R64 at *; omega) | (simp only [R32, R64] at *; omega)) (by decide) rfl rfl ?_
          have hb_6 : -128 ≤ (v 1 ((((v 2 6) + 2)).toNat)) ∧ (v 1 ((((v 2 6) + 2)).toNat)) ≤ 127 := hX 1 ((((v 2 6) + 2)).toNat)
          refine r_ex 2 (pc' := 49) (lo' := [some (.inr (.inr (some 2))), some (.inr (.inr (some 100015))), some (.inl 2)]) (st' := [.inl 2, .inr (.inr (some 100015)), .inl (v 1 ((((v 2 6) + 2)).toNat))]) rfl ?_
          refine r_call (rr := some (.inl 115)) (b' := 1) (v' := v) (m := 30) (args := [.inr (.inr (some 100015)), .inl 2]) (n' := 27) (pc' := 52) (lo' := [some (.inr (.inr (some 2))), some (.inr (.inr (some 100015))), some (.inl 2)]) (st' := [.inl (v 1 ((((v 2 6) + 2)).toNat))]) (I := .invokevirtual 30) (pc0 := 49) (len := 3) rfl rfl rfl ⟨60, rfl⟩ ?_
          show WV _ _ _ 52 _ [.inl 115, .inl (v 1 ((((v 2 6) + 2)).toNat))] _ _ _
          refine n_ic_eq (pc0 := 52) (len := 3) (t := 57) rfl (by first | assumption | omega | (unfold R32 at *; omega) | (unfold R64 at *; omega) | (simp only [R32, R64] at *; omega)) (by first | assumption | omega | (unfold R32 at *; omega) | (unfold R64 at *; omega) | (simp only [R32, R64] at *; omega)) (fun h_52 => ?_) (fun h_52 => ?_)
          · show WV _ _ _ 57 _ _ _ _ _
            rw [if_pos h_52] at hQ
            refine r_ex 4 (pc' := 30) (lo' := [some (.inr (.inr (some 2))), some (.inr (.inr (some 100015))), some (.inl 3)]) (st' := [.inr (.inr (some 100015)), .inl 3]) rfl ?_
            refine r_call (rr := some (.inl 5)) (b' := 1) (v' := v) (m := 28) (args := [.inr (.inr (some 100015))]) (n' := 27) (pc' := 33) (lo' := [some (.inr (.inr (some 2))), some (.inr (.inr (some 100015))), some (.inl 3)]) (st' := [.inl 3]) (I := .invokevirtual 28) (pc0 := 30) (len := 3) rfl rfl rfl ⟨60, rfl⟩ ?_
            show WV _ _ _ 33 _ [.inl 5, .inl 3] _ _ _
            refine r_ex 7 (pc' := 46) (lo' := [some (.inr (.inr (some 2))), some (.inr (.inr (some 100015))), some (.inl 3)]) (st' := [.inl ((v 2 6) + 3), .inr (.inr (some 1))]) rfl ?_
            refine r_bald2 (x := (v 1 ((((v 2 6) + 3)).toNat))) (pc' := 47) (pc0 := 46) (len := 1) rfl (s_1 _) (Or.inl rfl) (by first | assumption | omega | (unfold R32 at *; omega) | (unfold R64 at *; omega) | (simp only [R32, R64] at *; omega)) (by decide) rfl rfl ?_
            have hb_7 : -128 ≤ (v 1 ((((v 2 6) + 3)).toNat)) ∧ (v 1 ((((v 2 6) + 3)).toNat)) ≤ 127 := hX 1 ((((v 2 6) + 3)).toNat)
            refine r_ex 2 (pc' := 49) (lo' := [some (.inr (.inr (some 2))), some (.inr (.inr (some 100015))), some (.inl 3)]) (st' := [.inl 3, .inr (.inr (some 100015)), .inl (v 1 ((((v 2 6) + 3)).toNat))]) rfl ?_
            refine r_call (rr := some (.inl 116)) (b' := 1) (v' := v) (m := 30) (args := [.inr (.inr (some 100015)), .inl 3]) (n' := 27) (pc' := 52) (lo' := [some (.inr (.inr (some 2))), some (.inr (.inr (some 100015))), some (.inl 3)]) (st' := [.inl (v 1 ((((v 2 6) + 3)).toNat))]) (I := .invokevirtual 30) (pc0 := 49) (len := 3) rfl rfl rfl ⟨60, rfl⟩ ?_
            show WV _ _ _ 52 _ [.inl 116, .inl (v 1 ((((v 2 6) + 3)).toNat))] _ _ _
            refine n_ic_eq (pc0 := 52) (len := 3) (t := 57) rfl (by first | assumption | omega | (unfold R32 at *; omega) | (unfold R64 at *; omega) | (simp only [R32, R64] at *; omega)) (by first | assumption | omega | (unfold R32 at *; omega) | (unfold R64 at *; omega) | (simp only [R32, R64] at *; omega)) (fun h_52 => ?_) (fun h_52 => ?_)
            · show WV _ _ _ 57 _ _ _ _ _
              rw [if_pos h_52] at hQ
              refine r_ex 4 (pc' := 30) (lo' := [some (.inr (.inr (some 2))), some (.inr (.inr (some 100015))), some (.inl 4)]) (st' := [.inr (.inr (some 100015)), .inl 4]) rfl ?_
              refine r_call (rr := some (.inl 5)) (b' := 1) (v' := v) (m := 28) (args := [.inr (.inr (some 100015))]) (n' := 27) (pc' := 33) (lo' := [some (.inr (.inr (some 2))), some (.inr (.inr (some 100015))), some (.inl 4)]) (st' := [.inl 4]) (I := .invokevirtual 28) (pc0 := 30) (len := 3) rfl rfl rfl ⟨60, rfl⟩ ?_
              show WV _ _ _ 33 _ [.inl 5, .inl 4] _ _ _
              refine r_ex 7 (pc' := 46) (lo' := [some (.inr (.inr (some 2))), some (.inr (.inr (some 100015))), some (.inl 4)]) (st' := [.inl ((v 2 6) + 4), .inr (.inr (some 1))]) rfl ?_
              refine r_bald2 (x := (v 1 ((((v 2 6) + 4)).toNat))) (pc' := 47) (pc0 := 46) (len := 1) rfl (s_1 _) (Or.inl rfl) (by first | assumption | omega | (unfold R32 at *; omega) | (unfold R64 at *; omega) | (simp only [R32, R64] at *; omega)) (by decide) rfl rfl ?_
              have hb_8 : -128 ≤ (v 1 ((((v 2 6) + 4)).toNat)) ∧ (v 1 ((((v 2 6) + 4)).toNat)) ≤ 127 := hX 1 ((((v 2 6) + 4)).toNat)
              refine r_ex 2 (pc' := 49) (lo' := [some (.inr (.inr (some 2))), some (.inr (.inr (some 100015))), some (.inl 4)]) (st' := [.inl 4, .inr (.inr (some 100015)), .inl (v 1 ((((v 2 6) + 4)).toNat))]) rfl ?_
              refine r_call (rr := some (.inl 115)) (b' := 1) (v' := v) (m := 30) (args := [.inr (.inr (some 100015)), .inl 4]) (n' := 27) (pc' := 52) (lo' := [some (.inr (.inr (some 2))), some (.inr (.inr (some 100015))), some (.inl 4)]) (st' := [.inl (v 1 ((((v 2 6) + 4)).toNat))]) (I := .invokevirtual 30) (pc0 := 49) (len := 3) rfl rfl rfl ⟨60, rfl⟩ ?_
              show WV _ _ _ 52 _ [.inl 115, .inl (v 1 ((((v 2 6) + 4)).toNat))] _ _ _
              refine n_ic_eq (pc0 := 52) (len := 3) (t := 57) rfl (by first | assumption | omega | (unfold R32 at *; omega) | (unfold R64 at *; omega) | (simp only [R32, R64] at *; omega)) (by first | assumption | omega | (unfold R32 at *; omega) | (unfold R64 at *; omega) | (simp only [R32, R64] at *; omega)) (fun h_52 => ?_) (fun h_52 => ?_)
              · show WV _ _ _ 57 _ _ _ _ _
                rw [if_pos h_52] at hQ
                refine r_ex 4 (pc' := 30) (lo' := [some (.inr (.inr (some 2))), some (.inr (.inr (some 100015))), some (.inl 5)]) (st' := [.inr (.inr (some 100015)), .inl 5]) rfl ?_
                refine r_call (rr := some (.inl 5)) (b' := 1) (v' := v) (m := 28) (args := [.inr (.inr (some 100015))]) (n' := 27) (pc' := 33) (lo' := [some (.inr (.inr (some 2))), some (.inr (.inr (some 100015))), some (.inl 5)]) (st' := [.inl 5]) (I := .invokevirtual 28) (pc0 := 30) (len := 3) rfl rfl rfl ⟨60, rfl⟩ ?_
                show WV _ _ _ 33 _ [.inl 5, .inl 5] _ _ _
                refine r_ex 2 (pc' := 64) (lo' := [some (.inr (.inr (some 2))), some (.inr (.inr (some 100015))), some (.inl 5)]) (st' := [.inl 1]) rfl ?_
                refine r_ret (rr := some (.inl 1)) (I := .ireturn) (pc0 := 64) (len := 1) rfl rfl ?_
                exact hQ (by first | assumption | omega | (unfold R32 at *; omega) | (unfold R64 at *; omega) | (simp only [R32, R64] at *; omega))
              · show WV _ _ _ 55 _ _ _ _ _
                rw [if_neg h_52] at hQ
                refine r_ex 1 (pc' := 56) (lo' := [some (.inr (.inr (some 2))), some (.inr (.inr (some 100015))), some (.inl 4)]) (st' := [.inl 0]) rfl ?_
                refine r_ret (rr := some (.inl 0)) (I := .ireturn) (pc0 := 56) (len := 1) rfl rfl ?_
                exact hQ (by first | assumption | omega | (unfold R32 at *; omega) | (unfold R64 at *; omega) | (simp only [R32, R64] at *; omega))
            · show WV _ _ _ 55 _ _ _ _ _
              rw [if_neg h_52] at hQ
              refine r_ex 1 (pc' := 56) (lo' := [some (.inr (.inr (some 2))), some (.inr (.inr (some 100015))), some (.inl 3)]) (st' := [.inl 0]) rfl ?_
              refine r_ret (rr := some (.inl 0)) (I := .ireturn) (pc0 := 56) (len := 1) rfl rfl ?_
              exact hQ (by first | assumption | omega | (unfold R32 at *; omega) | (unfold R64 at *; omega) | (simp only [R32, R64] at *; omega))
          · show WV _ _ _ 55 _ _ _ _ _
            rw [if_neg h_52] at hQ
            refine r_ex 1 (pc' := 56) (lo' := [some (.inr (.inr (some 2))), some (.inr (.inr (some 100015))), some (.inl 2)]) (st' := [.inl 0]) rfl ?_
            refine r_ret (rr := some (.inl 0)) (I := .ireturn) (pc0 := 56) (len := 1) rfl rfl ?_
            exact hQ (by first | assumption | omega | (unfold R32 at *; omega) | (unfold R64 at *; omega) | (simp only [R32, R64] at *; omega))
        · show WV _ _ _ 55 _ _ _ _ _
          rw [if_neg h_52] at hQ
          refine r_ex 1 (pc' := 56) (lo' := [some (.inr (.inr (some 2))), some (.inr (.inr (some 100015))), some (.inl 1)]) (st' := [.inl 0]) rfl ?_
          refine r_ret (rr := some (.inl 0)) (I := .ireturn) (pc0 := 56) (len := 1) rfl rfl ?_
          exact hQ (by first | assumption | omega | (unfold R32 at *; omega) | (unfold R64 at *; omega) | (simp only [R32, R64] at *; omega))
      · show WV _ _ _ 55 _ _ _ _ _
        rw [if_neg h_52] at hQ
        refine r_ex 1 (pc' := 56) (lo' := [some (.inr (.inr (some 2))), some (.inr (.inr (some 100015))), some (.inl 0)]) (st' := [.inl 0]) rfl ?_
        refine r_ret (rr := some (.inl 0)) (I := .ireturn) (pc0 := 56) (len := 1) rfl rfl ?_
        exact hQ (by first | assumption | omega | (unfold R32 at *; omega) | (unfold R64 at *; omega) | (simp only [R32, R64] at *; omega))
    · show WV _ _ _ 24 _ _ _ _ _
      rw [if_neg h_21] at hQ
      refine r_ex 1 (pc' := 25) (lo' := [some (.inr (.inr (some 2))), some (.inr (.inr (some 100015))), none]) (st' := [.inl 0]) rfl ?_
      refine r_ret (rr := some (.inl 0)) (I := .ireturn) (pc0 := 25) (len := 1) rfl rfl ?_
      exact hQ (by first | assumption | omega | (unfold R32 at *; omega) | (unfold R64 at *; omega) | (simp only [R32, R64] at *; omega))

theorem e_cl_isAt7 {X : PX} {d : Nat} {v : VS}  (hX : XI v) (hp_a : (v 2 7) ≤ (v 2 4)) : EvV X (d + 1 + 1 + 1 + 1) 27 [.inr (.inr (some 2)), .inr (.inr (some 100015))] 1 v (some (.inl (cl_isAt7 v))) 1 v := EvV.of (w_cl_isAt7 hX hp_a (fun _ => ⟨rfl, rfl, rfl⟩))

theorem n_cl_isAt7 {v : VS}  (hX : XI v) (hp_a : (v 2 7) ≤ (v 2 4)) : 0 ≤ (cl_isAt7 v) ∧ (cl_isAt7 v) ≤ 1 := by
  have q : WV (0, fun _ => 0, none) (0 + 1 + 1 + 1 + 1) 27 0 [some (.inr (.inr (some 2))), some (.inr (.inr (some 100015))), none] [] 1 v (fun _ _ _ => 0 ≤ (cl_isAt7 v) ∧ (cl_isAt7 v) ≤ 1) := w_cl_isAt7 (X := (0, fun _ => 0, none)) (d := 0) hX hp_a (fun q => q)
  obtain ⟨_, _, _, _, _, _, _, q⟩ := q
  exact q

def cl_word7 (v : VS)  : VS :=
  (if (v 2 1) = 0 then (if (cl_isAt7 v) = 0 then (cl_fail v 1) else (cl_advance v)) else (cl_fail v 1))
theorem w_cl_word7 {X : PX} {d : Nat} {v : VS}  (hX : XI v) (hp_a : (v 2 7) ≤ (v 2 4)) {Q : Option PV → Nat → VS → Prop} (hQ : XI (cl_word7 v) → (((cl_word7 v) 2 7) ≤ ((cl_word7 v) 2 4)) → Q none 1 (cl_word7 v)) : WV X (d + 1 + 1 + 1 + 1 + 1) 26 0 [some (.inr (.inr (some 2))), some (.inr (.inr (some 100015)))] [] 1 v Q := by
  rw [cl_word7] at hQ
  refine r_ex 2 (pc' := 4) (lo' := [some (.inr (.inr (some 2))), some (.inr (.inr (some 100015)))]) (st' := [.inl (v 2 1)]) rfl ?_
  have hb_1 : 0 ≤ (v 2 1) ∧ (v 2 1) ≤ 3 := hX 2 1
  refine n_if_ne (pc0 := 4) (len := 3) (t := 22) rfl (by first | assumption | omega | (unfold R32 at *; omega) | (unfold R64 at *; omega) | (simp only [R32, R64] at *; omega)) (fun h_4 => ?_) (fun h_4 => ?_)
  · show WV _ _ _ 22 _ _ _ _ _
    rw [if_neg h_4] at hQ
    refine r_ex 2 (pc' := 24) (lo' := [some (.inr (.inr (some 2))), some (.inr (.inr (some 100015)))]) (st' := [.inl 1, .inr (.inr (some 2))]) rfl ?_
    have hp_2 : 1 ≤ (1 : Int) ∧ (1 : Int) ≤ 3 := (by first | assumption | omega | (unfold R32 at *; omega) | (unfold R64 at *; omega) | (simp only [R32, R64] at *; omega))
    have hp_3 : (v 2 7) ≤ (v 2 4) := (show (v 2 7) ≤ (v 2 4) from (by first | assumption | omega | (unfold R32 at *; omega) | (unfold R64 at *; omega) | (simp only [R32, R64] at *; omega)))
    refine r_call (m := 39) (args := [.inr (.inr (some 2)), .inl 1]) (n' := 26) (pc' := 27) (lo' := [some (.inr (.inr (some 2))), some (.inr (.inr (some 100015)))]) (st' := []) (I := .invokevirtual 39) (pc0 := 24) (len := 3) rfl rfl rfl (e_cl_fail hX hp_2 hp_3) ?_
    show WV _ _ _ 27 _ [] _ (cl_fail v 1) _
    have hX_4 : XI (cl_fail v 1) := i_cl_fail (v := v) (k := 1) hX hp_2 hp_3
    have hb_5 : ((cl_fail v 1) 2 7) ≤ ((cl_fail v 1) 2 4) := n_cl_fail (v := v) (k := 1) hX hp_2 hp_3
    refine r_ret (rr := none) (I := .return_) (pc0 := 27) (len := 1) rfl rfl ?_
    exact hQ hX_4 (show ((cl_fail v 1) 2 7) ≤ ((cl_fail v 1) 2 4) from (by first | assumption | omega | (unfold R32 at *; omega) | (unfold R64 at *; omega) | (simp only [R32, R64] at *; omega)))
  · show WV _ _ _ 7 _ _ _ _ _
    rw [if_pos h_4] at hQ
    refine r_ex 2 (pc' := 9) (lo' := [some (.inr (.inr (some 2))), some (.inr (.inr (some 100015)))]) (st' := [.inr (.inr (some 100015)), .inr (.inr (some 2))]) rfl ?_
    have hp_6 : (v 2 7) ≤ (v 2 4) := (show (v 2 7) ≤ (v 2 4) from (by first | assumption | omega | (unfold R32 at *; omega) | (unfold R64 at *; omega) | (simp only [R32, R64] at *; omega)))
    refine r_call (m := 27) (args := [.inr (.inr (some 2)), .inr (.inr (some 100015))]) (n' := 26) (pc' := 12) (lo' := [some (.inr (.inr (some 2))), some (.inr (.inr (some 100015)))]) (st' := []) (I := .invokevirtual 27) (pc0 := 9) (len := 3) rfl rfl rfl (e_cl_isAt7 hX hp_6) ?_
    show WV _ _ _ 12 _ [.inl (cl_isAt7 v)] _ _ _
    have hb_7 := n_cl_isAt7 (v := v) hX hp_6
    refine n_if_eq (pc0 := 12) (len := 3) (t := 22) rfl (by first | assumption | omega | (unfold R32 at *; omega) | (unfold R64 at *; omega) | (simp only [R32, R64] at *; omega)) (fun h_12 => ?_) (fun h_12 => ?_)
    · show WV _ _ _ 22 _ _ _ _ _
      rw [if_pos h_12] at hQ
      refine r_ex 2 (pc' := 24) (lo' := [some (.inr (.inr (some 2))), some (.inr (.inr (some 100015)))]) (st' := [.inl 1, .inr (.inr (some 2))]) rfl ?_
      have hp_8 : 1 ≤ (1 : Int) ∧ (1 : Int) ≤ 3 := (by first | assumption | omega | (unfold R32 at *; omega) | (unfold R64 at *; omega) | (simp only [R32, R64] at *; omega))
      have hp_9 : (v 2 7) ≤ (v 2 4) := (show (v 2 7) ≤ (v 2 4) from (by first | assumption | omega | (unfold R32 at *; omega) | (unfold R64 at *; omega) | (simp only [R32, R64] at *; omega)))
      refine r_call (m := 39) (args := [.inr (.inr (some 2)), .inl 1]) (n' := 26) (pc' := 27) (lo' := [some (.inr (.inr (some 2))), some (.inr (.inr (some 100015)))]) (st' := []) (I := .invokevirtual 39) (pc0 := 24) (len := 3) rfl rfl rfl (e_cl_fail hX hp_8 hp_9) ?_
      show WV _ _ _ 27 _ [] _ (cl_fail v 1) _
      have hX_10 : XI (cl_fail v 1) := i_cl_fail (v := v) (k := 1) hX hp_8 hp_9
      have hb_11 : ((cl_fail v 1) 2 7) ≤ ((cl_fail v 1) 2 4) := n_cl_fail (v := v) (k := 1) hX hp_8 hp_9
      refine r_ret (rr := none) (I := .return_) (pc0 := 27) (len := 1) rfl rfl ?_
      exact hQ hX_10 (show ((cl_fail v 1) 2 7) ≤ ((cl_fail v 1) 2 4) from (by first | assumption | omega | (unfold R32 at *; omega) | (unfold R64 at *; omega) | (simp only [R32, R64] at *; omega)))
    · show WV _ _ _ 15 _ _ _ _ _
      rw [if_neg h_12] at hQ
      refine r_ex 1 (pc' := 16) (lo' := [some (.inr (.inr (some 2))), some (.inr (.inr (some 100015)))]) (st' := [.inr (.inr (some 2))]) rfl ?_
      have hp_12 : (v 2 7) ≤ (v 2 4) := (show (v 2 7) ≤ (v 2 4) from (by first | assumption | omega | (unfold R32 at *; omega) | (unfold R64 at *; omega) | (simp only [R32, R64] at *; omega)))
      refine r_call (m := 21) (args := [.inr (.inr (some 2))]) (n' := 26) (pc' := 19) (lo' := [some (.inr (.inr (some 2))), some (.inr (.inr (some 100015)))]) (st' := []) (I := .invokevirtual 21) (pc0 := 16) (len := 3) rfl rfl rfl (e_cl_advance hX hp_12) ?_
      show WV _ _ _ 19 _ [] _ (cl_advance v) _
      have hX_13 : XI (cl_advance v) := i_cl_advance (v := v) hX hp_12
      have hb_14 : ((cl_advance v) 2 7) ≤ ((cl_advance v) 2 4) := n_cl_advance (v := v) hX hp_12
      refine r_ex 1 (pc' := 27) (lo' := [some (.inr (.inr (some 2))), some (.inr (.inr (some 100015)))]) (st' := []) rfl ?_
      refine r_ret (rr := none) (I := .return_) (pc0 := 27) (len := 1) rfl rfl ?_
      exact hQ hX_13 (show ((cl_advance v) 2 7) ≤ ((cl_advance v) 2 4) from (by first | assumption | omega | (unfold R32 at *; omega) | (unfold R64 at *; omega) | (simp only [R32, R64] at *; omega)))

theorem e_cl_word7 {X : PX} {d : Nat} {v : VS}  (hX : XI v) (hp_a : (v 2 7) ≤ (v 2 4)) : EvV X (d + 1 + 1 + 1 + 1 + 1) 26 [.inr (.inr (some 2)), .inr (.inr (some 100015))] 1 v none 1 (cl_word7 v) := EvV.of (w_cl_word7 hX hp_a (fun _ _ => ⟨rfl, rfl, rfl⟩))

theorem i_cl_word7 {v : VS}  (hX : XI v) (hp_a : (v 2 7) ≤ (v 2 4)) : XI (cl_word7 v) := by
  have q : WV (0, fun _ => 0, none) (0 + 1 + 1 + 1 + 1 + 1) 26 0 [some (.inr (.inr (some 2))), some (.inr (.inr (some 100015)))] [] 1 v (fun _ _ _ => XI (cl_word7 v)) := w_cl_word7 (X := (0, fun _ => 0, none)) (d := 0) hX hp_a (fun q _ => q)
  obtain ⟨_, _, _, _, _, _, _, q⟩ := q
  exact q

theorem n_cl_word7 {v : VS}  (hX : XI v) (hp_a : (v 2 7) ≤ (v 2 4)) : ((cl_word7 v) 2 7) ≤ ((cl_word7 v) 2 4) := by
  have q : WV (0, fun _ => 0, none) (0 + 1 + 1 + 1 + 1 + 1) 26 0 [some (.inr (.inr (some 2))), some (.inr (.inr (some 100015)))] [] 1 v (fun _ _ _ => ((cl_word7 v) 2 7) ≤ ((cl_word7 v) 2 4)) := w_cl_word7 (X := (0, fun _ => 0, none)) (d := 0) hX hp_a (fun _ q => q)
  obtain ⟨_, _, _, _, _, _, _, q⟩ := q
  exact q

theorem o_cl_word7 {rk : Nat} {v : VS}  (hk : (rk < 2 ∨ 2 < rk)) : (cl_word7 v ) rk = v rk := by
  unfold cl_word7
  by_cases hc_ : (v 2 1) = 0
  · rw [if_pos hc_]
    by_cases hc_ : (cl_isAt7 v) = 0
    · rw [if_pos hc_]
      all_goals (show (cl_fail v 1) rk = _)
      all_goals (rw [o_cl_fail (by omega)])
    · rw [if_neg hc_]
      all_goals (show (cl_advance v) rk = _)
      all_goals (rw [o_cl_advance (by omega)])
  · rw [if_neg hc_]
    all_goals (show (cl_fail v 1) rk = _)
    all_goals (rw [o_cl_fail (by omega)])

def cl_isAt8 (v : VS)  : Int :=
  (if (v 2 5) = 1 then (if 3 = ((v 2 7) - (v 2 6)) then (if (v 1 ((((v 2 6) + 0)).toNat)) = 101 then (if (v 1 ((((v 2 6) + 1)).toNat)) = 97 then (if (v 1 ((((v 2 6) + 2)).toNat)) = 114 then 1 else 0) else 0) else 0) else 0) else 0)
theorem w_cl_isAt8 {X : PX} {d : Nat} {v : VS}  (hX : XI v) (hp_a : (v 2 7) ≤ (v 2 4)) {Q : Option PV → Nat → VS → Prop} (hQ : (0 ≤ (cl_isAt8 v) ∧ (cl_isAt8 v) ≤ 1) → Q (some (.inl (cl_isAt8 v))) 1 v) : WV X (d + 1 + 1 + 1 + 1) 27 0 [some (.inr (.inr (some 2))), some (.inr (.inr (some 100017))), none] [] 1 v Q := by
  rw [cl_isAt8] at hQ
  have hz6 : 0 ≤ v 2 6 ∧ v 2 6 ≤ 2000 := hX 2 6
  have hz7 : 0 ≤ v 2 7 ∧ v 2 7 ≤ 2001 := hX 2 7
  have hz4 : 0 ≤ v 2 4 ∧ v 2 4 ≤ 2000 := hX 2 4
  refine r_ex 3 (pc' := 5) (lo' := [some (.inr (.inr (some 2))), some (.inr (.inr (some 100017))), none]) (st' := [.inl 1, .inl (v 2 5)]) rfl ?_
  have hb_1 : 0 ≤ (v 2 5) ∧ (v 2 5) ≤ 4 := hX 2 5
  refine n_ic_ne (pc0 := 5) (len := 3) (t := 24) rfl (by first | assumption | omega | (unfold R32 at *; omega) | (unfold R64 at *; omega) | (simp only [R32, R64] at *; omega)) (by first | assumption | omega | (unfold R32 at *; omega) | (unfold R64 at *; omega) | (simp only [R32, R64] at *; omega)) (fun h_5 => ?_) (fun h_5 => ?_)
  · show WV _ _ _ 24 _ _ _ _ _
    rw [if_neg h_5] at hQ
    refine r_ex 1 (pc' := 25) (lo' := [some (.inr (.inr (some 2))), some (.inr (.inr (some 100017))), none]) (st' := [.inl 0]) rfl ?_
    refine r_ret (rr := some (.inl 0)) (I := .ireturn) (pc0 := 25) (len := 1) rfl rfl ?_
    exact hQ (by first | assumption | omega | (unfold R32 at *; omega) | (unfold R64 at *; omega) | (simp only [R32, R64] at *; omega))
  · show WV _ _ _ 8 _ _ _ _ _
    rw [if_pos h_5] at hQ
    refine r_ex 1 (pc' := 9) (lo' := [some (.inr (.inr (some 2))), some (.inr (.inr (some 100017))), none]) (st' := [.inr (.inr (some 100017))]) rfl ?_
    refine r_call (rr := some (.inl 3)) (b' := 1) (v' := v) (m := 28) (args := [.inr (.inr (some 100017))]) (n' := 27) (pc' := 12) (lo' := [some (.inr (.inr (some 2))), some (.inr (.inr (some 100017))), none]) (st' := []) (I := .invokevirtual 28) (pc0 := 9) (len := 3) rfl rfl rfl ⟨60, rfl⟩ ?_
    show WV _ _ _ 12 _ [.inl 3] _ _ _
    refine r_ex 5 (pc' := 21) (lo' := [some (.inr (.inr (some 2))), some (.inr (.inr (some 100017))), none]) (st' := [.inl ((v 2 7) - (v 2 6)), .inl 3]) rfl ?_
    have hb_2 : 0 ≤ (v 2 7) ∧ (v 2 7) ≤ 2001 := hX 2 7
    have hb_3 : 0 ≤ (v 2 6) ∧ (v 2 6) ≤ 2000 := hX 2 6
    refine n_ic_eq (pc0 := 21) (len := 3) (t := 26) rfl (by first | assumption | omega | (unfold R32 at *; omega) | (unfold R64 at *; omega) | (simp only [R32, R64] at *; omega)) (by first | assumption | omega | (unfold R32 at *; omega) | (unfold R64 at *; omega) | (simp only [R32, R64] at *; omega)) (fun h_21 => ?_) (fun h_21 => ?_)
    · show WV _ _ _ 26 _ _ _ _ _
      rw [if_pos h_21] at hQ
      refine r_ex 4 (pc' := 30) (lo' := [some (.inr (.inr (some 2))), some (.inr (.inr (some 100017))), some (.inl 0)]) (st' := [.inr (.inr (some 100017)), .inl 0]) rfl ?_
      refine r_call (rr := some (.inl 3)) (b' := 1) (v' := v) (m := 28) (args := [.inr (.inr (some 100017))]) (n' := 27) (pc' := 33) (lo' := [some (.inr (.inr (some 2))), some (.inr (.inr (some 100017))), some (.inl 0)]) (st' := [.inl 0]) (I := .invokevirtual 28) (pc0 := 30) (len := 3) rfl rfl rfl ⟨60, rfl⟩ ?_
      show WV _ _ _ 33 _ [.inl 3, .inl 0] _ _ _
      refine r_ex 7 (pc' := 46) (lo' := [some (.inr (.inr (some 2))), some (.inr (.inr (some 100017))), some (.inl 0)]) (st' := [.inl ((v 2 6) + 0), .inr (.inr (some 1))]) rfl ?_
      refine r_bald2 (x := (v 1 ((((v 2 6) + 0)).toNat))) (pc' := 47) (pc0 := 46) (len := 1) rfl (s_1 _) (Or.inl rfl) (by first | assumption | omega | (unfold R32 at *; omega) | (unfold R64 at *; omega) | (simp only [R32, R64] at *; omega)) (by decide) rfl rfl ?_
      have hb_4 : -128 ≤ (v 1 ((((v 2 6) + 0)).toNat)) ∧ (v 1 ((((v 2 6) + 0)).toNat)) ≤ 127 := hX 1 ((((v 2 6) + 0)).toNat)
      refine r_ex 2 (pc' := 49) (lo' := [some (.inr (.inr (some 2))), some (.inr (.inr (some 100017))), some (.inl 0)]) (st' := [.inl 0, .inr (.inr (some 100017)), .inl (v 1 ((((v 2 6) + 0)).toNat))]) rfl ?_
      refine r_call (rr := some (.inl 101)) (b' := 1) (v' := v) (m := 30) (args := [.inr (.inr (some 100017)), .inl 0]) (n' := 27) (pc' := 52) (lo' := [some (.inr (.inr (some 2))), some (.inr (.inr (some 100017))), some (.inl 0)]) (st' := [.inl (v 1 ((((v 2 6) + 0)).toNat))]) (I := .invokevirtual 30) (pc0 := 49) (len := 3) rfl rfl rfl ⟨60, rfl⟩ ?_
      show WV _ _ _ 52 _ [.inl 101, .inl (v 1 ((((v 2 6) + 0)).toNat))] _ _ _
      refine n_ic_eq (pc0 := 52) (len := 3) (t := 57) rfl (by first | assumption | omega | (unfold R32 at *; omega) | (unfold R64 at *; omega) | (simp only [R32, R64] at *; omega)) (by first | assumption | omega | (unfold R32 at *; omega) | (unfold R64 at *; omega) | (simp only [R32, R64] at *; omega)) (fun h_52 => ?_) (fun h_52 => ?_)
      · show WV _ _ _ 57 _ _ _ _ _
        rw [if_pos h_52] at hQ
        refine r_ex 4 (pc' := 30) (lo' := [some (.inr (.inr (some 2))), some (.inr (.inr (some 100017))), some (.inl 1)]) (st' := [.inr (.inr (some 100017)), .inl 1]) rfl ?_
        refine r_call (rr := some (.inl 3)) (b' := 1) (v' := v) (m := 28) (args := [.inr (.inr (some 100017))]) (n' := 27) (pc' := 33) (lo' := [some (.inr (.inr (some 2))), some (.inr (.inr (some 100017))), some (.inl 1)]) (st' := [.inl 1]) (I := .invokevirtual 28) (pc0 := 30) (len := 3) rfl rfl rfl ⟨60, rfl⟩ ?_
        show WV _ _ _ 33 _ [.inl 3, .inl 1] _ _ _
        refine r_ex 7 (pc' := 46) (lo' := [some (.inr (.inr (some 2))), some (.inr (.inr (some 100017))), some (.inl 1)]) (st' := [.inl ((v 2 6) + 1), .inr (.inr (some 1))]) rfl ?_
        refine r_bald2 (x := (v 1 ((((v 2 6) + 1)).toNat))) (pc' := 47) (pc0 := 46) (len := 1) rfl (s_1 _) (Or.inl rfl) (by first | assumption | omega | (unfold R32 at *; omega) | (unfold R64 at *; omega) | (simp only [R32, R64] at *; omega)) (by decide) rfl rfl ?_
        have hb_5 : -128 ≤ (v 1 ((((v 2 6) + 1)).toNat)) ∧ (v 1 ((((v 2 6) + 1)).toNat)) ≤ 127 := hX 1 ((((v 2 6) + 1)).toNat)
        refine r_ex 2 (pc' := 49) (lo' := [some (.inr (.inr (some 2))), some (.inr (.inr (some 100017))), some (.inl 1)]) (st' := [.inl 1, .inr (.inr (some 100017)), .inl (v 1 ((((v 2 6) + 1)).toNat))]) rfl ?_
        refine r_call (rr := some (.inl 97)) (b' := 1) (v' := v) (m := 30) (args := [.inr (.inr (some 100017)), .inl 1]) (n' := 27) (pc' := 52) (lo' := [some (.inr (.inr (some 2))), some (.inr (.inr (some 100017))), some (.inl 1)]) (st' := [.inl (v 1 ((((v 2 6) + 1)).toNat))]) (I := .invokevirtual 30) (pc0 := 49) (len := 3) rfl rfl rfl ⟨60, rfl⟩ ?_
        show WV _ _ _ 52 _ [.inl 97, .inl (v 1 ((((v 2 6) + 1)).toNat))] _ _ _
        refine n_ic_eq (pc0 := 52) (len := 3) (t := 57) rfl (by first | assumption | omega | (unfold R32 at *; omega) | (unfold R64 at *; omega) | (simp only [R32, R64] at *; omega)) (by first | assumption | omega | (unfold R32 at *; omega) | (unfold R64 at *; omega) | (simp only [R32, R64] at *; omega)) (fun h_52 => ?_) (fun h_52 => ?_)
        · show WV _ _ _ 57 _ _ _ _ _
          rw [if_pos h_52] at hQ
          refine r_ex 4 (pc' := 30) (lo' := [some (.inr (.inr (some 2))), some (.inr (.inr (some 100017))), some (.inl 2)]) (st' := [.inr (.inr (some 100017)), .inl 2]) rfl ?_
          refine r_call (rr := some (.inl 3)) (b' := 1) (v' := v) (m := 28) (args := [.inr (.inr (some 100017))]) (n' := 27) (pc' := 33) (lo' := [some (.inr (.inr (some 2))), some (.inr (.inr (some 100017))), some (.inl 2)]) (st' := [.inl 2]) (I := .invokevirtual 28) (pc0 := 30) (len := 3) rfl rfl rfl ⟨60, rfl⟩ ?_
          show WV _ _ _ 33 _ [.inl 3, .inl 2] _ _ _
          refine r_ex 7 (pc' := 46) (lo' := [some (.inr (.inr (some 2))), some (.inr (.inr (some 100017))), some (.inl 2)]) (st' := [.inl ((v 2 6) + 2), .inr (.inr (some 1))]) rfl ?_
          refine r_bald2 (x := (v 1 ((((v 2 6) + 2)).toNat))) (pc' := 47) (pc0 := 46) (len := 1) rfl (s_1 _) (Or.inl rfl) (by first | assumption | omega | (unfold R32 at *; omega) | (unfold R64 at *; omega) | (simp only [R32, R64] at *; omega)) (by decide) rfl rfl ?_
          have hb_6 : -128 ≤ (v 1 ((((v 2 6) + 2)).toNat)) ∧ (v 1 ((((v 2 6) + 2)).toNat)) ≤ 127 := hX 1 ((((v 2 6) + 2)).toNat)
          refine r_ex 2 (pc' := 49) (lo' := [some (.inr (.inr (some 2))), some (.inr (.inr (some 100017))), some (.inl 2)]) (st' := [.inl 2, .inr (.inr (some 100017)), .inl (v 1 ((((v 2 6) + 2)).toNat))]) rfl ?_
          refine r_call (rr := some (.inl 114)) (b' := 1) (v' := v) (m := 30) (args := [.inr (.inr (some 100017)), .inl 2]) (n' := 27) (pc' := 52) (lo' := [some (.inr (.inr (some 2))), some (.inr (.inr (some 100017))), some (.inl 2)]) (st' := [.inl (v 1 ((((v 2 6) + 2)).toNat))]) (I := .invokevirtual 30) (pc0 := 49) (len := 3) rfl rfl rfl ⟨60, rfl⟩ ?_
          show WV _ _ _ 52 _ [.inl 114, .inl (v 1 ((((v 2 6) + 2)).toNat))] _ _ _
          refine n_ic_eq (pc0 := 52) (len := 3) (t := 57) rfl (by first | assumption | omega | (unfold R32 at *; omega) | (unfold R64 at *; omega) | (simp only [R32, R64] at *; omega)) (by first | assumption | omega | (unfold R32 at *; omega) | (unfold R64 at *; omega) | (simp only [R32, R64] at *; omega)) (fun h_52 => ?_) (fun h_52 => ?_)
          · show WV _ _ _ 57 _ _ _ _ _
            rw [if_pos h_52] at hQ
            refine r_ex 4 (pc' := 30) (lo' := [some (.inr (.inr (some 2))), some (.inr (.inr (some 100017))), some (.inl 3)]) (st' := [.inr (.inr (some 100017)), .inl 3]) rfl ?_
            refine r_call (rr := some (.inl 3)) (b' := 1) (v' := v) (m := 28) (args := [.inr (.inr (some 100017))]) (n' := 27) (pc' := 33) (lo' := [some (.inr (.inr (some 2))), some (.inr (.inr (some 100017))), some (.inl 3)]) (st' := [.inl 3]) (I := .invokevirtual 28) (pc0 := 30) (len := 3) rfl rfl rfl ⟨60, rfl⟩ ?_
            show WV _ _ _ 33 _ [.inl 3, .inl 3] _ _ _
            refine r_ex 2 (pc' := 64) (lo' := [some (.inr (.inr (some 2))), some (.inr (.inr (some 100017))), some (.inl 3)]) (st' := [.inl 1]) rfl ?_
            refine r_ret (rr := some (.inl 1)) (I := .ireturn) (pc0 := 64) (len := 1) rfl rfl ?_
            exact hQ (by first | assumption | omega | (unfold R32 at *; omega) | (unfold R64 at *; omega) | (simp only [R32, R64] at *; omega))
          · show WV _ _ _ 55 _ _ _ _ _
            rw [if_neg h_52] at hQ
            refine r_ex 1 (pc' := 56) (lo' := [some (.inr (.inr (some 2))), some (.inr (.inr (some 100017))), some (.inl 2)]) (st' := [.inl 0]) rfl ?_
            refine r_ret (rr := some (.inl 0)) (I := .ireturn) (pc0 := 56) (len := 1) rfl rfl ?_
            exact hQ (by first | assumption | omega | (unfold R32 at *; omega) | (unfold R64 at *; omega) | (simp only [R32, R64] at *; omega))
        · show WV _ _ _ 55 _ _ _ _ _
          rw [if_neg h_52] at hQ
          refine r_ex 1 (pc' := 56) (lo' := [some (.inr (.inr (some 2))), some (.inr (.inr (some 100017))), some (.inl 1)]) (st' := [.inl 0]) rfl ?_
          refine r_ret (rr := some (.inl 0)) (I := .ireturn) (pc0 := 56) (len := 1) rfl rfl ?_
          exact hQ (by first | assumption | omega | (unfold R32 at *; omega) | (unfold R64 at *; omega) | (simp only [R32, R64] at *; omega))
      · show WV _ _ _ 55 _ _ _ _ _
        rw [if_neg h_52] at hQ
        refine r_ex 1 (pc' := 56) (lo' := [some (.inr (.inr (some 2))), some (.inr (.inr (some 100017))), some (.inl 0)]) (st' := [.inl 0]) rfl ?_
        refine r_ret (rr := some (.inl 0)) (I := .ireturn) (pc0 := 56) (len := 1) rfl rfl ?_
        exact hQ (by first | assumption | omega | (unfold R32 at *; omega) | (unfold R64 at *; omega) | (simp only [R32, R64] at *; omega))
    · show WV _ _ _ 24 _ _ _ _ _
      rw [if_neg h_21] at hQ
      refine r_ex 1 (pc' := 25) (lo' := [some (.inr (.inr (some 2))), some (.inr (.inr (some 100017))), none]) (st' := [.inl 0]) rfl ?_
      refine r_ret (rr := some (.inl 0)) (I := .ireturn) (pc0 := 25) (len := 1) rfl rfl ?_
      exact hQ (by first | assumption | omega | (unfold R32 at *; omega) | (unfold R64 at *; omega) | (simp only [R32, R64] at *; omega))

theorem e_cl_isAt8 {X : PX} {d : Nat} {v : VS}  (hX : XI v) (hp_a : (v 2 7) ≤ (v 2 4)) : EvV X (d + 1 + 1 + 1 + 1) 27 [.inr (.inr (some 2)), .inr (.inr (some 100017))] 1 v (some (.inl (cl_isAt8 v))) 1 v := EvV.of (w_cl_isAt8 hX hp_a (fun _ => ⟨rfl, rfl, rfl⟩))

theorem n_cl_isAt8 {v : VS}  (hX : XI v) (hp_a : (v 2 7) ≤ (v 2 4)) : 0 ≤ (cl_isAt8 v) ∧ (cl_isAt8 v) ≤ 1 := by
  have q : WV (0, fun _ => 0, none) (0 + 1 + 1 + 1 + 1) 27 0 [some (.inr (.inr (some 2))), some (.inr (.inr (some 100017))), none] [] 1 v (fun _ _ _ => 0 ≤ (cl_isAt8 v) ∧ (cl_isAt8 v) ≤ 1) := w_cl_isAt8 (X := (0, fun _ => 0, none)) (d := 0) hX hp_a (fun q => q)
  obtain ⟨_, _, _, _, _, _, _, q⟩ := q
  exact q

def cl_isAt9 (v : VS)  : Int :=
  (if (v 2 5) = 1 then (if 2 = ((v 2 7) - (v 2 6)) then (if (v 1 ((((v 2 6) + 0)).toNat)) = 111 then (if (v 1 ((((v 2 6) + 1)).toNat)) = 102 then 1 else 0) else 0) else 0) else 0)
theorem w_cl_isAt9 {X : PX} {d : Nat} {v : VS}  (hX : XI v) (hp_a : (v 2 7) ≤ (v 2 4)) {Q : Option PV → Nat → VS → Prop} (hQ : (0 ≤ (cl_isAt9 v) ∧ (cl_isAt9 v) ≤ 1) → Q (some (.inl (cl_isAt9 v))) 1 v) : WV X (d + 1 + 1 + 1 + 1) 27 0 [some (.inr (.inr (some 2))), some (.inr (.inr (some 100019))), none] [] 1 v Q := by
  rw [cl_isAt9] at hQ
  have hz6 : 0 ≤ v 2 6 ∧ v 2 6 ≤ 2000 := hX 2 6
  have hz7 : 0 ≤ v 2 7 ∧ v 2 7 ≤ 2001 := hX 2 7
  have hz4 : 0 ≤ v 2 4 ∧ v 2 4 ≤ 2000 := hX 2 4
  refine r_ex 3 (pc' := 5) (lo' := [some (.inr (.inr (some 2))), some (.inr (.inr (some 100019))), none]) (st' := [.inl 1, .inl (v 2 5)]) rfl ?_
  have hb_1 : 0 ≤ (v 2 5) ∧ (v 2 5) ≤ 4 := hX 2 5
  refine n_ic_ne (pc0 := 5) (len := 3) (t := 24) rfl (by first | assumption | omega | (unfold R32 at *; omega) | (unfold R64 at *; omega) | (simp only [R32, R64] at *; omega)) (by first | assumption | omega | (unfold R32 at *; omega) | (unfold R64 at *; omega) | (simp only [R32, R64] at *; omega)) (fun h_5 => ?_) (fun h_5 => ?_)
  · show WV _ _ _ 24 _ _ _ _ _
    rw [if_neg h_5] at hQ
    refine r_ex 1 (pc' := 25) (lo' := [some (.inr (.inr (some 2))), some (.inr (.inr (some 100019))), none]) (st' := [.inl 0]) rfl ?_
    refine r_ret (rr := some (.inl 0)) (I := .ireturn) (pc0 := 25) (len := 1) rfl rfl ?_
    exact hQ (by first | assumption | omega | (unfold R32 at *; omega) | (unfold R64 at *; omega) | (simp only [R32, R64] at *; omega))
  · show WV _ _ _ 8 _ _ _ _ _
    rw [if_pos h_5] at hQ
    refine r_ex 1 (pc' := 9) (lo' := [some (.inr (.inr (some 2))), some (.inr (.inr (some 100019))), none]) (st' := [.inr (.inr (some 100019))]) rfl ?_
    refine r_call (rr := some (.inl 2)) (b' := 1) (v' := v) (m := 28) (args := [.inr (.inr (some 100019))]) (n' := 27) (pc' := 12) (lo' := [some (.inr (.inr (some 2))), some (.inr (.inr (some 100019))), none]) (st' := []) (I := .invokevirtual 28) (pc0 := 9) (len := 3) rfl rfl rfl ⟨60, rfl⟩ ?_
    show WV _ _ _ 12 _ [.inl 2] _ _ _
    refine r_ex 5 (pc' := 21) (lo' := [some (.inr (.inr (some 2))), some (.inr (.inr (some 100019))), none]) (st' := [.inl ((v 2 7) - (v 2 6)), .inl 2]) rfl ?_
    have hb_2 : 0 ≤ (v 2 7) ∧ (v 2 7) ≤ 2001 := hX 2 7
    have hb_3 : 0 ≤ (v 2 6) ∧ (v 2 6) ≤ 2000 := hX 2 6
    refine n_ic_eq (pc0 := 21) (len := 3) (t := 26) rfl (by first | assumption | omega | (unfold R32 at *; omega) | (unfold R64 at *; omega) | (simp only [R32, R64] at *; omega)) (by first | assumption | omega | (unfold R32 at *; omega) | (unfold R64 at *; omega) | (simp only [R32, R64] at *; omega)) (fun h_21 => ?_) (fun h_21 => ?_)
    · show WV _ _ _ 26 _ _ _ _ _
      rw [if_pos h_21] at hQ
      refine r_ex 4 (pc' := 30) (lo' := [some (.inr (.inr (some 2))), some (.inr (.inr (some 100019))), some (.inl 0)]) (st' := [.inr (.inr (some 100019)), .inl 0]) rfl ?_
      refine r_call (rr := some (.inl 2)) (b' := 1) (v' := v) (m := 28) (args := [.inr (.inr (some 100019))]) (n' := 27) (pc' := 33) (lo' := [some (.inr (.inr (some 2))), some (.inr (.inr (some 100019))), some (.inl 0)]) (st' := [.inl 0]) (I := .invokevirtual 28) (pc0 := 30) (len := 3) rfl rfl rfl ⟨60, rfl⟩ ?_
      show WV _ _ _ 33 _ [.inl 2, .inl 0] _ _ _
      refine r_ex 7 (pc' := 46) (lo' := [some (.inr (.inr (some 2))), some (.inr (.inr (some 100019))), some (.inl 0)]) (st' := [.inl ((v 2 6) + 0), .inr (.inr (some 1))]) rfl ?_
      refine r_bald2 (x := (v 1 ((((v 2 6) + 0)).toNat))) (pc' := 47) (pc0 := 46) (len := 1) rfl (s_1 _) (Or.inl rfl) (by first | assumption | omega | (unfold R32 at *; omega) | (unfold R64 at *; omega) | (simp only [R32, R64] at *; omega)) (by decide) rfl rfl ?_
      have hb_4 : -128 ≤ (v 1 ((((v 2 6) + 0)).toNat)) ∧ (v 1 ((((v 2 6) + 0)).toNat)) ≤ 127 := hX 1 ((((v 2 6) + 0)).toNat)
      refine r_ex 2 (pc' := 49) (lo' := [some (.inr (.inr (some 2))), some (.inr (.inr (some 100019))), some (.inl 0)]) (st' := [.inl 0, .inr (.inr (some 100019)), .inl (v 1 ((((v 2 6) + 0)).toNat))]) rfl ?_
      refine r_call (rr := some (.inl 111)) (b' := 1) (v' := v) (m := 30) (args := [.inr (.inr (some 100019)), .inl 0]) (n' := 27) (pc' := 52) (lo' := [some (.inr (.inr (some 2))), some (.inr (.inr (some 100019))), some (.inl 0)]) (st' := [.inl (v 1 ((((v 2 6) + 0)).toNat))]) (I := .invokevirtual 30) (pc0 := 49) (len := 3) rfl rfl rfl ⟨60, rfl⟩ ?_
      show WV _ _ _ 52 _ [.inl 111, .inl (v 1 ((((v 2 6) + 0)).toNat))] _ _ _
      refine n_ic_eq (pc0 := 52) (len := 3) (t := 57) rfl (by first | assumption | omega | (unfold R32 at *; omega) | (unfold R64 at *; omega) | (simp only [R32, R64] at *; omega)) (by first | assumption | omega | (unfold R32 at *; omega) | (unfold R64 at *; omega) | (simp only [R32, R64] at *; omega)) (fun h_52 => ?_) (fun h_52 => ?_)
      · show WV _ _ _ 57 _ _ _ _ _
        rw [if_pos h_52] at hQ
        refine r_ex 4 (pc' := 30) (lo' := [some (.inr (.inr (some 2))), some (.inr (.inr (some 100019))), some (.inl 1)]) (st' := [.inr (.inr (some 100019)), .inl 1]) rfl ?_
        refine r_call (rr := some (.inl 2)) (b' := 1) (v' := v) (m := 28) (args := [.inr (.inr (some 100019))]) (n' := 27) (pc' := 33) (lo' := [some (.inr (.inr (some 2))), some (.inr (.inr (some 100019))), some (.inl 1)]) (st' := [.inl 1]) (I := .invokevirtual 28) (pc0 := 30) (len := 3) rfl rfl rfl ⟨60, rfl⟩ ?_
        show WV _ _ _ 33 _ [.inl 2, .inl 1] _ _ _
        refine r_ex 7 (pc' := 46) (lo' := [some (.inr (.inr (some 2))), some (.inr (.inr (some 100019))), some (.inl 1)]) (st' := [.inl ((v 2 6) + 1), .inr (.inr (some 1))]) rfl ?_
        refine r_bald2 (x := (v 1 ((((v 2 6) + 1)).toNat))) (pc' := 47) (pc0 := 46) (len := 1) rfl (s_1 _) (Or.inl rfl) (by first | assumption | omega | (unfold R32 at *; omega) | (unfold R64 at *; omega) | (simp only [R32, R64] at *; omega)) (by decide) rfl rfl ?_
        have hb_5 : -128 ≤ (v 1 ((((v 2 6) + 1)).toNat)) ∧ (v 1 ((((v 2 6) + 1)).toNat)) ≤ 127 := hX 1 ((((v 2 6) + 1)).toNat)
        refine r_ex 2 (pc' := 49) (lo' := [some (.inr (.inr (some 2))), some (.inr (.inr (some 100019))), some (.inl 1)]) (st' := [.inl 1, .inr (.inr (some 100019)), .inl (v 1 ((((v 2 6) + 1)).toNat))]) rfl ?_
        refine r_call (rr := some (.inl 102)) (b' := 1) (v' := v) (m := 30) (args := [.inr (.inr (some 100019)), .inl 1]) (n' := 27) (pc' := 52) (lo' := [some (.inr (.inr (some 2))), some (.inr (.inr (some 100019))), some (.inl 1)]) (st' := [.inl (v 1 ((((v 2 6) + 1)).toNat))]) (I := .invokevirtual 30) (pc0 := 49) (len := 3) rfl rfl rfl ⟨60, rfl⟩ ?_
        show WV _ _ _ 52 _ [.inl 102, .inl (v 1 ((((v 2 6) + 1)).toNat))] _ _ _
        refine n_ic_eq (pc0 := 52) (len := 3) (t := 57) rfl (by first | assumption | omega | (unfold R32 at *; omega) | (unfold R64 at *; omega) | (simp only [R32, R64] at *; omega)) (by first | assumption | omega | (unfold R32 at *; omega) | (unfold R64 at *; omega) | (simp only [R32, R64] at *; omega)) (fun h_52 => ?_) (fun h_52 => ?_)
        · show WV _ _ _ 57 _ _ _ _ _
          rw [if_pos h_52] at hQ
          refine r_ex 4 (pc' := 30) (lo' := [some (.inr (.inr (some 2))), some (.inr (.inr (some 100019))), some (.inl 2)]) (st' := [.inr (.inr (some 100019)), .inl 2]) rfl ?_
          refine r_call (rr := some (.inl 2)) (b' := 1) (v' := v) (m := 28) (args := [.inr (.inr (some 100019))]) (n' := 27) (pc' := 33) (lo' := [some (.inr (.inr (some 2))), some (.inr (.inr (some 100019))), some (.inl 2)]) (st' := [.inl 2]) (I := .invokevirtual 28) (pc0 := 30) (len := 3) rfl rfl rfl ⟨60, rfl⟩ ?_
          show WV _ _ _ 33 _ [.inl 2, .inl 2] _ _ _
          refine r_ex 2 (pc' := 64) (lo' := [some (.inr (.inr (some 2))), some (.inr (.inr (some 100019))), some (.inl 2)]) (st' := [.inl 1]) rfl ?_
          refine r_ret (rr := some (.inl 1)) (I := .ireturn) (pc0 := 64) (len := 1) rfl rfl ?_
          exact hQ (by first | assumption | omega | (unfold R32 at *; omega) | (unfold R64 at *; omega) | (simp only [R32, R64] at *; omega))
        · show WV _ _ _ 55 _ _ _ _ _
          rw [if_neg h_52] at hQ
          refine r_ex 1 (pc' := 56) (lo' := [some (.inr (.inr (some 2))), some (.inr (.inr (some 100019))), some (.inl 1)]) (st' := [.inl 0]) rfl ?_
          refine r_ret (rr := some (.inl 0)) (I := .ireturn) (pc0 := 56) (len := 1) rfl rfl ?_
          exact hQ (by first | assumption | omega | (unfold R32 at *; omega) | (unfold R64 at *; omega) | (simp only [R32, R64] at *; omega))
      · show WV _ _ _ 55 _ _ _ _ _
        rw [if_neg h_52] at hQ
        refine r_ex 1 (pc' := 56) (lo' := [some (.inr (.inr (some 2))), some (.inr (.inr (some 100019))), some (.inl 0)]) (st' := [.inl 0]) rfl ?_
        refine r_ret (rr := some (.inl 0)) (I := .ireturn) (pc0 := 56) (len := 1) rfl rfl ?_
        exact hQ (by first | assumption | omega | (unfold R32 at *; omega) | (unfold R64 at *; omega) | (simp only [R32, R64] at *; omega))
    · show WV _ _ _ 24 _ _ _ _ _
      rw [if_neg h_21] at hQ
      refine r_ex 1 (pc' := 25) (lo' := [some (.inr (.inr (some 2))), some (.inr (.inr (some 100019))), none]) (st' := [.inl 0]) rfl ?_
      refine r_ret (rr := some (.inl 0)) (I := .ireturn) (pc0 := 25) (len := 1) rfl rfl ?_
      exact hQ (by first | assumption | omega | (unfold R32 at *; omega) | (unfold R64 at *; omega) | (simp only [R32, R64] at *; omega))

theorem e_cl_isAt9 {X : PX} {d : Nat} {v : VS}  (hX : XI v) (hp_a : (v 2 7) ≤ (v 2 4)) : EvV X (d + 1 + 1 + 1 + 1) 27 [.inr (.inr (some 2)), .inr (.inr (some 100019))] 1 v (some (.inl (cl_isAt9 v))) 1 v := EvV.of (w_cl_isAt9 hX hp_a (fun _ => ⟨rfl, rfl, rfl⟩))

theorem n_cl_isAt9 {v : VS}  (hX : XI v) (hp_a : (v 2 7) ≤ (v 2 4)) : 0 ≤ (cl_isAt9 v) ∧ (cl_isAt9 v) ≤ 1 := by
  have q : WV (0, fun _ => 0, none) (0 + 1 + 1 + 1 + 1) 27 0 [some (.inr (.inr (some 2))), some (.inr (.inr (some 100019))), none] [] 1 v (fun _ _ _ => 0 ≤ (cl_isAt9 v) ∧ (cl_isAt9 v) ≤ 1) := w_cl_isAt9 (X := (0, fun _ => 0, none)) (d := 0) hX hp_a (fun q => q)
  obtain ⟨_, _, _, _, _, _, _, q⟩ := q
  exact q

def cl_word9 (v : VS)  : VS :=
  (if (v 2 1) = 0 then (if (cl_isAt9 v) = 0 then (cl_fail v 1) else (cl_advance v)) else (cl_fail v 1))
theorem w_cl_word9 {X : PX} {d : Nat} {v : VS}  (hX : XI v) (hp_a : (v 2 7) ≤ (v 2 4)) {Q : Option PV → Nat → VS → Prop} (hQ : XI (cl_word9 v) → (((cl_word9 v) 2 7) ≤ ((cl_word9 v) 2 4)) → Q none 1 (cl_word9 v)) : WV X (d + 1 + 1 + 1 + 1 + 1) 26 0 [some (.inr (.inr (some 2))), some (.inr (.inr (some 100019)))] [] 1 v Q := by
  rw [cl_word9] at hQ
  refine r_ex 2 (pc' := 4) (lo' := [some (.inr (.inr (some 2))), some (.inr (.inr (some 100019)))]) (st' := [.inl (v 2 1)]) rfl ?_
  have hb_1 : 0 ≤ (v 2 1) ∧ (v 2 1) ≤ 3 := hX 2 1
  refine n_if_ne (pc0 := 4) (len := 3) (t := 22) rfl (by first | assumption | omega | (unfold R32 at *; omega) | (unfold R64 at *; omega) | (simp only [R32, R64] at *; omega)) (fun h_4 => ?_) (fun h_4 => ?_)
  · show WV _ _ _ 22 _ _ _ _ _
    rw [if_neg h_4] at hQ
    refine r_ex 2 (pc' := 24) (lo' := [some (.inr (.inr (some 2))), some (.inr (.inr (some 100019)))]) (st' := [.inl 1, .inr (.inr (some 2))]) rfl ?_
    have hp_2 : 1 ≤ (1 : Int) ∧ (1 : Int) ≤ 3 := (by first | assumption | omega | (unfold R32 at *; omega) | (unfold R64 at *; omega) | (simp only [R32, R64] at *; omega))
    have hp_3 : (v 2 7) ≤ (v 2 4) := (show (v 2 7) ≤ (v 2 4) from (by first | assumption | omega | (unfold R32 at *; omega) | (unfold R64 at *; omega) | (simp only [R32, R64] at *; omega)))
    refine r_call (m := 39) (args := [.inr (.inr (some 2)), .inl 1]) (n' := 26) (pc' := 27) (lo' := [some (.inr (.inr (some 2))), some (.inr (.inr (some 100019)))]) (st' := []) (I := .invokevirtual 39) (pc0 := 24) (len := 3) rfl rfl rfl (e_cl_fail hX hp_2 hp_3) ?_
    show WV _ _ _ 27 _ [] _ (cl_fail v 1) _
    have hX_4 : XI (cl_fail v 1) := i_cl_fail (v := v) (k := 1) hX hp_2 hp_3
    have hb_5 : ((cl_fail v 1) 2 7) ≤ ((cl_fail v 1) 2 4) := n_cl_fail (v := v) (k := 1) hX hp_2 hp_3
    refine r_ret (rr := none) (I := .return_) (pc0 := 27) (len := 1) rfl rfl ?_
    exact hQ hX_4 (show ((cl_fail v 1) 2 7) ≤ ((cl_fail v 1) 2 4) from (by first | assumption | omega | (unfold R32 at *; omega) | (unfold R64 at *; omega) | (simp only [R32, R64] at *; omega)))
  · show WV _ _ _ 7 _ _ _ _ _
    rw [if_pos h_4] at hQ
    refine r_ex 2 (pc' := 9) (lo' := [some (.inr (.inr (some 2))), some (.inr (.inr (some 100019)))]) (st' := [.inr (.inr (some 100019)), .inr (.inr (some 2))]) rfl ?_
    have hp_6 : (v 2 7) ≤ (v 2 4) := (show (v 2 7) ≤ (v 2 4) from (by first | assumption | omega | (unfold R32 at *; omega) | (unfold R64 at *; omega) | (simp only [R32, R64] at *; omega)))
    refine r_call (m := 27) (args := [.inr (.inr (some 2)), .inr (.inr (some 100019))]) (n' := 26) (pc' := 12) (lo' := [some (.inr (.inr (some 2))), some (.inr (.inr (some 100019)))]) (st' := []) (I := .invokevirtual 27) (pc0 := 9) (len := 3) rfl rfl rfl (e_cl_isAt9 hX hp_6) ?_
    show WV _ _ _ 12 _ [.inl (cl_isAt9 v)] _ _ _
    have hb_7 := n_cl_isAt9 (v := v) hX hp_6
    refine n_if_eq (pc0 := 12) (len := 3) (t := 22) rfl (by first | assumption | omega | (unfold R32 at *; omega) | (unfold R64 at *; omega) | (simp only [R32, R64] at *; omega)) (fun h_12 => ?_) (fun h_12 => ?_)
    · show WV _ _ _ 22 _ _ _ _ _
      rw [if_pos h_12] at hQ
      refine r_ex 2 (pc' := 24) (lo' := [some (.inr (.inr (some 2))), some (.inr (.inr (some 100019)))]) (st' := [.inl 1, .inr (.inr (some 2))]) rfl ?_
      have hp_8 : 1 ≤ (1 : Int) ∧ (1 : Int) ≤ 3 := (by first | assumption | omega | (unfold R32 at *; omega) | (unfold R64 at *; omega) | (simp only [R32, R64] at *; omega))
      have hp_9 : (v 2 7) ≤ (v 2 4) := (show (v 2 7) ≤ (v 2 4) from (by first | assumption | omega | (unfold R32 at *; omega) | (unfold R64 at *; omega) | (simp only [R32, R64] at *; omega)))
      refine r_call (m := 39) (args := [.inr (.inr (some 2)), .inl 1]) (n' := 26) (pc' := 27) (lo' := [some (.inr (.inr (some 2))), some (.inr (.inr (some 100019)))]) (st' := []) (I := .invokevirtual 39) (pc0 := 24) (len := 3) rfl rfl rfl (e_cl_fail hX hp_8 hp_9) ?_
      show WV _ _ _ 27 _ [] _ (cl_fail v 1) _
      have hX_10 : XI (cl_fail v 1) := i_cl_fail (v := v) (k := 1) hX hp_8 hp_9
      have hb_11 : ((cl_fail v 1) 2 7) ≤ ((cl_fail v 1) 2 4) := n_cl_fail (v := v) (k := 1) hX hp_8 hp_9
      refine r_ret (rr := none) (I := .return_) (pc0 := 27) (len := 1) rfl rfl ?_
      exact hQ hX_10 (show ((cl_fail v 1) 2 7) ≤ ((cl_fail v 1) 2 4) from (by first | assumption | omega | (unfold R32 at *; omega) | (unfold R64 at *; omega) | (simp only [R32, R64] at *; omega)))
    · show WV _ _ _ 15 _ _ _ _ _
      rw [if_neg h_12] at hQ
      refine r_ex 1 (pc' := 16) (lo' := [some (.inr (.inr (some 2))), some (.inr (.inr (some 100019)))]) (st' := [.inr (.inr (some 2))]) rfl ?_
      have hp_12 : (v 2 7) ≤ (v 2 4) := (show (v 2 7) ≤ (v 2 4) from (by first | assumption | omega | (unfold R32 at *; omega) | (unfold R64 at *; omega) | (simp only [R32, R64] at *; omega)))
      refine r_call (m := 21) (args := [.inr (.inr (some 2))]) (n' := 26) (pc' := 19) (lo' := [some (.inr (.inr (some 2))), some (.inr (.inr (some 100019)))]) (st' := []) (I := .invokevirtual 21) (pc0 := 16) (len := 3) rfl rfl rfl (e_cl_advance hX hp_12) ?_
      show WV _ _ _ 19 _ [] _ (cl_advance v) _
      have hX_13 : XI (cl_advance v) := i_cl_advance (v := v) hX hp_12
      have hb_14 : ((cl_advance v) 2 7) ≤ ((cl_advance v) 2 4) := n_cl_advance (v := v) hX hp_12
      refine r_ex 1 (pc' := 27) (lo' := [some (.inr (.inr (some 2))), some (.inr (.inr (some 100019)))]) (st' := []) rfl ?_
      refine r_ret (rr := none) (I := .return_) (pc0 := 27) (len := 1) rfl rfl ?_
      exact hQ hX_13 (show ((cl_advance v) 2 7) ≤ ((cl_advance v) 2 4) from (by first | assumption | omega | (unfold R32 at *; omega) | (unfold R64 at *; omega) | (simp only [R32, R64] at *; omega)))

theorem e_cl_word9 {X : PX} {d : Nat} {v : VS}  (hX : XI v) (hp_a : (v 2 7) ≤ (v 2 4)) : EvV X (d + 1 + 1 + 1 + 1 + 1) 26 [.inr (.inr (some 2)), .inr (.inr (some 100019))] 1 v none 1 (cl_word9 v) := EvV.of (w_cl_word9 hX hp_a (fun _ _ => ⟨rfl, rfl, rfl⟩))

theorem i_cl_word9 {v : VS}  (hX : XI v) (hp_a : (v 2 7) ≤ (v 2 4)) : XI (cl_word9 v) := by
  have q : WV (0, fun _ => 0, none) (0 + 1 + 1 + 1 + 1 + 1) 26 0 [some (.inr (.inr (some 2))), some (.inr (.inr (some 100019)))] [] 1 v (fun _ _ _ => XI (cl_word9 v)) := w_cl_word9 (X := (0, fun _ => 0, none)) (d := 0) hX hp_a (fun q _ => q)
  obtain ⟨_, _, _, _, _, _, _, q⟩ := q
  exact q

theorem n_cl_word9 {v : VS}  (hX : XI v) (hp_a : (v 2 7) ≤ (v 2 4)) : ((cl_word9 v) 2 7) ≤ ((cl_word9 v) 2 4) := by
  have q : WV (0, fun _ => 0, none) (0 + 1 + 1 + 1 + 1 + 1) 26 0 [some (.inr (.inr (some 2))), some (.inr (.inr (some 100019)))] [] 1 v (fun _ _ _ => ((cl_word9 v) 2 7) ≤ ((cl_word9 v) 2 4)) := w_cl_word9 (X := (0, fun _ => 0, none)) (d := 0) hX hp_a (fun _ q => q)
  obtain ⟨_, _, _, _, _, _, _, q⟩ := q
  exact q

theorem o_cl_word9 {rk : Nat} {v : VS}  (hk : (rk < 2 ∨ 2 < rk)) : (cl_word9 v ) rk = v rk := by
  unfold cl_word9
  by_cases hc_ : (v 2 1) = 0
  · rw [if_pos hc_]
    by_cases hc_ : (cl_isAt9 v) = 0
    · rw [if_pos hc_]
      all_goals (show (cl_fail v 1) rk = _)
      all_goals (rw [o_cl_fail (by omega)])
    · rw [if_neg hc_]
      all_goals (show (cl_advance v) rk = _)
      all_goals (rw [o_cl_advance (by omega)])
  · rw [if_neg hc_]
    all_goals (show (cl_fail v 1) rk = _)
    all_goals (rw [o_cl_fail (by omega)])

def cl_isAt10 (v : VS)  : Int :=
  (if (v 2 5) = 1 then (if 5 = ((v 2 7) - (v 2 6)) then (if (v 1 ((((v 2 6) + 0)).toNat)) = 116 then (if (v 1 ((((v 2 6) + 1)).toNat)) = 97 then (if (v 1 ((((v 2 6) + 2)).toNat)) = 107 then (if (v 1 ((((v 2 6) + 3)).toNat)) = 101 then (if (v 1 ((((v 2 6) + 4)).toNat)) = 115 then 1 else 0) else 0) else 0) else 0) else 0) else 0) else 0)
theorem w_cl_isAt10 {X : PX} {d : Nat} {v : VS}  (hX : XI v) (hp_a : (v 2 7) ≤ (v 2 4)) {Q : Option PV → Nat → VS → Prop} (hQ : (0 ≤ (cl_isAt10 v) ∧ (cl_isAt10 v) ≤ 1) → Q (some (.inl (cl_isAt10 v))) 1 v) : WV X (d + 1 + 1 + 1 + 1) 27 0 [some (.inr (.inr (some 2))), some (.inr (.inr (some 100021))), none] [] 1 v Q := by
  rw [cl_isAt10] at hQ
  have hz6 : 0 ≤ v 2 6 ∧ v 2 6 ≤ 2000 := hX 2 6
  have hz7 : 0 ≤ v 2 7 ∧ v 2 7 ≤ 2001 := hX 2 7
  have hz4 : 0 ≤ v 2 4 ∧ v 2 4 ≤ 2000 := hX 2 4
  refine r_ex 3 (pc' := 5) (lo' := [some (.inr (.inr (some 2))), some (.inr (.inr (some 100021))), none]) (st' := [.inl 1, .inl (v 2 5)]) rfl ?_
  have hb_1 : 0 ≤ (v 2 5) ∧ (v 2 5) ≤ 4 := hX 2 5
  refine n_ic_ne (pc0 := 5) (len := 3) (t := 24) rfl (by first | assumption | omega | (unfold R32 at *; omega) | (unfold R64 at *; omega) | (simp only [R32, R64] at *; omega)) (by first | assumption | omega | (unfold R32 at *; omega) | (unfold R64 at *; omega) | (simp only [R32, R64] at *; omega)) (fun h_5 => ?_) (fun h_5 => ?_)
  · show WV _ _ _ 24 _ _ _ _ _
    rw [if_neg h_5] at hQ
    refine r_ex 1 (pc' := 25) (lo' := [some (.inr (.inr (some 2))), some (.inr (.inr (some 100021))), none]) (st' := [.inl 0]) rfl ?_
    refine r_ret (rr := some (.inl 0)) (I := .ireturn) (pc0 := 25) (len := 1) rfl rfl ?_
    exact hQ (by first | assumption | omega | (unfold R32 at *; omega) | (unfold R64 at *; omega) | (simp only [R32, R64] at *; omega))
  · show WV _ _ _ 8 _ _ _ _ _
    rw [if_pos h_5] at hQ
    refine r_ex 1 (pc' := 9) (lo' := [some (.inr (.inr (some 2))), some (.inr (.inr (some 100021))), none]) (st' := [.inr (.inr (some 100021))]) rfl ?_
    refine r_call (rr := some (.inl 5)) (b' := 1) (v' := v) (m := 28) (args := [.inr (.inr (some 100021))]) (n' := 27) (pc' := 12) (lo' := [some (.inr (.inr (some 2))), some (.inr (.inr (some 100021))), none]) (st' := []) (I := .invokevirtual 28) (pc0 := 9) (len := 3) rfl rfl rfl ⟨60, rfl⟩ ?_
    show WV _ _ _ 12 _ [.inl 5] _ _ _
    refine r_ex 5 (pc' := 21) (lo' := [some (.inr (.inr (some 2))), some (.inr (.inr (some 100021))), none]) (st' := [.inl ((v 2 7) - (v 2 6)), .inl 5]) rfl ?_
    have hb_2 : 0 ≤ (v 2 7) ∧ (v 2 7) ≤ 2001 := hX 2 7
    have hb_3 : 0 ≤ (v 2 6) ∧ (v 2 6) ≤ 2000 := hX 2 6
    refine n_ic_eq (pc0 := 21) (len := 3) (t := 26) rfl (by first | assumption | omega | (unfold R32 at *; omega) | (unfold R64 at *; omega) | (simp only [R32, R64] at *; omega)) (by first | assumption | omega | (unfold R32 at *; omega) | (unfold R64 at *; omega) | (simp only [R32, R64] at *; omega)) (fun h_21 => ?_) (fun h_21 => ?_)
    · show WV _ _ _ 26 _ _ _ _ _
      rw [if_pos h_21] at hQ
      refine r_ex 4 (pc' := 30) (lo' := [some (.inr (.inr (some 2))), some (.inr (.inr (some 100021))), some (.inl 0)]) (st' := [.inr (.inr (some 100021)), .inl 0]) rfl ?_
      refine r_call (rr := some (.inl 5)) (b' := 1) (v' := v) (m := 28) (args := [.inr (.inr (some 100021))]) (n' := 27) (pc' := 33) (lo' := [some (.inr (.inr (some 2))), some (.inr (.inr (some 100021))), some (.inl 0)]) (st' := [.inl 0]) (I := .invokevirtual 28) (pc0 := 30) (len := 3) rfl rfl rfl ⟨60, rfl⟩ ?_
      show WV _ _ _ 33 _ [.inl 5, .inl 0] _ _ _
      refine r_ex 7 (pc' := 46) (lo' := [some (.inr (.inr (some 2))), some (.inr (.inr (some 100021))), some (.inl 0)]) (st' := [.inl ((v 2 6) + 0), .inr (.inr (some 1))]) rfl ?_
      refine r_bald2 (x := (v 1 ((((v 2 6) + 0)).toNat))) (pc' := 47) (pc0 := 46) (len := 1) rfl (s_1 _) (Or.inl rfl) (by first | assumption | omega | (unfold R32 at *; omega) | (unfold R64 at *; omega) | (simp only [R32, R64] at *; omega)) (by decide) rfl rfl ?_
      have hb_4 : -128 ≤ (v 1 ((((v 2 6) + 0)).toNat)) ∧ (v 1 ((((v 2 6) + 0)).toNat)) ≤ 127 := hX 1 ((((v 2 6) + 0)).toNat)
      refine r_ex 2 (pc' := 49) (lo' := [some (.inr (.inr (some 2))), some (.inr (.inr (some 100021))), some (.inl 0)]) (st' := [.inl 0, .inr (.inr (some 100021)), .inl (v 1 ((((v 2 6) + 0)).toNat))]) rfl ?_
      refine r_call (rr := some (.inl 116)) (b' := 1) (v' := v) (m := 30) (args := [.inr (.inr (some 100021)), .inl 0]) (n' := 27) (pc' := 52) (lo' := [some (.inr (.inr (some 2))), some (.inr (.inr (some 100021))), some (.inl 0)]) (st' := [.inl (v 1 ((((v 2 6) + 0)).toNat))]) (I := .invokevirtual 30) (pc0 := 49) (len := 3) rfl rfl rfl ⟨60, rfl⟩ ?_
      show WV _ _ _ 52 _ [.inl 116, .inl (v 1 ((((v 2 6) + 0)).toNat))] _ _ _
      refine n_ic_eq (pc0 := 52) (len := 3) (t := 57) rfl (by first | assumption | omega | (unfold R32 at *; omega) | (unfold R64 at *; omega) | (simp only [R32, R64] at *; omega)) (by first | assumption | omega | (unfold R32 at *; omega) | (unfold R64 at *; omega) | (simp only [R32, R64] at *; omega)) (fun h_52 => ?_) (fun h_52 => ?_)
      · show WV _ _ _ 57 _ _ _ _ _
        rw [if_pos h_52] at hQ
        refine r_ex 4 (pc' := 30) (lo' := [some (.inr (.inr (some 2))), some (.inr (.inr (some 100021))), some (.inl 1)]) (st' := [.inr (.inr (some 100021)), .inl 1]) rfl ?_
        refine r_call (rr := some (.inl 5)) (b' := 1) (v' := v) (m := 28) (args := [.inr (.inr (some 100021))]) (n' := 27) (pc' := 33) (lo' := [some (.inr (.inr (some 2))), some (.inr (.inr (some 100021))), some (.inl 1)]) (st' := [.inl 1]) (I := .invokevirtual 28) (pc0 := 30) (len := 3) rfl rfl rfl ⟨60, rfl⟩ ?_
        show WV _ _ _ 33 _ [.inl 5, .inl 1] _ _ _
        refine r_ex 7 (pc' := 46) (lo' := [some (.inr (.inr (some 2))), some (.inr (.inr (some 100021))), some (.inl 1)]) (st' := [.inl ((v 2 6) + 1), .inr (.inr (some 1))]) rfl ?_
        refine r_bald2 (x := (v 1 ((((v 2 6) + 1)).toNat))) (pc' := 47) (pc0 := 46) (len := 1) rfl (s_1 _) (Or.inl rfl) (by first | assumption | omega | (unfold R32 at *; omega) | (unfold R64 at *; omega) | (simp only [R32, R64] at *; omega)) (by decide) rfl rfl ?_
        have hb_5 : -128 ≤ (v 1 ((((v 2 6) + 1)).toNat)) ∧ (v 1 ((((v 2 6) + 1)).toNat)) ≤ 127 := hX 1 ((((v 2 6) + 1)).toNat)
        refine r_ex 2 (pc' := 49) (lo' := [some (.inr (.inr (some 2))), some (.inr (.inr (some 100021))), some (.inl 1)]) (st' := [.inl 1, .inr (.inr (some 100021)), .inl (v 1 ((((v 2 6) + 1)).toNat))]) rfl ?_
        refine r_call (rr := some (.inl 97)) (b' := 1) (v' := v) (m := 30) (args := [.inr (.inr (some 100021)), .inl 1]) (n' := 27) (pc' := 52) (lo' := [some (.inr (.inr (some 2))), some (.inr (.inr (some 100021))), some (.inl 1)]) (st' := [.inl (v 1 ((((v 2 6) + 1)).toNat))]) (I := .invokevirtual 30) (pc0 := 49) (len := 3) rfl rfl rfl ⟨60, rfl⟩ ?_
        show WV _ _ _ 52 _ [.inl 97, .inl (v 1 ((((v 2 6) + 1)).toNat))] _ _ _
        refine n_ic_eq (pc0 := 52) (len := 3) (t := 57) rfl (by first | assumption | omega | (unfold R32 at *; omega) | (unfold R64 at *; omega) | (simp only [R32, R64] at *; omega)) (by first | assumption | omega | (unfold R32 at *; omega) | (unfold R64 at *; omega) | (simp only [R32, R64] at *; omega)) (fun h_52 => ?_) (fun h_52 => ?_)
        · show WV _ _ _ 57 _ _ _ _ _
          rw [if_pos h_52] at hQ
          refine r_ex 4 (pc' := 30) (lo' := [some (.inr (.inr (some 2))), some (.inr (.inr (some 100021))), some (.inl 2)]) (st' := [.inr (.inr (some 100021)), .inl 2]) rfl ?_
          refine r_call (rr := some (.inl 5)) (b' := 1) (v' := v) (m := 28) (args := [.inr (.inr (some 100021))]) (n' := 27) (pc' := 33) (lo' := [some (.inr (.inr (some 2))), some (.inr (.inr (some 100021))), some (.inl 2)]) (st' := [.inl 2]) (I := .invokevirtual 28) (pc0 := 30) (len := 3) rfl rfl rfl ⟨60, rfl⟩ ?_
          show WV _ _ _ 33 _ [.inl 5, .inl 2] _ _ _
          refine r_ex 7 (pc' := 46) (lo' := [some (.inr (.inr (some 2))), some (.inr (.inr (some 100021))), some (.inl 2)]) (st' := [.inl ((v 2 6) + 2), .inr (.inr (some 1))]) rfl ?_
          refine r_bald2 (x := (v 1 ((((v 2 6) + 2)).toNat))) (pc' := 47) (pc0 := 46) (len := 1) rfl (s_1 _) (Or.inl rfl) (by first | assumption | omega | (unfold R32 at *; omega) | (unfold R64 at *; omega) | (simp only [R32, R64] at *; omega)) (by decide) rfl rfl ?_
          have hb_6 : -128 ≤ (v 1 ((((v 2 6) + 2)).toNat)) ∧ (v 1 ((((v 2 6) + 2)).toNat)) ≤ 127 := hX 1 ((((v 2 6) + 2)).toNat)
          refine r_ex 2 (pc' := 49) (lo' := [some (.inr (.inr (some 2))), some (.inr (.inr (some 100021))), some (.inl 2)]) (st' := [.inl 2, .inr (.inr (some 100021)), .inl (v 1 ((((v 2 6) + 2)).toNat))]) rfl ?_
          refine r_call (rr := some (.inl 107)) (b' := 1) (v' := v) (m := 30) (args := [.inr (.inr (some 100021)), .inl 2]) (n' := 27) (pc' := 52) (lo' := [some (.inr (.inr (some 2))), some (.inr (.inr (some 100021))), some (.inl 2)]) (st' := [.inl (v 1 ((((v 2 6) + 2)).toNat))]) (I := .invokevirtual 30) (pc0 := 49) (len := 3) rfl rfl rfl ⟨60, rfl⟩ ?_
          show WV _ _ _ 52 _ [.inl 107, .inl (v 1 ((((v 2 6) + 2)).toNat))] _ _ _
          refine n_ic_eq (pc0 := 52) (len := 3) (t := 57) rfl (by first | assumption | omega | (unfold R32 at *; omega) | (unfold R64 at *; omega) | (simp only [R32, R64] at *; omega)) (by first | assumption | omega | (unfold R32 at *; omega) | (unfold R64 at *; omega) | (simp only [R32, R64] at *; omega)) (fun h_52 => ?_) (fun h_52 => ?_)
          · show WV _ _ _ 57 _ _ _ _ _
            rw [if_pos h_52] at hQ
            refine r_ex 4 (pc' := 30) (lo' := [some (.inr (.inr (some 2))), some (.inr (.inr (some 100021))), some (.inl 3)]) (st' := [.inr (.inr (some 100021)), .inl 3]) rfl ?_
            refine r_call (rr := some (.inl 5)) (b' := 1) (v' := v) (m := 28) (args := [.inr (.inr (some 100021))]) (n' := 27) (pc' := 33) (lo' := [some (.inr (.inr (some 2))), some (.inr (.inr (some 100021))), some (.inl 3)]) (st' := [.inl 3]) (I := .invokevirtual 28) (pc0 := 30) (len := 3) rfl rfl rfl ⟨60, rfl⟩ ?_
            show WV _ _ _ 33 _ [.inl 5, .inl 3] _ _ _
            refine r_ex 7 (pc' := 46) (lo' := [some (.inr (.inr (some 2))), some (.inr (.inr (some 100021))), some (.inl 3)]) (st' := [.inl ((v 2 6) + 3), .inr (.inr (some 1))]) rfl ?_
            refine r_bald2 (x := (v 1 ((((v 2 6) + 3)).toNat))) (pc' := 47) (pc0 := 46) (len := 1) rfl (s_1 _) (Or.inl rfl) (by first | assumption | omega | (unfold R32 at *; omega) | (unfold R64 at *; omega) | (simp only [R32, R64] at *; omega)) (by decide) rfl rfl ?_
            have hb_7 : -128 ≤ (v 1 ((((v 2 6) + 3)).toNat)) ∧ (v 1 ((((v 2 6) + 3)).toNat)) ≤ 127 := hX 1 ((((v 2 6) + 3)).toNat)
            refine r_ex 2 (pc' := 49) (lo' := [some (.inr (.inr (some 2))), some (.inr (.inr (some 100021))), some (.inl 3)]) (st' := [.inl 3, .inr (.inr (some 100021)), .inl (v 1 ((((v 2 6) + 3)).toNat))]) rfl ?_
            refine r_call (rr := some (.inl 101)) (b' := 1) (v' := v) (m := 30) (args := [.inr (.inr (some 100021)), .inl 3]) (n' := 27) (pc' := 52) (lo' := [some (.inr (.inr (some 2))), some (.inr (.inr (some 100021))), some (.inl 3)]) (st' := [.inl (v 1 ((((v 2 6) + 3)).toNat))]) (I := .invokevirtual 30) (pc0 := 49) (len := 3) rfl rfl rfl ⟨60, rfl⟩ ?_
            show WV _ _ _ 52 _ [.inl 101, .inl (v 1 ((((v 2 6) + 3)).toNat))] _ _ _
            refine n_ic_eq (pc0 := 52) (len := 3) (t := 57) rfl (by first | assumption | omega | (unfold R32 at *; omega) | (unfold R64 at *; omega) | (simp only [R32, R64] at *; omega)) (by first | assumption | omega | (unfold R32 at *; omega) | (unfold R64 at *; omega) | (simp only [R32, R64] at *; omega)) (fun h_52 => ?_) (fun h_52 => ?_)
            · show WV _ _ _ 57 _ _ _ _ _
              rw [if_pos h_52] at hQ
              refine r_ex 4 (pc' := 30) (lo' := [some (.inr (.inr (some 2))), some (.inr (.inr (some 100021))), some (.inl 4)]) (st' := [.inr (.inr (some 100021)), .inl 4]) rfl ?_
              refine r_call (rr := some (.inl 5)) (b' := 1) (v' := v) (m := 28) (args := [.inr (.inr (some 100021))]) (n' := 27) (pc' := 33) (lo' := [some (.inr (.inr (some 2))), some (.inr (.inr (some 100021))), some (.inl 4)]) (st' := [.inl 4]) (I := .invokevirtual 28) (pc0 := 30) (len := 3) rfl rfl rfl ⟨60, rfl⟩ ?_
              show WV _ _ _ 33 _ [.inl 5, .inl 4] _ _ _
              refine r_ex 7 (pc' := 46) (lo' := [some (.inr (.inr (some 2))), some (.inr (.inr (some 100021))), some (.inl 4)]) (st' := [.inl ((v 2 6) + 4), .inr (.inr (some 1))]) rfl ?_
              refine r_bald2 (x := (v 1 ((((v 2 6) + 4)).toNat))) (pc' := 47) (pc0 := 46) (len := 1) rfl (s_1 _) (Or.inl rfl) (by first | assumption | omega | (unfold R32 at *; omega) | (unfold R64 at *; omega) | (simp only [R32, R64] at *; omega)) (by decide) rfl rfl ?_
              have hb_8 : -128 ≤ (v 1 ((((v 2 6) + 4)).toNat)) ∧ (v 1 ((((v 2 6) + 4)).toNat)) ≤ 127 := hX 1 ((((v 2 6) + 4)).toNat)
              refine r_ex 2 (pc' := 49) (lo' := [some (.inr (.inr (some 2))), some (.inr (.inr (some 100021))), some (.inl 4)]) (st' := [.inl 4, .inr (.inr (some 100021)), .inl (v 1 ((((v 2 6) + 4)).toNat))]) rfl ?_
              refine r_call (rr := some (.inl 115)) (b' := 1) (v' := v) (m := 30) (args := [.inr (.inr (some 100021)), .inl 4]) (n' := 27) (pc' := 52) (lo' := [some (.inr (.inr (some 2))), some (.inr (.inr (some 100021))), some (.inl 4)]) (st' := [.inl (v 1 ((((v 2 6) + 4)).toNat))]) (I := .invokevirtual 30) (pc0 := 49) (len := 3) rfl rfl rfl ⟨60, rfl⟩ ?_
              show WV _ _ _ 52 _ [.inl 115, .inl (v 1 ((((v 2 6) + 4)).toNat))] _ _ _
              refine n_ic_eq (pc0 := 52) (len := 3) (t := 57) rfl (by first | assumption | omega | (unfold R32 at *; omega) | (unfold R64 at *; omega) | (simp only [R32, R64] at *; omega)) (by first | assumption | omega | (unfold R32 at *; omega) | (unfold R64 at *; omega) | (simp only [R32, R64] at *; omega)) (fun h_52 => ?_) (fun h_52 => ?_)
              · show WV _ _ _ 57 _ _ _ _ _
                rw [if_pos h_52] at hQ
                refine r_ex 4 (pc' := 30) (lo' := [some (.inr (.inr (some 2))), some (.inr (.inr (some 100021))), some (.inl 5)]) (st' := [.inr (.inr (some 100021)), .inl 5]) rfl ?_
                refine r_call (rr := some (.inl 5)) (b' := 1) (v' := v) (m := 28) (args := [.inr (.inr (some 100021))]) (n' := 27) (pc' := 33) (lo' := [some (.inr (.inr (some 2))), some (.inr (.inr (some 100021))), some (.inl 5)]) (st' := [.inl 5]) (I := .invokevirtual 28) (pc0 := 30) (len := 3) rfl rfl rfl ⟨60, rfl⟩ ?_
                show WV _ _ _ 33 _ [.inl 5, .inl 5] _ _ _
                refine r_ex 2 (pc' := 64) (lo' := [some (.inr (.inr (some 2))), some (.inr (.inr (some 100021))), some (.inl 5)]) (st' := [.inl 1]) rfl ?_
                refine r_ret (rr := some (.inl 1)) (I := .ireturn) (pc0 := 64) (len := 1) rfl rfl ?_
                exact hQ (by first | assumption | omega | (unfold R32 at *; omega) | (unfold R64 at *; omega) | (simp only [R32, R64] at *; omega))
              · show WV _ _ _ 55 _ _ _ _ _
                rw [if_neg h_52] at hQ
                refine r_ex 1 (pc' := 56) (lo' := [some (.inr (.inr (some 2))), some (.inr (.inr (some 100021))), some (.inl 4)]) (st' := [.inl 0]) rfl ?_
                refine r_ret (rr := some (.inl 0)) (I := .ireturn) (pc0 := 56) (len := 1) rfl rfl ?_
                exact hQ (by first | assumption | omega | (unfold R32 at *; omega) | (unfold R64 at *; omega) | (simp only [R32, R64] at *; omega))
            · show WV _ _ _ 55 _ _ _ _ _
              rw [if_neg h_52] at hQ
              refine r_ex 1 (pc' := 56) (lo' := [some (.inr (.inr (some 2))), some (.inr (.inr (some 100021))), some (.inl 3)]) (st' := [.inl 0]) rfl ?_
              refine r_ret (rr := some (.inl 0)) (I := .ireturn) (pc0 := 56) (len := 1) rfl rfl ?_
              exact hQ (by first | assumption | omega | (unfold R32 at *; omega) | (unfold R64 at *; omega) | (simp only [R32, R64] at *; omega))
          · show WV _ _ _ 55 _ _ _ _ _
            rw [if_neg h_52] at hQ
            refine r_ex 1 (pc' := 56) (lo' := [some (.inr (.inr (some 2))), some (.inr (.inr (some 100021))), some (.inl 2)]) (st' := [.inl 0]) rfl ?_
            refine r_ret (rr := some (.inl 0)) (I := .ireturn) (pc0 := 56) (len := 1) rfl rfl ?_
            exact hQ (by first | assumption | omega | (unfold R32 at *; omega) | (unfold R64 at *; omega) | (simp only [R32, R64] at *; omega))
        · show WV _ _ _ 55 _ _ _ _ _
          rw [if_neg h_52] at hQ
          refine r_ex 1 (pc' := 56) (lo' := [some (.inr (.inr (some 2))), some (.inr (.inr (some 100021))), some (.inl 1)]) (st' := [.inl 0]) rfl ?_
          refine r_ret (rr := some (.inl 0)) (I := .ireturn) (pc0 := 56) (len := 1) rfl rfl ?_
          exact hQ (by first | assumption | omega | (unfold R32 at *; omega) | (unfold R64 at *; omega) | (simp only [R32, R64] at *; omega))
      · show WV _ _ _ 55 _ _ _ _ _
        rw [if_neg h_52] at hQ
        refine r_ex 1 (pc' := 56) (lo' := [some (.inr (.inr (some 2))), some (.inr (.inr (some 100021))), some (.inl 0)]) (st' := [.inl 0]) rfl ?_
        refine r_ret (rr := some (.inl 0)) (I := .ireturn) (pc0 := 56) (len := 1) rfl rfl ?_
        exact hQ (by first | assumption | omega | (unfold R32 at *; omega) | (unfold R64 at *; omega) | (simp only [R32, R64] at *; omega))
    · show WV _ _ _ 24 _ _ _ _ _
      rw [if_neg h_21] at hQ
      refine r_ex 1 (pc' := 25) (lo' := [some (.inr (.inr (some 2))), some (.inr (.inr (some 100021))), none]) (st' := [.inl 0]) rfl ?_
      refine r_ret (rr := some (.inl 0)) (I := .ireturn) (pc0 := 25) (len := 1) rfl rfl ?_
      exact hQ (by first | assumption | omega | (unfold R32 at *; omega) | (unfold R64 at *; omega) | (simp only [R32, R64] at *; omega))

theorem e_cl_isAt10 {X : PX} {d : Nat} {v : VS}  (hX : XI v) (hp_a : (v 2 7) ≤ (v 2 4)) : EvV X (d + 1 + 1 + 1 + 1) 27 [.inr (.inr (some 2)), .inr (.inr (some 100021))] 1 v (some (.inl (cl_isAt10 v))) 1 v := EvV.of (w_cl_isAt10 hX hp_a (fun _ => ⟨rfl, rfl, rfl⟩))

theorem n_cl_isAt10 {v : VS}  (hX : XI v) (hp_a : (v 2 7) ≤ (v 2 4)) : 0 ≤ (cl_isAt10 v) ∧ (cl_isAt10 v) ≤ 1 := by
  have q : WV (0, fun _ => 0, none) (0 + 1 + 1 + 1 + 1) 27 0 [some (.inr (.inr (some 2))), some (.inr (.inr (some 100021))), none] [] 1 v (fun _ _ _ => 0 ≤ (cl_isAt10 v) ∧ (cl_isAt10 v) ≤ 1) := w_cl_isAt10 (X := (0, fun _ => 0, none)) (d := 0) hX hp_a (fun q => q)
  obtain ⟨_, _, _, _, _, _, _, q⟩ := q
  exact q

def cl_word10 (v : VS)  : VS :=
  (if (v 2 1) = 0 then (if (cl_isAt10 v) = 0 then (cl_fail v 1) else (cl_advance v)) else (cl_fail v 1))
theorem w_cl_word10 {X : PX} {d : Nat} {v : VS}  (hX : XI v) (hp_a : (v 2 7) ≤ (v 2 4)) {Q : Option PV → Nat → VS → Prop} (hQ : XI (cl_word10 v) → (((cl_word10 v) 2 7) ≤ ((cl_word10 v) 2 4)) → Q none 1 (cl_word10 v)) : WV X (d + 1 + 1 + 1 + 1 + 1) 26 0 [some (.inr (.inr (some 2))), some (.inr (.inr (some 100021)))] [] 1 v Q := by
  rw [cl_word10] at hQ
  refine r_ex 2 (pc' := 4) (lo' := [some (.inr (.inr (some 2))), some (.inr (.inr (some 100021)))]) (st' := [.inl (v 2 1)]) rfl ?_
  have hb_1 : 0 ≤ (v 2 1) ∧ (v 2 1) ≤ 3 := hX 2 1
  refine n_if_ne (pc0 := 4) (len := 3) (t := 22) rfl (by first | assumption | omega | (unfold R32 at *; omega) | (unfold R64 at *; omega) | (simp only [R32, R64] at *; omega)) (fun h_4 => ?_) (fun h_4 => ?_)
  · show WV _ _ _ 22 _ _ _ _ _
    rw [if_neg h_4] at hQ
    refine r_ex 2 (pc' := 24) (lo' := [some (.inr (.inr (some 2))), some (.inr (.inr (some 100021)))]) (st' := [.inl 1, .inr (.inr (some 2))]) rfl ?_
    have hp_2 : 1 ≤ (1 : Int) ∧ (1 : Int) ≤ 3 := (by first | assumption | omega | (unfold R32 at *; omega) | (unfold R64 at *; omega) | (simp only [R32, R64] at *; omega))
    have hp_3 : (v 2 7) ≤ (v 2 4) := (show (v 2 7) ≤ (v 2 4) from (by first | assumption | omega | (unfold R32 at *; omega) | (unfold R64 at *; omega) | (simp only [R32, R64] at *; omega)))
    refine r_call (m := 39) (args := [.inr (.inr (some 2)), .inl 1]) (n' := 26) (pc' := 27) (lo' := [some (.inr (.inr (some 2))), some (.inr (.inr (some 100021)))]) (st' := []) (I := .invokevirtual 39) (pc0 := 24) (len := 3) rfl rfl rfl (e_cl_fail hX hp_2 hp_3) ?_
    show WV _ _ _ 27 _ [] _ (cl_fail v 1) _
    have hX_4 : XI (cl_fail v 1) := i_cl_fail (v := v) (k := 1) hX hp_2 hp_3
    have hb_5 : ((cl_fail v 1) 2 7) ≤ ((cl_fail v 1) 2 4) := n_cl_fail (v := v) (k := 1) hX hp_2 hp_3
    refine r_ret (rr := none) (I := .return_) (pc0 := 27) (len := 1) rfl rfl ?_
    exact hQ hX_4 (show ((cl_fail v 1) 2 7) ≤ ((cl_fail v 1) 2 4) from (by first | assumption | omega | (unfold R32 at *; omega) | (unfold R64 at *; omega) | (simp only [R32, R64] at *; omega)))
  · show WV _ _ _ 7 _ _ _ _ _
    rw [if_pos h_4] at hQ
    refine r_ex 2 (pc' := 9) (lo' := [some (.inr (.inr (some 2))), some (.inr (.inr (some 100021)))]) (st' := [.inr (.inr (some 100021)), .inr (.inr (some 2))]) rfl ?_
    have hp_6 : (v 2 7) ≤ (v 2 4) := (show (v 2 7) ≤ (v 2 4) from (by first | assumption | omega | (unfold R32 at *; omega) | (unfold R64 at *; omega) | (simp only [R32, R64] at *; omega)))
    refine r_call (m := 27) (args := [.inr (.inr (some 2)), .inr (.inr (some 100021))]) (n' := 26) (pc' := 12) (lo' := [some (.inr (.inr (some 2))), some (.inr (.inr (some 100021)))]) (st' := []) (I := .invokevirtual 27) (pc0 := 9) (len := 3) rfl rfl rfl (e_cl_isAt10 hX hp_6) ?_
    show WV _ _ _ 12 _ [.inl (cl_isAt10 v)] _ _ _
    have hb_7 := n_cl_isAt10 (v := v) hX hp_6
    refine n_if_eq (pc0 := 12) (len := 3) (t := 22) rfl (by first | assumption | omega | (unfold R32 at *; omega) | (unfold R64 at *; omega) | (simp only [R32, R64] at *; omega)) (fun h_12 => ?_) (fun h_12 => ?_)
    · show WV _ _ _ 22 _ _ _ _ _
      rw [if_pos h_12] at hQ
      refine r_ex 2 (pc' := 24) (lo' := [some (.inr (.inr (some 2))), some (.inr (.inr (some 100021)))]) (st' := [.inl 1, .inr (.inr (some 2))]) rfl ?_
      have hp_8 : 1 ≤ (1 : Int) ∧ (1 : Int) ≤ 3 := (by first | assumption | omega | (unfold R32 at *; omega) | (unfold R64 at *; omega) | (simp only [R32, R64] at *; omega))
      have hp_9 : (v 2 7) ≤ (v 2 4) := (show (v 2 7) ≤ (v 2 4) from (by first | assumption | omega | (unfold R32 at *; omega) | (unfold R64 at *; omega) | (simp only [R32, R64] at *; omega)))
      refine r_call (m := 39) (args := [.inr (.inr (some 2)), .inl 1]) (n' := 26) (pc' := 27) (lo' := [some (.inr (.inr (some 2))), some (.inr (.inr (some 100021)))]) (st' := []) (I := .invokevirtual 39) (pc0 := 24) (len := 3) rfl rfl rfl (e_cl_fail hX hp_8 hp_9) ?_
      show WV _ _ _ 27 _ [] _ (cl_fail v 1) _
      have hX_10 : XI (cl_fail v 1) := i_cl_fail (v := v) (k := 1) hX hp_8 hp_9
      have hb_11 : ((cl_fail v 1) 2 7) ≤ ((cl_fail v 1) 2 4) := n_cl_fail (v := v) (k := 1) hX hp_8 hp_9
      refine r_ret (rr := none) (I := .return_) (pc0 := 27) (len := 1) rfl rfl ?_
      exact hQ hX_10 (show ((cl_fail v 1) 2 7) ≤ ((cl_fail v 1) 2 4) from (by first | assumption | omega | (unfold R32 at *; omega) | (unfold R64 at *; omega) | (simp only [R32, R64] at *; omega)))
    · show WV _ _ _ 15 _ _ _ _ _
      rw [if_neg h_12] at hQ
      refine r_ex 1 (pc' := 16) (lo' := [some (.inr (.inr (some 2))), some (.inr (.inr (some 100021)))]) (st' := [.inr (.inr (some 2))]) rfl ?_
      have hp_12 : (v 2 7) ≤ (v 2 4) := (show (v 2 7) ≤ (v 2 4) from (by first | assumption | omega | (unfold R32 at *; omega) | (unfold R64 at *; omega) | (simp only [R32, R64] at *; omega)))
      refine r_call (m := 21) (args := [.inr (.inr (some 2))]) (n' := 26) (pc' := 19) (lo' := [some (.inr (.inr (some 2))), some (.inr (.inr (some 100021)))]) (st' := []) (I := .invokevirtual 21) (pc0 := 16) (len := 3) rfl rfl rfl (e_cl_advance hX hp_12) ?_
      show WV _ _ _ 19 _ [] _ (cl_advance v) _
      have hX_13 : XI (cl_advance v) := i_cl_advance (v := v) hX hp_12
      have hb_14 : ((cl_advance v) 2 7) ≤ ((cl_advance v) 2 4) := n_cl_advance (v := v) hX hp_12
      refine r_ex 1 (pc' := 27) (lo' := [some (.inr (.inr (some 2))), some (.inr (.inr (some 100021)))]) (st' := []) rfl ?_
      refine r_ret (rr := none) (I := .return_) (pc0 := 27) (len := 1) rfl rfl ?_
      exact hQ hX_13 (show ((cl_advance v) 2 7) ≤ ((cl_advance v) 2 4) from (by first | assumption | omega | (unfold R32 at *; omega) | (unfold R64 at *; omega) | (simp only [R32, R64] at *; omega)))

theorem e_cl_word10 {X : PX} {d : Nat} {v : VS}  (hX : XI v) (hp_a : (v 2 7) ≤ (v 2 4)) : EvV X (d + 1 + 1 + 1 + 1 + 1) 26 [.inr (.inr (some 2)), .inr (.inr (some 100021))] 1 v none 1 (cl_word10 v) := EvV.of (w_cl_word10 hX hp_a (fun _ _ => ⟨rfl, rfl, rfl⟩))

theorem i_cl_word10 {v : VS}  (hX : XI v) (hp_a : (v 2 7) ≤ (v 2 4)) : XI (cl_word10 v) := by
  have q : WV (0, fun _ => 0, none) (0 + 1 + 1 + 1 + 1 + 1) 26 0 [some (.inr (.inr (some 2))), some (.inr (.inr (some 100021)))] [] 1 v (fun _ _ _ => XI (cl_word10 v)) := w_cl_word10 (X := (0, fun _ => 0, none)) (d := 0) hX hp_a (fun q _ => q)
  obtain ⟨_, _, _, _, _, _, _, q⟩ := q
  exact q

theorem n_cl_word10 {v : VS}  (hX : XI v) (hp_a : (v 2 7) ≤ (v 2 4)) : ((cl_word10 v) 2 7) ≤ ((cl_word10 v) 2 4) := by
  have q : WV (0, fun _ => 0, none) (0 + 1 + 1 + 1 + 1 + 1) 26 0 [some (.inr (.inr (some 2))), some (.inr (.inr (some 100021)))] [] 1 v (fun _ _ _ => ((cl_word10 v) 2 7) ≤ ((cl_word10 v) 2 4)) := w_cl_word10 (X := (0, fun _ => 0, none)) (d := 0) hX hp_a (fun _ q => q)
  obtain ⟨_, _, _, _, _, _, _, q⟩ := q
  exact q

theorem o_cl_word10 {rk : Nat} {v : VS}  (hk : (rk < 2 ∨ 2 < rk)) : (cl_word10 v ) rk = v rk := by
  unfold cl_word10
  by_cases hc_ : (v 2 1) = 0
  · rw [if_pos hc_]
    by_cases hc_ : (cl_isAt10 v) = 0
    · rw [if_pos hc_]
      all_goals (show (cl_fail v 1) rk = _)
      all_goals (rw [o_cl_fail (by omega)])
    · rw [if_neg hc_]
      all_goals (show (cl_advance v) rk = _)
      all_goals (rw [o_cl_advance (by omega)])
  · rw [if_neg hc_]
    all_goals (show (cl_fail v 1) rk = _)
    all_goals (rw [o_cl_fail (by omega)])

def cl_isAt11 (v : VS)  : Int :=
  (if (v 2 5) = 1 then (if 5 = ((v 2 7) - (v 2 6)) then (if (v 1 ((((v 2 6) + 0)).toNat)) = 97 then (if (v 1 ((((v 2 6) + 1)).toNat)) = 108 then (if (v 1 ((((v 2 6) + 2)).toNat)) = 111 then (if (v 1 ((((v 2 6) + 3)).toNat)) = 110 then (if (v 1 ((((v 2 6) + 4)).toNat)) = 103 then 1 else 0) else 0) else 0) else 0) else 0) else 0) else 0)
theorem w_cl_isAt11 {X : PX} {d : Nat} {v : VS}  (hX : XI v) (hp_a : (v 2 7) ≤ (v 2 4)) {Q : Option PV → Nat → VS → Prop} (hQ : (0 ≤ (cl_isAt11 v) ∧ (cl_isAt11 v) ≤ 1) → Q (some (.inl (cl_isAt11 v))) 1 v) : WV X (d + 1 + 1 + 1 + 1) 27 0 [some (.inr (.inr (some 2))), some (.inr (.inr (some 100023))), none] [] 1 v Q := by
  rw [cl_isAt11] at hQ
  have hz6 : 0 ≤ v 2 6 ∧ v 2 6 ≤ 2000 := hX 2 6
  have hz7 : 0 ≤ v 2 7 ∧ v 2 7 ≤ 2001 := hX 2 7
  have hz4 : 0 ≤ v 2 4 ∧ v 2 4 ≤ 2000 := hX 2 4
  refine r_ex 3 (pc' := 5) (lo' := [some (.inr (.inr (some 2))), some (.inr (.inr (some 100023))), none]) (st' := [.inl 1, .inl (v 2 5)]) rfl ?_
  have hb_1 : 0 ≤ (v 2 5) ∧ (v 2 5) ≤ 4 := hX 2 5
  refine n_ic_ne (pc0 := 5) (len := 3) (t := 24) rfl (by first | assumption | omega | (unfold R32 at *; omega) | (unfold R64 at *; omega) | (simp only [R32, R64] at *; omega)) (by first | assumption | omega | (unfold R32 at *; omega) | (unfold R64 at *; omega) | (simp only [R32, R64] at *; omega)) (fun h_5 => ?_) (fun h_5 => ?_)
  · show WV _ _ _ 24 _ _ _ _ _
    rw [if_neg h_5] at hQ
    refine r_ex 1 (pc' := 25) (lo' := [some (.inr (.inr (some 2))), some (.inr (.inr (some 100023))), none]) (st' := [.inl 0]) rfl ?_
    refine r_ret (rr := some (.inl 0)) (I := .ireturn) (pc0 := 25) (len := 1) rfl rfl ?_
    exact hQ (by first | assumption | omega | (unfold R32 at *; omega) | (unfold R64 at *; omega) | (simp only [R32, R64] at *; omega))
  · show WV _ _ _ 8 _ _ _ _ _
    rw [if_pos h_5] at hQ
    refine r_ex 1 (pc' := 9) (lo' := [some (.inr (.inr (some 2))), some (.inr (.inr (some 100023))), none]) (st' := [.inr (.inr (some 100023))]) rfl ?_
    refine r_call (rr := some (.inl 5)) (b' := 1) (v' := v) (m := 28) (args := [.inr (.inr (some 100023))]) (n' := 27) (pc' := 12) (lo' := [some (.inr (.inr (some 2))), some (.inr (.inr (some 100023))), none]) (st' := []) (I := .invokevirtual 28) (pc0 := 9) (len := 3) rfl rfl rfl ⟨60, rfl⟩ ?_
    show WV _ _ _ 12 _ [.inl 5] _ _ _
    refine r_ex 5 (pc' := 21) (lo' := [some (.inr (.inr (some 2))), some (.inr (.inr (some 100023))), none]) (st' := [.inl ((v 2 7) - (v 2 6)), .inl 5]) rfl ?_
    have hb_2 : 0 ≤ (v 2 7) ∧ (v 2 7) ≤ 2001 := hX 2 7
    have hb_3 : 0 ≤ (v 2 6) ∧ (v 2 6) ≤ 2000 := hX 2 6
    refine n_ic_eq (pc0 := 21) (len := 3) (t := 26) rfl (by first | assumption | omega | (unfold R32 at *; omega) | (unfold R64 at *; omega) | (simp only [R32, R64] at *; omega)) (by first | assumption | omega | (unfold R32 at *; omega) | (unfold R64 at *; omega) | (simp only [R32, R64] at *; omega)) (fun h_21 => ?_) (fun h_21 => ?_)
    · show WV _ _ _ 26 _ _ _ _ _
      rw [if_pos h_21] at hQ
      refine r_ex 4 (pc' := 30) (lo' := [some (.inr (.inr (some 2))), some (.inr (.inr (some 100023))), some (.inl 0)]) (st' := [.inr (.inr (some 100023)), .inl 0]) rfl ?_
      refine r_call (rr := some (.inl 5)) (b' := 1) (v' := v) (m := 28) (args := [.inr (.inr (some 100023))]) (n' := 27) (pc' := 33) (lo' := [some (.inr (.inr (some 2))), some (.inr (.inr (some 100023))), some (.inl 0)]) (st' := [.inl 0]) (I := .invokevirtual 28) (pc0 := 30) (len := 3) rfl rfl rfl ⟨60, rfl⟩ ?_
      show WV _ _ _ 33 _ [.inl 5, .inl 0] _ _ _
      refine r_ex 7 (pc' := 46) (lo' := [some (.inr (.inr (some 2))), some (.inr (.inr (some 100023))), some (.inl 0)]) (st' := [.inl ((v 2 6) + 0), .inr (.inr (some 1))]) rfl ?_
      refine r_bald2 (x := (v 1 ((((v 2 6) + 0)).toNat))) (pc' := 47) (pc0 := 46) (len := 1) rfl (s_1 _) (Or.inl rfl) (by first | assumption | omega | (unfold R32 at *; omega) | (unfold R64 at *; omega) | (simp only [R32, R64] at *; omega)) (by decide) rfl rfl ?_
      have hb_4 : -128 ≤ (v 1 ((((v 2 6) + 0)).toNat)) ∧ (v 1 ((((v 2 6) + 0)).toNat)) ≤ 127 := hX 1 ((((v 2 6) + 0)).toNat)
      refine r_ex 2 (pc' := 49) (lo' := [some (.inr (.inr (some 2))), some (.inr (.inr (some 100023))), some (.inl 0)]) (st' := [.inl 0, .inr (.inr (some 100023)), .inl (v 1 ((((v 2 6) + 0)).toNat))]) rfl ?_
      refine r_call (rr := some (.inl 97)) (b' := 1) (v' := v) (m := 30) (args := [.inr (.inr (some 100023)), .inl 0]) (n' := 27) (pc' := 52) (lo' := [some (.inr (.inr (some 2))), some (.inr (.inr (some 100023))), some (.inl 0)]) (st' := [.inl (v 1 ((((v 2 6) + 0)).toNat))]) (I := .invokevirtual 30) (pc0 := 49) (len := 3) rfl rfl rfl ⟨60, rfl⟩ ?_
      show WV _ _ _ 52 _ [.inl 97, .inl (v 1 ((((v 2 6) + 0)).toNat))] _ _ _
      refine n_ic_eq (pc0 := 52) (len := 3) (t := 57) rfl (by first | assumption | omega | (unfold R32 at *; omega) | (unfold R64 at *; omega) | (simp only [R32, R64] at *; omega)) (by first | assumption | omega | (unfold R32 at *; omega) | (unfold R64 at *; omega) | (simp only [R32, R64] at *; omega)) (fun h_52 => ?_) (fun h_52 => ?_)
      · show WV _ _ _ 57 _ _ _ _ _
        rw [if_pos h_52] at hQ
        refine r_ex 4 (pc' := 30) (lo' := [some (.inr (.inr (some 2))), some (.inr (.inr (some 100023))), some (.inl 1)]) (st' := [.inr (.inr (some 100023)), .inl 1]) rfl ?_
        refine r_call (rr := some (.inl 5)) (b' := 1) (v' := v) (m := 28) (args := [.inr (.inr (some 100023))]) (n' := 27) (pc' := 33) (lo' := [some (.inr (.inr (some 2))), some (.inr (.inr (some 100023))), some (.inl 1)]) (st' := [.inl 1]) (I := .invokevirtual 28) (pc0 := 30) (len := 3) rfl rfl rfl ⟨60, rfl⟩ ?_
        show WV _ _ _ 33 _ [.inl 5, .inl 1] _ _ _
        refine r_ex 7 (pc' := 46) (lo' := [some (.inr (.inr (some 2))), some (.inr (.inr (some 100023))), some (.inl 1)]) (st' := [.inl ((v 2 6) + 1), .inr (.inr (some 1))]) rfl ?_
        refine r_bald2 (x := (v 1 ((((v 2 6) + 1)).toNat))) (pc' := 47) (pc0 := 46) (len := 1) rfl (s_1 _) (Or.inl rfl) (by first | assumption | omega | (unfold R32 at *; omega) | (unfold R64 at *; omega) | (simp only [R32, R64] at *; omega)) (by decide) rfl rfl ?_
        have hb_5 : -128 ≤ (v 1 ((((v 2 6) + 1)).toNat)) ∧ (v 1 ((((v 2 6) + 1)).toNat)) ≤ 127 := hX 1 ((((v 2 6) + 1)).toNat)
        refine r_ex 2 (pc' := 49) (lo' := [some (.inr (.inr (some 2))), some (.inr (.inr (some 100023))), some (.inl 1)]) (st' := [.inl 1, .inr (.inr (some 100023)), .inl (v 1 ((((v 2 6) + 1)).toNat))]) rfl ?_
        refine r_call (rr := some (.inl 108)) (b' := 1) (v' := v) (m := 30) (args := [.inr (.inr (some 100023)), .inl 1]) (n' := 27) (pc' := 52) (lo' := [some (.inr (.inr (some 2))), some (.inr (.inr (some 100023))), some (.inl 1)]) (st' := [.inl (v 1 ((((v 2 6) + 1)).toNat))]) (I := .invokevirtual 30) (pc0 := 49) (len := 3) rfl rfl rfl ⟨60, rfl⟩ ?_
        show WV _ _ _ 52 _ [.inl 108, .inl (v 1 ((((v 2 6) + 1)).toNat))] _ _ _
        refine n_ic_eq (pc0 := 52) (len := 3) (t := 57) rfl (by first | assumption | omega | (unfold R32 at *; omega) | (unfold R64 at *; omega) | (simp only [R32, R64] at *; omega)) (by first | assumption | omega | (unfold R32 at *; omega) | (unfold R64 at *; omega) | (simp only [R32, R64] at *; omega)) (fun h_52 => ?_) (fun h_52 => ?_)
        · show WV _ _ _ 57 _ _ _ _ _
          rw [if_pos h_52] at hQ
          refine r_ex 4 (pc' := 30) (lo' := [some (.inr (.inr (some 2))), some (.inr (.inr (some 100023))), some (.inl 2)]) (st' := [.inr (.inr (some 100023)), .inl 2]) rfl ?_
          refine r_call (rr := some (.inl 5)) (b' := 1) (v' := v) (m := 28) (args := [.inr (.inr (some 100023))]) (n' := 27) (pc' := 33) (lo' := [some (.inr (.inr (some 2))), some (.inr (.inr (some 100023))), some (.inl 2)]) (st' := [.inl 2]) (I := .invokevirtual 28) (pc0 := 30) (len := 3) rfl rfl rfl ⟨60, rfl⟩ ?_
          show WV _ _ _ 33 _ [.inl 5, .inl 2] _ _ _
          refine r_ex 7 (pc' := 46) (lo' := [some (.inr (.inr (some 2))), some (.inr (.inr (some 100023))), some (.inl 2)]) (st' := [.inl ((v 2 6) + 2), .inr (.inr (some 1))]) rfl ?_
          refine r_bald2 (x := (v 1 ((((v 2 6) + 2)).toNat))) (pc' := 47) (pc0 := 46) (len := 1) rfl (s_1 _) (Or.inl rfl) (by first | assumption | omega | (unfold R32 at *; omega) | (unfold R64 at *; omega) | (simp only [R32, R64] at *; omega)) (by decide) rfl rfl ?_
          have hb_6 : -128 ≤ (v 1 ((((v 2 6) + 2)).toNat)) ∧ (v 1 ((((v 2 6) + 2)).toNat)) ≤ 127 := hX 1 ((((v 2 6) + 2)).toNat)
          refine r_ex 2 (pc' := 49) (lo' := [some (.inr (.inr (some 2))), some (.inr (.inr (some 100023))), some (.inl 2)]) (st' := [.inl 2, .inr (.inr (some 100023)), .inl (v 1 ((((v 2 6) + 2)).toNat))]) rfl ?_
          refine r_call (rr := some (.inl 111)) (b' := 1) (v' := v) (m := 30) (args := [.inr (.inr (some 100023)), .inl 2]) (n' := 27) (pc' := 52) (lo' := [some (.inr (.inr (some 2))), some (.inr (.inr (some 100023))), some (.inl 2)]) (st' := [.inl (v 1 ((((v 2 6) + 2)).toNat))]) (I := .invokevirtual 30) (pc0 := 49) (len := 3) rfl rfl rfl ⟨60, rfl⟩ ?_
          show WV _ _ _ 52 _ [.inl 111, .inl (v 1 ((((v 2 6) + 2)).toNat))] _ _ _
          refine n_ic_eq (pc0 := 52) (len := 3) (t := 57) rfl (by first | assumption | omega | (unfold R32 at *; omega) | (unfold R64 at *; omega) | (simp only [R32, R64] at *; omega)) (by first | assumption | omega | (unfold R32 at *; omega) | (unfold R64 at *; omega) | (simp only [R32, R64] at *; omega)) (fun h_52 => ?_) (fun h_52 => ?_)
          · show WV _ _ _ 57 _ _ _ _ _
            rw [if_pos h_52] at hQ
            refine r_ex 4 (pc' := 30) (lo' := [some (.inr (.inr (some 2))), some (.inr (.inr (some 100023))), some (.inl 3)]) (st' := [.inr (.inr (some 100023)), .inl 3]) rfl ?_
            refine r_call (rr := some (.inl 5)) (b' := 1) (v' := v) (m := 28) (args := [.inr (.inr (some 100023))]) (n' := 27) (pc' := 33) (lo' := [some (.inr (.inr (some 2))), some (.inr (.inr (some 100023))), some (.inl 3)]) (st' := [.inl 3]) (I := .invokevirtual 28) (pc0 := 30) (len := 3) rfl rfl rfl ⟨60, rfl⟩ ?_
            show WV _ _ _ 33 _ [.inl 5, .inl 3] _ _ _
            refine r_ex 7 (pc' := 46) (lo' := [some (.inr (.inr (some 2))), some (.inr (.inr (some 100023))), some (.inl 3)]) (st' := [.inl ((v 2 6) + 3), .inr (.inr (some 1))]) rfl ?_
            refine r_bald2 (x := (v 1 ((((v 2 6) + 3)).toNat))) (pc' := 47) (pc0 := 46) (len := 1) rfl (s_1 _) (Or.inl rfl) (by first | assumption | omega | (unfold R32 at *; omega) | (unfold R64 at *; omega) | (simp only [R32, R64] at *; omega)) (by decide) rfl rfl ?_
            have hb_7 : -128 ≤ (v 1 ((((v 2 6) + 3)).toNat)) ∧ (v 1 ((((v 2 6) + 3)).toNat)) ≤ 127 := hX 1 ((((v 2 6) + 3)).toNat)
            refine r_ex 2 (pc' := 49) (lo' := [some (.inr (.inr (some 2))), some (.inr (.inr (some 100023))), some (.inl 3)]) (st' := [.inl 3, .inr (.inr (some 100023)), .inl (v 1 ((((v 2 6) + 3)).toNat))]) rfl ?_
            refine r_call (rr := some (.inl 110)) (b' := 1) (v' := v) (m := 30) (args := [.inr (.inr (some 100023)), .inl 3]) (n' := 27) (pc' := 52) (lo' := [some (.inr (.inr (some 2))), some (.inr (.inr (some 100023))), some (.inl 3)]) (st' := [.inl (v 1 ((((v 2 6) + 3)).toNat))]) (I := .invokevirtual 30) (pc0 := 49) (len := 3) rfl rfl rfl ⟨60, rfl⟩ ?_
            show WV _ _ _ 52 _ [.inl 110, .inl (v 1 ((((v 2 6) + 3)).toNat))] _ _ _
            refine n_ic_eq (pc0 := 52) (len := 3) (t := 57) rfl (by first | assumption | omega | (unfold R32 at *; omega) | (unfold R64 at *; omega) | (simp only [R32, R64] at *; omega)) (by first | assumption | omega | (unfold R32 at *; omega) | (unfold R64 at *; omega) | (simp only [R32, R64] at *; omega)) (fun h_52 => ?_) (fun h_52 => ?_)
            · show WV _ _ _ 57 _ _ _ _ _
              rw [if_pos h_52] at hQ
              refine r_ex 4 (pc' := 30) (lo' := [some (.inr (.inr (some 2))), some (.inr (.inr (some 100023))), some (.inl 4)]) (st' := [.inr (.inr (some 100023)), .inl 4]) rfl ?_
              refine r_call (rr := some (.inl 5)) (b' := 1) (v' := v) (m := 28) (args := [.inr (.inr (some 100023))]) (n' := 27) (pc' := 33) (lo' := [some (.inr (.inr (some 2))), some (.inr (.inr (some 100023))), some (.inl 4)]) (st' := [.inl 4]) (I := .invokevirtual 28) (pc0 := 30) (len := 3) rfl rfl rfl ⟨60, rfl⟩ ?_
              show WV _ _ _ 33 _ [.inl 5, .inl 4] _ _ _
              refine r_ex 7 (pc' := 46) (lo' := [some (.inr (.inr (some 2))), some (.inr (.inr (some 100023))), some (.inl 4)]) (st' := [.inl ((v 2 6) + 4), .inr (.inr (some 1))]) rfl ?_
              refine r_bald2 (x := (v 1 ((((v 2 6) + 4)).toNat))) (pc' := 47) (pc0 := 46) (len := 1) rfl (s_1 _) (Or.inl rfl) (by first | assumption | omega | (unfold R32 at *; omega) | (unfold R64 at *; omega) | (simp only [R32, R64] at *; omega)) (by decide) rfl rfl ?_
              have hb_8 : -128 ≤ (v 1 ((((v 2 6) + 4)).toNat)) ∧ (v 1 ((((v 2 6) + 4)).toNat)) ≤ 127 := hX 1 ((((v 2 6) + 4)).toNat)
              refine r_ex 2 (pc' := 49) (lo' := [some (.inr (.inr (some 2))), some (.inr (.inr (some 100023))), some (.inl 4)]) (st' := [.inl 4, .inr (.inr (some 100023)), .inl (v 1 ((((v 2 6) + 4)).toNat))]) rfl ?_
              refine r_call (rr := some (.inl 103)) (b' := 1) (v' := v) (m := 30) (args := [.inr (.inr (some 100023)), .inl 4]) (n' := 27) (pc' := 52) (lo' := [some (.inr (.inr (some 2))), some (.inr (.inr (some 100023))), some (.inl 4)]) (st' := [.inl (v 1 ((((v 2 6) + 4)).toNat))]) (I := .invokevirtual 30) (pc0 := 49) (len := 3) rfl rfl rfl ⟨60, rfl⟩ ?_
              show WV _ _ _ 52 _ [.inl 103, .inl (v 1 ((((v 2 6) + 4)).toNat))] _ _ _
              refine n_ic_eq (pc0 := 52) (len := 3) (t := 57) rfl (by first | assumption | omega | (unfold R32 at *; omega) | (unfold R64 at *; omega) | (simp only [R32, R64] at *; omega)) (by first | assumption | omega | (unfold R32 at *; omega) | (unfold R64 at *; omega) | (simp only [R32, R64] at *; omega)) (fun h_52 => ?_) (fun h_52 => ?_)
              · show WV _ _ _ 57 _ _ _ _ _
                rw [if_pos h_52] at hQ
                refine r_ex 4 (pc' := 30) (lo' := [some (.inr (.inr (some 2))), some (.inr (.inr (some 100023))), some (.inl 5)]) (st' := [.inr (.inr (some 100023)), .inl 5]) rfl ?_
                refine r_call (rr := some (.inl 5)) (b' := 1) (v' := v) (m := 28) (args := [.inr (.inr (some 100023))]) (n' := 27) (pc' := 33) (lo' := [some (.inr (.inr (some 2))), some (.inr (.inr (some 100023))), some (.inl 5)]) (st' := [.inl 5]) (I := .invokevirtual 28) (pc0 := 30) (len := 3) rfl rfl rfl ⟨60, rfl⟩ ?_
                show WV _ _ _ 33 _ [.inl 5, .inl 5] _ _ _
                refine r_ex 2 (pc' := 64) (lo' := [some (.inr (.inr (some 2))), some (.inr (.inr (some 100023))), some (.inl 5)]) (st' := [.inl 1]) rfl ?_
                refine r_ret (rr := some (.inl 1)) (I := .ireturn) (pc0 := 64) (len := 1) rfl rfl ?_
                exact hQ (by first | assumption | omega | (unfold R32 at *; omega) | (unfold R64 at *; omega) | (simp only [R32, R64] at *; omega))
              · show WV _ _ _ 55 _ _ _ _ _
                rw [if_neg h_52] at hQ
                refine r_ex 1 (pc' := 56) (lo' := [some (.inr (.inr (some 2))), some (.inr (.inr (some 100023))), some (.inl 4)]) (st' := [.inl 0]) rfl ?_
                refine r_ret (rr := some (.inl 0)) (I := .ireturn) (pc0 := 56) (len := 1) rfl rfl ?_
                exact hQ (by first | assumption | omega | (unfold R32 at *; omega) | (unfold R64 at *; omega) | (simp only [R32, R64] at *; omega))
            · show WV _ _ _ 55 _ _ _ _ _
              rw [if_neg h_52] at hQ
              refine r_ex 1 (pc' := 56) (lo' := [some (.inr (.inr (some 2))), some (.inr (.inr (some 100023))), some (.inl 3)]) (st' := [.inl 0]) rfl ?_
              refine r_ret (rr := some (.inl 0)) (I := .ireturn) (pc0 := 56) (len := 1) rfl rfl ?_
              exact hQ (by first | assumption | omega | (unfold R32 at *; omega) | (unfold R64 at *; omega) | (simp only [R32, R64] at *; omega))
          · show WV _ _ _ 55 _ _ _ _ _
            rw [if_neg h_52] at hQ
            refine r_ex 1 (pc' := 56) (lo' := [some (.inr (.inr (some 2))), some (.inr (.inr (some 100023))), some (.inl 2)]) (st' := [.inl 0]) rfl ?_
            refine r_ret (rr := some (.inl 0)) (I := .ireturn) (pc0 := 56) (len := 1) rfl rfl ?_
            exact hQ (by first | assumption | omega | (unfold R32 at *; omega) | (unfold R64 at *; omega) | (simp only [R32, R64] at *; omega))
        · show WV _ _ _ 55 _ _ _ _ _
          rw [if_neg h_52] at hQ
          refine r_ex 1 (pc' := 56) (lo' := [some (.inr (.inr (some 2))), some (.inr (.inr (some 100023))), some (.inl 1)]) (st' := [.inl 0]) rfl ?_
          refine r_ret (rr := some (.inl 0)) (I := .ireturn) (pc0 := 56) (len := 1) rfl rfl ?_
          exact hQ (by first | assumption | omega | (unfold R32 at *; omega) | (unfold R64 at *; omega) | (simp only [R32, R64] at *; omega))
      · show WV _ _ _ 55 _ _ _ _ _
        rw [if_neg h_52] at hQ
        refine r_ex 1 (pc' := 56) (lo' := [some (.inr (.inr (some 2))), some (.inr (.inr (some 100023))), some (.inl 0)]) (st' := [.inl 0]) rfl ?_
        refine r_ret (rr := some (.inl 0)) (I := .ireturn) (pc0 := 56) (len := 1) rfl rfl ?_
        exact hQ (by first | assumption | omega | (unfold R32 at *; omega) | (unfold R64 at *; omega) | (simp only [R32, R64] at *; omega))
    · show WV _ _ _ 24 _ _ _ _ _
      rw [if_neg h_21] at hQ
      refine r_ex 1 (pc' := 25) (lo' := [some (.inr (.inr (some 2))), some (.inr (.inr (some 100023))), none]) (st' := [.inl 0]) rfl ?_
      refine r_ret (rr := some (.inl 0)) (I := .ireturn) (pc0 := 25) (len := 1) rfl rfl ?_
      exact hQ (by first | assumption | omega | (unfold R32 at *; omega) | (unfold R64 at *; omega) | (simp only [R32, R64] at *; omega))

theorem e_cl_isAt11 {X : PX} {d : Nat} {v : VS}  (hX : XI v) (hp_a : (v 2 7) ≤ (v 2 4)) : EvV X (d + 1 + 1 + 1 + 1) 27 [.inr (.inr (some 2)), .inr (.inr (some 100023))] 1 v (some (.inl (cl_isAt11 v))) 1 v := EvV.of (w_cl_isAt11 hX hp_a (fun _ => ⟨rfl, rfl, rfl⟩))

theorem n_cl_isAt11 {v : VS}  (hX : XI v) (hp_a : (v 2 7) ≤ (v 2 4)) : 0 ≤ (cl_isAt11 v) ∧ (cl_isAt11 v) ≤ 1 := by
  have q : WV (0, fun _ => 0, none) (0 + 1 + 1 + 1 + 1) 27 0 [some (.inr (.inr (some 2))), some (.inr (.inr (some 100023))), none] [] 1 v (fun _ _ _ => 0 ≤ (cl_isAt11 v) ∧ (cl_isAt11 v) ≤ 1) := w_cl_isAt11 (X := (0, fun _ => 0, none)) (d := 0) hX hp_a (fun q => q)
  obtain ⟨_, _, _, _, _, _, _, q⟩ := q
  exact q

def cl_word11 (v : VS)  : VS :=
  (if (v 2 1) = 0 then (if (cl_isAt11 v) = 0 then (cl_fail v 1) else (cl_advance v)) else (cl_fail v 1))
theorem w_cl_word11 {X : PX} {d : Nat} {v : VS}  (hX : XI v) (hp_a : (v 2 7) ≤ (v 2 4)) {Q : Option PV → Nat → VS → Prop} (hQ : XI (cl_word11 v) → (((cl_word11 v) 2 7) ≤ ((cl_word11 v) 2 4)) → Q none 1 (cl_word11 v)) : WV X (d + 1 + 1 + 1 + 1 + 1) 26 0 [some (.inr (.inr (some 2))), some (.inr (.inr (some 100023)))] [] 1 v Q := by
  rw [cl_word11] at hQ
  refine r_ex 2 (pc' := 4) (lo' := [some (.inr (.inr (some 2))), some (.inr (.inr (some 100023)))]) (st' := [.inl (v 2 1)]) rfl ?_
  have hb_1 : 0 ≤ (v 2 1) ∧ (v 2 1) ≤ 3 := hX 2 1
  refine n_if_ne (pc0 := 4) (len := 3) (t := 22) rfl (by first | assumption | omega | (unfold R32 at *; omega) | (unfold R64 at *; omega) | (simp only [R32, R64] at *; omega)) (fun h_4 => ?_) (fun h_4 => ?_)
  · show WV _ _ _ 22 _ _ _ _ _
    rw [if_neg h_4] at hQ
    refine r_ex 2 (pc' := 24) (lo' := [some (.inr (.inr (some 2))), some (.inr (.inr (some 100023)))]) (st' := [.inl 1, .inr (.inr (some 2))]) rfl ?_
    have hp_2 : 1 ≤ (1 : Int) ∧ (1 : Int) ≤ 3 := (by first | assumption | omega | (unfold R32 at *; omega) | (unfold R64 at *; omega) | (simp only [R32, R64] at *; omega))
    have hp_3 : (v 2 7) ≤ (v 2 4) := (show (v 2 7) ≤ (v 2 4) from (by first | assumption | omega | (unfold R32 at *; omega) | (unfold R64 at *; omega) | (simp only [R32, R64] at *; omega)))
    refine r_call (m := 39) (args := [.inr (.inr (some 2)), .inl 1]) (n' := 26) (pc' := 27) (lo' := [some (.inr (.inr (some 2))), some (.inr (.inr (some 100023)))]) (st' := []) (I := .invokevirtual 39) (pc0 := 24) (len := 3) rfl rfl rfl (e_cl_fail hX hp_2 hp_3) ?_
    show WV _ _ _ 27 _ [] _ (cl_fail v 1) _
    have hX_4 : XI (cl_fail v 1) := i_cl_fail (v := v) (k := 1) hX hp_2 hp_3
    have hb_5 : ((cl_fail v 1) 2 7) ≤ ((cl_fail v 1) 2 4) := n_cl_fail (v := v) (k := 1) hX hp_2 hp_3
    refine r_ret (rr := none) (I := .return_) (pc0 := 27) (len := 1) rfl rfl ?_
    exact hQ hX_4 (show ((cl_fail v 1) 2 7) ≤ ((cl_fail v 1) 2 4) from (by first | assumption | omega | (unfold R32 at *; omega) | (unfold R64 at *; omega) | (simp only [R32, R64] at *; omega)))
  · show WV _ _ _ 7 _ _ _ _ _
    rw [if_pos h_4] at hQ
    refine r_ex 2 (pc' := 9) (lo' := [some (.inr (.inr (some 2))), some (.inr (.inr (some 100023)))]) (st' := [.inr (.inr (some 100023)), .inr (.inr (some 2))]) rfl ?_
    have hp_6 : (v 2 7) ≤ (v 2 4) := (show (v 2 7) ≤ (v 2 4) from (by first | assumption | omega | (unfold R32 at *; omega) | (unfold R64 at *; omega) | (simp only [R32, R64] at *; omega)))
    refine r_call (m := 27) (args := [.inr (.inr (some 2)), .inr (.inr (some 100023))]) (n' := 26) (pc' := 12) (lo' := [some (.inr (.inr (some 2))), some (.inr (.inr (some 100023)))]) (st' := []) (I := .invokevirtual 27) (pc0 := 9) (len := 3) rfl rfl rfl (e_cl_isAt11 hX hp_6) ?_
    show WV _ _ _ 12 _ [.inl (cl_isAt11 v)] _ _ _
    have hb_7 := n_cl_isAt11 (v := v) hX hp_6
    refine n_if_eq (pc0 := 12) (len := 3) (t := 22) rfl (by first | assumption | omega | (unfold R32 at *; omega) | (unfold R64 at *; omega) | (simp only [R32, R64] at *; omega)) (fun h_12 => ?_) (fun h_12 => ?_)
    · show WV _ _ _ 22 _ _ _ _ _
      rw [if_pos h_12] at hQ
      refine r_ex 2 (pc' := 24) (lo' := [some (.inr (.inr (some 2))), some (.inr (.inr (some 100023)))]) (st' := [.inl 1, .inr (.inr (some 2))]) rfl ?_
      have hp_8 : 1 ≤ (1 : Int) ∧ (1 : Int) ≤ 3 := (by first | assumption | omega | (unfold R32 at *; omega) | (unfold R64 at *; omega) | (simp only [R32, R64] at *; omega))
      have hp_9 : (v 2 7) ≤ (v 2 4) := (show (v 2 7) ≤ (v 2 4) from (by first | assumption | omega | (unfold R32 at *; omega) | (unfold R64 at *; omega) | (simp only [R32, R64] at *; omega)))
      refine r_call (m := 39) (args := [.inr (.inr (some 2)), .inl 1]) (n' := 26) (pc' := 27) (lo' := [some (.inr (.inr (some 2))), some (.inr (.inr (some 100023)))]) (st' := []) (I := .invokevirtual 39) (pc0 := 24) (len := 3) rfl rfl rfl (e_cl_fail hX hp_8 hp_9) ?_
      show WV _ _ _ 27 _ [] _ (cl_fail v 1) _
      have hX_10 : XI (cl_fail v 1) := i_cl_fail (v := v) (k := 1) hX hp_8 hp_9
      have hb_11 : ((cl_fail v 1) 2 7) ≤ ((cl_fail v 1) 2 4) := n_cl_fail (v := v) (k := 1) hX hp_8 hp_9
      refine r_ret (rr := none) (I := .return_) (pc0 := 27) (len := 1) rfl rfl ?_
      exact hQ hX_10 (show ((cl_fail v 1) 2 7) ≤ ((cl_fail v 1) 2 4) from (by first | assumption | omega | (unfold R32 at *; omega) | (unfold R64 at *; omega) | (simp only [R32, R64] at *; omega)))
    · show WV _ _ _ 15 _ _ _ _ _
      rw [if_neg h_12] at hQ
      refine r_ex 1 (pc' := 16) (lo' := [some (.inr (.inr (some 2))), some (.inr (.inr (some 100023)))]) (st' := [.inr (.inr (some 2))]) rfl ?_
      have hp_12 : (v 2 7) ≤ (v 2 4) := (show (v 2 7) ≤ (v 2 4) from (by first | assumption | omega | (unfold R32 at *; omega) | (unfold R64 at *; omega) | (simp only [R32, R64] at *; omega)))
      refine r_call (m := 21) (args := [.inr (.inr (some 2))]) (n' := 26) (pc' := 19) (lo' := [some (.inr (.inr (some 2))), some (.inr (.inr (some 100023)))]) (st' := []) (I := .invokevirtual 21) (pc0 := 16) (len := 3) rfl rfl rfl (e_cl_advance hX hp_12) ?_
      show WV _ _ _ 19 _ [] _ (cl_advance v) _
      have hX_13 : XI (cl_advance v) := i_cl_advance (v := v) hX hp_12
      have hb_14 : ((cl_advance v) 2 7) ≤ ((cl_advance v) 2 4) := n_cl_advance (v := v) hX hp_12
      refine r_ex 1 (pc' := 27) (lo' := [some (.inr (.inr (some 2))), some (.inr (.inr (some 100023)))]) (st' := []) rfl ?_
      refine r_ret (rr := none) (I := .return_) (pc0 := 27) (len := 1) rfl rfl ?_
      exact hQ hX_13 (show ((cl_advance v) 2 7) ≤ ((cl_advance v) 2 4) from (by first | assumption | omega | (unfold R32 at *; omega) | (unfold R64 at *; omega) | (simp only [R32, R64] at *; omega)))

theorem e_cl_word11 {X : PX} {d : Nat} {v : VS}  (hX : XI v) (hp_a : (v 2 7) ≤ (v 2 4)) : EvV X (d + 1 + 1 + 1 + 1 + 1) 26 [.inr (.inr (some 2)), .inr (.inr (some 100023))] 1 v none 1 (cl_word11 v) := EvV.of (w_cl_word11 hX hp_a (fun _ _ => ⟨rfl, rfl, rfl⟩))

theorem i_cl_word11 {v : VS}  (hX : XI v) (hp_a : (v 2 7) ≤ (v 2 4)) : XI (cl_word11 v) := by
  have q : WV (0, fun _ => 0, none) (0 + 1 + 1 + 1 + 1 + 1) 26 0 [some (.inr (.inr (some 2))), some (.inr (.inr (some 100023)))] [] 1 v (fun _ _ _ => XI (cl_word11 v)) := w_cl_word11 (X := (0, fun _ => 0, none)) (d := 0) hX hp_a (fun q _ => q)
  obtain ⟨_, _, _, _, _, _, _, q⟩ := q
  exact q

theorem n_cl_word11 {v : VS}  (hX : XI v) (hp_a : (v 2 7) ≤ (v 2 4)) : ((cl_word11 v) 2 7) ≤ ((cl_word11 v) 2 4) := by
  have q : WV (0, fun _ => 0, none) (0 + 1 + 1 + 1 + 1 + 1) 26 0 [some (.inr (.inr (some 2))), some (.inr (.inr (some 100023)))] [] 1 v (fun _ _ _ => ((cl_word11 v) 2 7) ≤ ((cl_word11 v) 2 4)) := w_cl_word11 (X := (0, fun _ => 0, none)) (d := 0) hX hp_a (fun _ q => q)
  obtain ⟨_, _, _, _, _, _, _, q⟩ := q
  exact q

theorem o_cl_word11 {rk : Nat} {v : VS}  (hk : (rk < 2 ∨ 2 < rk)) : (cl_word11 v ) rk = v rk := by
  unfold cl_word11
  by_cases hc_ : (v 2 1) = 0
  · rw [if_pos hc_]
    by_cases hc_ : (cl_isAt11 v) = 0
    · rw [if_pos hc_]
      all_goals (show (cl_fail v 1) rk = _)
      all_goals (rw [o_cl_fail (by omega)])
    · rw [if_neg hc_]
      all_goals (show (cl_advance v) rk = _)
      all_goals (rw [o_cl_advance (by omega)])
  · rw [if_neg hc_]
    all_goals (show (cl_fail v 1) rk = _)
    all_goals (rw [o_cl_fail (by omega)])

def cl_isAt12 (v : VS)  : Int :=
  (if (v 2 5) = 1 then (if 7 = ((v 2 7) - (v 2 6)) then (if (v 1 ((((v 2 6) + 0)).toNat)) = 97 then (if (v 1 ((((v 2 6) + 1)).toNat)) = 103 then (if (v 1 ((((v 2 6) + 2)).toNat)) = 97 then (if (v 1 ((((v 2 6) + 3)).toNat)) = 105 then (if (v 1 ((((v 2 6) + 4)).toNat)) = 110 then (if (v 1 ((((v 2 6) + 5)).toNat)) = 115 then (if (v 1 ((((v 2 6) + 6)).toNat)) = 116 then 1 else 0) else 0) else 0) else 0) else 0) else 0) else 0) else 0) else 0)
theorem w_cl_isAt12 {X : PX} {d : Nat} {v : VS}  (hX : XI v) (hp_a : (v 2 7) ≤ (v 2 4)) {Q : Option PV → Nat → VS → Prop} (hQ : (0 ≤ (cl_isAt12 v) ∧ (cl_isAt12 v) ≤ 1) → Q (some (.inl (cl_isAt12 v))) 1 v) : WV X (d + 1 + 1 + 1 + 1) 27 0 [some (.inr (.inr (some 2))), some (.inr (.inr (some 100025))), none] [] 1 v Q := by
  rw [cl_isAt12] at hQ
  have hz6 : 0 ≤ v 2 6 ∧ v 2 6 ≤ 2000 := hX 2 6
  have hz7 : 0 ≤ v 2 7 ∧ v 2 7 ≤ 2001 := hX 2 7
  have hz4 : 0 ≤ v 2 4 ∧ v 2 4 ≤ 2000 := hX 2 4
  refine r_ex 3 (pc' := 5) (lo' := [some (.inr (.inr (some 2))), some (.inr (.inr (some 100025))), none]) (st' := [.inl 1, .inl (v 2 5)]) rfl ?_
  have hb_1 : 0 ≤ (v 2 5) ∧ (v 2 5) ≤ 4 := hX 2 5
  refine n_ic_ne (pc0 := 5) (len := 3) (t := 24) rfl (by first | assumption | omega | (unfold R32 at *; omega) | (unfold R64 at *; omega) | (simp only [R32, R64] at *; omega)) (by first | assumption | omega | (unfold R32 at *; omega) | (unfold R64 at *; omega) | (simp only [R32, R64] at *; omega)) (fun h_5 => ?_) (fun h_5 => ?_)
  · show WV _ _ _ 24 _ _ _ _ _
    rw [if_neg h_5] at hQ
    refine r_ex 1 (pc' := 25) (lo' := [some (.inr (.inr (some 2))), some (.inr (.inr (some 100025))), none]) (st' := [.inl 0]) rfl ?_
    refine r_ret (rr := some (.inl 0)) (I := .ireturn) (pc0 := 25) (len := 1) rfl rfl ?_
    exact hQ (by first | assumption | omega | (unfold R32 at *; omega) | (unfold R64 at *; omega) | (simp only [R32, R64] at *; omega))
  · show WV _ _ _ 8 _ _ _ _ _
    rw [if_pos h_5] at hQ
    refine r_ex 1 (pc' := 9) (lo' := [some (.inr (.inr (some 2))), some (.inr (.inr (some 100025))), none]) (st' := [.inr (.inr (some 100025))]) rfl ?_
    refine r_call (rr := some (.inl 7)) (b' := 1) (v' := v) (m := 28) (args := [.inr (.inr (some 100025))]) (n' := 27) (pc' := 12) (lo' := [some (.inr (.inr (some 2))), some (.inr (.inr (some 100025))), none]) (st' := []) (I := .invokevirtual 28) (pc0 := 9) (len := 3) rfl rfl rfl ⟨60, rfl⟩ ?_
    show WV _ _ _ 12 _ [.inl 7] _ _ _
    refine r_ex 5 (pc' := 21) (lo' := [some (.inr (.inr (some 2))), some (.inr (.inr (some 100025))), none]) (st' := [.inl ((v 2 7) - (v 2 6)), .inl 7]) rfl ?_
    have hb_2 : 0 ≤ (v 2 7) ∧ (v 2 7) ≤ 2001 := hX 2 7
    have hb_3 : 0 ≤ (v 2 6) ∧ (v 2 6) ≤ 2000 := hX 2 6
    refine n_ic_eq (pc0 := 21) (len := 3) (t := 26) rfl (by first | assumption | omega | (unfold R32 at *; omega) | (unfold R64 at *; omega) | (simp only [R32, R64] at *; omega)) (by first | assumption | omega | (unfold R32 at *; omega) | (unfold R64 at *; omega) | (simp only [R32, R64] at *; omega)) (fun h_21 => ?_) (fun h_21 => ?_)
    · show WV _ _ _ 26 _ _ _ _ _
      rw [if_pos h_21] at hQ
      refine r_ex 4 (pc' := 30) (lo' := [some (.inr (.inr (some 2))), some (.inr (.inr (some 100025))), some (.inl 0)]) (st' := [.inr (.inr (some 100025)), .inl 0]) rfl ?_
      refine r_call (rr := some (.inl 7)) (b' := 1) (v' := v) (m := 28) (args := [.inr (.inr (some 100025))]) (n' := 27) (pc' := 33) (lo' := [some (.inr (.inr (some 2))), some (.inr (.inr (some 100025))), some (.inl 0)]) (st' := [.inl 0]) (I := .invokevirtual 28) (pc0 := 30) (len := 3) rfl rfl rfl ⟨60, rfl⟩ ?_
      show WV _ _ _ 33 _ [.inl 7, .inl 0] _ _ _
      refine r_ex 7 (pc' := 46) (lo' := [some (.inr (.inr (some 2))), some (.inr (.inr (some 100025))), some (.inl 0)]) (st' := [.inl ((v 2 6) + 0), .inr (.inr (some 1))]) rfl ?_
      refine r_bald2 (x := (v 1 ((((v 2 6) + 0)).toNat))) (pc' := 47) (pc0 := 46) (len := 1) rfl (s_1 _) (Or.inl rfl) (by first | assumption | omega | (unfold R32 at *; omega) | (unfold R64 at *; omega) | (simp only [R32, R64] at *; omega)) (by decide) rfl rfl ?_
      have hb_4 : -128 ≤ (v 1 ((((v 2 6) + 0)).toNat)) ∧ (v 1 ((((v 2 6) + 0)).toNat)) ≤ 127 := hX 1 ((((v 2 6) + 0)).toNat)
      refine r_ex 2 (pc' := 49) (lo' := [some (.inr (.inr (some 2))), some (.inr (.inr (some 100025))), some (.inl 0)]) (st' := [.inl 0, .inr (.inr (some 100025)), .inl (v 1 ((((v 2 6) + 0)).toNat))]) rfl ?_
      refine r_call (rr := some (.inl 97)) (b' := 1) (v' := v) (m := 30) (args := [.inr (.inr (some 100025)), .inl 0]) (n' := 27) (pc' := 52) (lo' := [some (.inr (.inr (some 2))), some (.inr (.inr (some 100025))), some (.inl 0)]) (st' := [.inl (v 1 ((((v 2 6) + 0)).toNat))]) (I := .invokevirtual 30) (pc0 := 49) (len := 3) rfl rfl rfl ⟨60, rfl⟩ ?_
      show WV _ _ _ 52 _ [.inl 97, .inl (v 1 ((((v 2 6) + 0)).toNat))] _ _ _
      refine n_ic_eq (pc0 := 52) (len := 3) (t := 57) rfl (by first | assumption | omega | (unfold R32 at *; omega) | (unfold R64 at *; omega) | (simp only [R32, R64] at *; omega)) (by first | assumption | omega | (unfold R32 at *; omega) | (unfold R64 at *; omega) | (simp only [R32, R64] at *; omega)) (fun h_52 => ?_) (fun h_52 => ?_)
      · show WV _ _ _ 57 _ _ _ _ _
        rw [if_pos h_52] at hQ
        refine r_ex 4 (pc' := 30) (lo' := [some (.inr (.inr (some 2))), some (.inr (.inr (some 100025))), some (.inl 1)]) (st' := [.inr (.inr (some 100025)), .inl 1]) rfl ?_
        refine r_call (rr := some (.inl 7)) (b' := 1) (v' := v) (m := 28) (args := [.inr (.inr (some 100025))]) (n' := 27) (pc' := 33) (lo' := [some (.inr (.inr (some 2))), some (.inr (.inr (some 100025))), some (.inl 1)]) (st' := [.inl 1]) (I := .invokevirtual 28) (pc0 := 30) (len := 3) rfl rfl rfl ⟨60, rfl⟩ ?_
        show WV _ _ _ 33 _ [.inl 7, .inl 1] _ _ _
        refine r_ex 7 (pc' := 46) (lo' := [some (.inr (.inr (some 2))), some (.inr (.inr (some 100025))), some (.inl 1)]) (st' := [.inl ((v 2 6) + 1), .inr (.inr (some 1))]) rfl ?_
        refine r_bald2 (x := (v 1 ((((v 2 6) + 1)).toNat))) (pc' := 47) (pc0 := 46) (len := 1) rfl (s_1 _) (Or.inl rfl) (by first | assumption | omega | (unfold R32 at *; omega) | (unfold R64 at *; omega) | (simp only [R32, R64] at *; omega)) (by decide) rfl rfl ?_
        have hb_5 : -128 ≤ (v 1 ((((v 2 6) + 1)).toNat)) ∧ (v 1 ((((v 2 6) + 1)).toNat)) ≤ 127 := hX 1 ((((v 2 6) + 1)).toNat)
        refine r_ex 2 (pc' := 49) (lo' := [some (.inr (.inr (some 2))), some (.inr (.inr (some 100025))), some (.inl 1)]) (st' := [.inl 1, .inr (.inr (some 100025)), .inl (v 1 ((((v 2 6) + 1)).toNat))]) rfl ?_
        refine r_call (rr := some (.inl 103)) (b' := 1) (v' := v) (m := 30) (args := [.inr (.inr (some 100025)), .inl 1]) (n' := 27) (pc' := 52) (lo' := [some (.inr (.inr (some 2))), some (.inr (.inr (some 100025))), some (.inl 1)]) (st' := [.inl (v 1 ((((v 2 6) + 1)).toNat))]) (I := .invokevirtual 30) (pc0 := 49) (len := 3) rfl rfl rfl ⟨60, rfl⟩ ?_
        show WV _ _ _ 52 _ [.inl 103, .inl (v 1 ((((v 2 6) + 1)).toNat))] _ _ _
        refine n_ic_eq (pc0 := 52) (len := 3) (t := 57) rfl (by first | assumption | omega | (unfold R32 at *; omega) | (unfold R64 at *; omega) | (simp only [R32, R64] at *; omega)) (by first | assumption | omega | (unfold R32 at *; omega) | (unfold R64 at *; omega) | (simp only [R32, R64] at *; omega)) (fun h_52 => ?_) (fun h_52 => ?_)
        · show WV _ _ _ 57 _ _ _ _ _
          rw [if_pos h_52] at hQ
          refine r_ex 4 (pc' := 30) (lo' := [some (.inr (.inr (some 2))), some (.inr (.inr (some 100025))), some (.inl 2)]) (st' := [.inr (.inr (some 100025)), .inl 2]) rfl ?_
          refine r_call (rr := some (.inl 7)) (b' := 1) (v' := v) (m := 28) (args := [.inr (.inr (some 100025))]) (n' := 27) (pc' := 33) (lo' := [some (.inr (.inr (some 2))), some (.inr (.inr (some 100025))), some (.inl 2)]) (st' := [.inl 2]) (I := .invokevirtual 28) (pc0 := 30) (len := 3) rfl rfl rfl ⟨60, rfl⟩ ?_
          show WV _ _ _ 33 _ [.inl 7, .inl 2] _ _ _
          refine r_ex 7 (pc' := 46) (lo' := [some (.inr (.inr (some 2))), some (.inr (.inr (some 100025))), some (.inl 2)]) (st' := [.inl ((v 2 6) + 2), .inr (.inr (some 1))]) rfl ?_
          refine r_bald2 (x := (v 1 ((((v 2 6) + 2)).toNat))) (pc' := 47) (pc0 := 46) (len := 1) rfl (s_1 _) (Or.inl rfl) (by first | assumption | omega | (unfold R32 at *; omega) | (unfold R64 at *; omega) | (simp only [R32, R64] at *; omega)) (by decide) rfl rfl ?_
          have hb_6 : -128 ≤ (v 1 ((((v 2 6) + 2)).toNat)) ∧ (v 1 ((((v 2 6) + 2)).toNat)) ≤ 127 := hX 1 ((((v 2 6) + 2)).toNat)
          refine r_ex 2 (pc' := 49) (lo' := [some (.inr (.inr (some 2))), some (.inr (.inr (some 100025))), some (.inl 2)]) (st' := [.inl 2, .inr (.inr (some 100025)), .inl (v 1 ((((v 2 6) + 2)).toNat))]) rfl ?_
          refine r_call (rr := some (.inl 97)) (b' := 1) (v' := v) (m := 30) (args := [.inr (.inr (some 100025)), .inl 2]) (n' := 27) (pc' := 52) (lo' := [some (.inr (.inr (some 2))), some (.inr (.inr (some 100025))), some (.inl 2)]) (st' := [.inl (v 1 ((((v 2 6) + 2)).toNat))]) (I := .invokevirtual 30) (pc0 := 49) (len := 3) rfl rfl rfl ⟨60, rfl⟩ ?_
          show WV _ _ _ 52 _ [.inl 97, .inl (v 1 ((((v 2 6) + 2)).toNat))] _ _ _
          refine n_ic_eq (pc0 := 52) (len := 3) (t := 57) rfl (by first | assumption | omega | (unfold R32 at *; omega) | (unfold R64 at *; omega) | (simp only [R32, R64] at *; omega)) (by first | assumption | omega | (unfold R32 at *; omega) | (unfold R64 at *; omega) | (simp only [R32, R64] at *; omega)) (fun h_52 => ?_) (fun h_52 => ?_)
          · show WV _ _ _ 57 _ _ _ _ _
            rw [if_pos h_52] at hQ
            refine r_ex 4 (pc' := 30) (lo' := [some (.inr (.inr (some 2))), some (.inr (.inr (some 100025))), some (.inl 3)]) (st' := [.inr (.inr (some 100025)), .inl 3]) rfl ?_
            refine r_call (rr := some (.inl 7)) (b' := 1) (v' := v) (m := 28) (args := [.inr (.inr (some 100025))]) (n' := 27) (pc' := 33) (lo' := [some (.inr (.inr (some 2))), some (.inr (.inr (some 100025))), some (.inl 3)]) (st' := [.inl 3]) (I := .invokevirtual 28) (pc0 := 30) (len := 3) rfl rfl rfl ⟨60, rfl⟩ ?_
            show WV _ _ _ 33 _ [.inl 7, .inl 3] _ _ _
            refine r_ex 7 (pc' := 46) (lo' := [some (.inr (.inr (some 2))), some (.inr (.inr (some 100025))), some (.inl 3)]) (st' := [.inl ((v 2 6) + 3), .inr (.inr (some 1))]) rfl ?_
            refine r_bald2 (x := (v 1 ((((v 2 6) + 3)).toNat))) (pc' := 47) (pc0 := 46) (len := 1) rfl (s_1 _) (Or.inl rfl) (by first | assumption | omega | (unfold R32 at *; omega) | (unfold R64 at *; omega) | (simp only [R32, R64] at *; omega)) (by decide) rfl rfl ?_
            have hb_7 : -128 ≤ (v 1 ((((v 2 6) + 3)).toNat)) ∧ (v 1 ((((v 2 6) + 3)).toNat)) ≤ 127 := hX 1 ((((v 2 6) + 3)).toNat)
            refine r_ex 2 (pc' := 49) (lo' := [some (.inr (.inr (some 2))), some (.inr (.inr (some 100025))), some (.inl 3)]) (st' := [.inl 3, .inr (.inr (some 100025)), .inl (v 1 ((((v 2 6) + 3)).toNat))]) rfl ?_
            refine r_call (rr := some (.inl 105)) (b' := 1) (v' := v) (m := 30) (args := [.inr (.inr (some 100025)), .inl 3]) (n' := 27) (pc' := 52) (lo' := [some (.inr (.inr (some 2))), some (.inr (.inr (some 100025))), some (.inl 3)]) (st' := [.inl (v 1 ((((v 2 6) + 3)).toNat))]) (I := .invokevirtual 30) (pc0 := 49) (len := 3) rfl rfl rfl ⟨60, rfl⟩ ?_
            show WV _ _ _ 52 _ [.inl 105, .inl (v 1 ((((v 2 6) + 3)).toNat))] _ _ _
            refine n_ic_eq (pc0 := 52) (len := 3) (t := 57) rfl (by first | assumption | omega | (unfold R32 at *; omega) | (unfold R64 at *; omega) | (simp only [R32, R64] at *; omega)) (by first | assumption | omega | (unfold R32 at *; omega) | (unfold R64 at *; omega) | (simp only [R32, R64] at *; omega)) (fun h_52 => ?_) (fun h_52 => ?_)
            · show WV _ _ _ 57 _ _ _ _ _
              rw [if_pos h_52] at hQ
              refine r_ex 4 (pc' := 30) (lo' := [some (.inr (.inr (some 2))), some (.inr (.inr (some 100025))), some (.inl 4)]) (st' := [.inr (.inr (some 100025)), .inl 4]) rfl ?_
              refine r_call (rr := some (.inl 7)) (b' := 1) (v' := v) (m := 28) (args := [.inr (.inr (some 100025))]) (n' := 27) (pc' := 33) (lo' := [some (.inr (.inr (some 2))), some (.inr (.inr (some 100025))), some (.inl 4)]) (st' := [.inl 4]) (I := .invokevirtual 28) (pc0 := 30) (len := 3) rfl rfl rfl ⟨60, rfl⟩ ?_
              show WV _ _ _ 33 _ [.inl 7, .inl 4] _ _ _
              refine r_ex 7 (pc' := 46) (lo' := [some (.inr (.inr (some 2))), some (.inr (.inr (some 100025))), some (.inl 4)]) (st' := [.inl ((v 2 6) + 4), .inr (.inr (some 1))]) rfl ?_
              refine r_bald2 (x := (v 1 ((((v 2 6) + 4)).toNat))) (pc' := 47) (pc0 := 46) (len := 1) rfl (s_1 _) (Or.inl rfl) (by first | assumption | omega | (unfold R32 at *; omega) | (unfold R64 at *; omega) | (simp only [R32, R64] at *; omega)) (by decide) rfl rfl ?_
              have hb_8 : -128 ≤ (v 1 ((((v 2 6) + 4)).toNat)) ∧ (v 1 ((((v 2 6) + 4)).toNat)) ≤ 127 := hX 1 ((((v 2 6) + 4)).toNat)
              refine r_ex 2 (pc' := 49) (lo' := [some (.inr (.inr (some 2))), some (.inr (.inr (some 100025))), some (.inl 4)]) (st' := [.inl 4, .inr (.inr (some 100025)), .inl (v 1 ((((v 2 6) + 4)).toNat))]) rfl ?_
              refine r_call (rr := some (.inl 110)) (b' := 1) (v' := v) (m := 30) (args := [.inr (.inr (some 100025)), .inl 4]) (n' := 27) (pc' := 52) (lo' := [some (.inr (.inr (some 2))), some (.inr (.inr (some 100025))), some (.inl 4)]) (st' := [.inl (v 1 ((((v 2 6) + 4)).toNat))]) (I := .invokevirtual 30) (pc0 := 49) (len := 3) rfl rfl rfl ⟨60, rfl⟩ ?_
              show WV _ _ _ 52 _ [.inl 110, .inl (v 1 ((((v 2 6) + 4)).toNat))] _ _ _
              refine n_ic_eq (pc0 := 52) (len := 3) (t := 57) rfl (by first | assumption | omega | (unfold R32 at *; omega) | (unfold R64 at *; omega) | (simp only [R32, R64] at *; omega)) (by first | assumption | omega | (unfold R32 at *; omega) | (unfold R64 at *; omega) | (simp only [R32, R64] at *; omega)) (fun h_52 => ?_) (fun h_52 => ?_)
              · show WV _ _ _ 57 _ _ _ _ _
                rw [if_pos h_52] at hQ
                refine r_ex 4 (pc' := 30) (lo' := [some (.inr (.inr (some 2))), some (.inr (.inr (some 100025))), some (.inl 5)]) (st' := [.inr (.inr (some 100025)), .inl 5]) rfl ?_
                refine r_call (rr := some (.inl 7)) (b' := 1) (v' := v) (m := 28) (args := [.inr (.inr (some 100025))]) (n' := 27) (pc' := 33) (lo' := [some (.inr (.inr (some 2))), some (.inr (.inr (some 100025))), some (.inl 5)]) (st' := [.inl 5]) (I := .invokevirtual 28) (pc0 := 30) (len := 3) rfl rfl rfl ⟨60, rfl⟩ ?_
                show WV _ _ _ 33 _ [.inl 7, .inl 5] _ _ _
                refine r_ex 7 (pc' := 46) (lo' := [some (.inr (.inr (some 2))), some (.inr (.inr (some 100025))), some (.inl 5)]) (st' := [.inl ((v 2 6) + 5), .inr (.inr (some 1))]) rfl ?_
                refine r_bald2 (x := (v 1 ((((v 2 6) + 5)).toNat))) (pc' := 47) (pc0 := 46) (len := 1) rfl (s_1 _) (Or.inl rfl) (by first | assumption | omega | (unfold R32 at *; omega) | (unfold R64 at *; omega) | (simp only [R32, R64] at *; omega)) (by decide) rfl rfl ?_
                have hb_9 : -128 ≤ (v 1 ((((v 2 6) + 5)).toNat)) ∧ (v 1 ((((v 2 6) + 5)).toNat)) ≤ 127 := hX 1 ((((v 2 6) + 5)).toNat)
                refine r_ex 2 (pc' := 49) (lo' := [some (.inr (.inr (some 2))), some (.inr (.inr (some 100025))), some (.inl 5)]) (st' := [.inl 5, .inr (.inr (some 100025)), .inl (v 1 ((((v 2 6) + 5)).toNat))]) rfl ?_
                refine r_call (rr := some (.inl 115)) (b' := 1) (v' := v) (m := 30) (args := [.inr (.inr (some 100025)), .inl 5]) (n' := 27) (pc' := 52) (lo' := [some (.inr (.inr (some 2))), some (.inr (.inr (some 100025))), some (.inl 5)]) (st' := [.inl (v 1 ((((v 2 6) + 5)).toNat))]) (I := .invokevirtual 30) (pc0 := 49) (len := 3) rfl rfl rfl ⟨60, rfl⟩ ?_
                show WV _ _ _ 52 _ [.inl 115, .inl (v 1 ((((v 2 6) + 5)).toNat))] _ _ _
                refine n_ic_eq (pc0 := 52) (len := 3) (t := 57) rfl (by first | assumption | omega | (unfold R32 at *; omega) | (unfold R64 at *; omega) | (simp only [R32, R64] at *; omega)) (by first | assumption | omega | (unfold R32 at *; omega) | (unfold R64 at *; omega) | (simp only [R32, R64] at *; omega)) (fun h_52 => ?_) (fun h_52 => ?_)
                · show WV _ _ _ 57 _ _ _ _ _
                  rw [if_pos h_52] at hQ
                  refine r_ex 4 (pc' := 30) (lo' := [some (.inr (.inr (some 2))), some (.inr (.inr (some 100025))), some (.inl 6)]) (st' := [.inr (.inr (some 100025)), .inl 6]) rfl ?_
                  refine r_call (rr := some (.inl 7)) (b' := 1) (v' := v) (m := 28) (args := [.inr (.inr (some 100025))]) (n' := 27) (pc' := 33) (lo' := [some (.inr (.inr (some 2))), some (.inr (.inr (some 100025))), some (.inl 6)]) (st' := [.inl 6]) (I := .invokevirtual 28) (pc0 := 30) (len := 3) rfl rfl rfl ⟨60, rfl⟩ ?_
                  show WV _ _ _ 33 _ [.inl 7, .inl 6] _ _ _
                  refine r_ex 7 (pc' := 46) (lo' := [some (.inr (.inr (some 2))), some (.inr (.inr (some 100025))), some (.inl 6)]) (st' := [.inl ((v 2 6) + 6), .inr (.inr (some 1))]) rfl ?_
                  refine r_bald2 (x := (v 1 ((((v 2 6) + 6)).toNat))) (pc' := 47) (pc0 := 46) (len := 1) rfl (s_1 _) (Or.inl rfl) (by first | assumption | omega | (unfold R32 at *; omega) | (unfold R64 at *; omega) | (simp only [R32, R64] at *; omega)) (by decide) rfl rfl ?_
                  have hb_10 : -128 ≤ (v 1 ((((v 2 6) + 6)).toNat)) ∧ (v 1 ((((v 2 6) + 6)).toNat)) ≤ 127 := hX 1 ((((v 2 6) + 6)).toNat)
                  refine r_ex 2 (pc' := 49) (lo' := [some (.inr (.inr (some 2))), some (.inr (.inr (some 100025))), some (.inl 6)]) (st' := [.inl 6, .inr (.inr (some 100025)), .inl (v 1 ((((v 2 6) + 6)).toNat))]) rfl ?_
                  refine r_call (rr := some (.inl 116)) (b' := 1) (v' := v) (m := 30) (args := [.inr (.inr (some 100025)), .inl 6]) (n' := 27) (pc' := 52) (lo' := [some (.inr (.inr (some 2))), some (.inr (.inr (some 100025))), some (.inl 6)]) (st' := [.inl (v 1 ((((v 2 6) + 6)).toNat))]) (I := .invokevirtual 30) (pc0 := 49) (len := 3) rfl rfl rfl ⟨60, rfl⟩ ?_
                  show WV _ _ _ 52 _ [.inl 116, .inl (v 1 ((((v 2 6) + 6)).toNat))] _ _ _
                  refine n_ic_eq (pc0 := 52) (len := 3) (t := 57) rfl (by first | assumption | omega | (unfold R32 at *; omega) | (unfold R64 at *; omega) | (simp only [R32, R64] at *; omega)) (by first | assumption | omega | (unfold R32 at *; omega) | (unfold R64 at *; omega) | (simp only [R32, R64] at *; omega)) (fun h_52 => ?_) (fun h_52 => ?_)
                  · show WV _ _ _ 57 _ _ _ _ _
                    rw [if_pos h_52] at hQ
                    refine r_ex 4 (pc' := 30) (lo' := [some (.inr (.inr (some 2))), some (.inr (.inr (some 100025))), some (.inl 7)]) (st' := [.inr (.inr (some 100025)), .inl 7]) rfl ?_
                    refine r_call (rr := some (.inl 7)) (b' := 1) (v' := v) (m := 28) (args := [.inr (.inr (some 100025))]) (n' := 27) (pc' := 33) (lo' := [some (.inr (.inr (some 2))), some (.inr (.inr (some 100025))), some (.inl 7)]) (st' := [.inl 7]) (I := .invokevirtual 28) (pc0 := 30) (len := 3) rfl rfl rfl ⟨60, rfl⟩ ?_
                    show WV _ _ _ 33 _ [.inl 7, .inl 7] _ _ _
                    refine r_ex 2 (pc' := 64) (lo' := [some (.inr (.inr (some 2))), some (.inr (.inr (some 100025))), some (.inl 7)]) (st' := [.inl 1]) rfl ?_
                    refine r_ret (rr := some (.inl 1)) (I := .ireturn) (pc0 := 64) (len := 1) rfl rfl ?_
                    exact hQ (by first | assumption | omega | (unfold R32 at *; omega) | (unfold R64 at *; omega) | (simp only [R32, R64] at *; omega))
                  · show WV _ _ _ 55 _ _ _ _ _
                    rw [if_neg h_52] at hQ
                    refine r_ex 1 (pc' := 56) (lo' := [some (.inr (.inr (some 2))), some (.inr (.inr (some 100025))), some (.inl 6)]) (st' := [.inl 0]) rfl ?_
                    refine r_ret (rr := some (.inl 0)) (I := .ireturn) (pc0 := 56) (len := 1) rfl rfl ?_
                    exact hQ (by first | assumption | omega | (unfold R32 at *; omega) | (unfold R64 at *; omega) | (simp only [R32, R64] at *; omega))
                · show WV _ _ _ 55 _ _ _ _ _
                  rw [if_neg h_52] at hQ
                  refine r_ex 1 (pc' := 56) (lo' := [some (.inr (.inr (some 2))), some (.inr (.inr (some 100025))), some (.inl 5)]) (st' := [.inl 0]) rfl ?_
                  refine r_ret (rr := some (.inl 0)) (I := .ireturn) (pc0 := 56) (len := 1) rfl rfl ?_
                  exact hQ (by first | assumption | omega | (unfold R32 at *; omega) | (unfold R64 at *; omega) | (simp only [R32, R64] at *; omega))
              · show WV _ _ _ 55 _ _ _ _ _
                rw [if_neg h_52] at hQ
                refine r_ex 1 (pc' := 56) (lo' := [some (.inr (.inr (some 2))), some (.inr (.inr (some 100025))), some (.inl 4)]) (st' := [.inl 0]) rfl ?_
                refine r_ret (rr := some (.inl 0)) (I := .ireturn) (pc0 := 56) (len := 1) rfl rfl ?_
                exact hQ (by first | assumption | omega | (unfold R32 at *; omega) | (unfold R64 at *; omega) | (simp only [R32, R64] at *; omega))
            · show WV _ _ _ 55 _ _ _ _ _
              rw [if_neg h_52] at hQ
              refine r_ex 1 (pc' := 56) (lo' := [some (.inr (.inr (some 2))), some (.inr (.inr (some 100025))), some (.inl 3)]) (st' := [.inl 0]) rfl ?_
              refine r_ret (rr := some (.inl 0)) (I := .ireturn) (pc0 := 56) (len := 1) rfl rfl ?_
              exact hQ (by first | assumption | omega | (unfold R32 at *; omega) | (unfold R64 at *; omega) | (simp only [R32, R64] at *; omega))
          · show WV _ _ _ 55 _ _ _ _ _
            rw [if_neg h_52] at hQ
            refine r_ex 1 (pc' := 56) (lo' := [some (.inr (.inr (some 2))), some (.inr (.inr (some 100025))), some (.inl 2)]) (st' := [.inl 0]) rfl ?_
            refine r_ret (rr := some (.inl 0)) (I := .ireturn) (pc0 := 56) (len := 1) rfl rfl ?_
            exact hQ (by first | assumption | omega | (unfold R32 at *; omega) | (unfold R64 at *; omega) | (simp only [R32, R64] at *; omega))
        · show WV _ _ _ 55 _ _ _ _ _
          rw [if_neg h_52] at hQ
          refine r_ex 1 (pc' := 56) (lo' := [some (.inr (.inr (some 2))), some (.inr (.inr (some 100025))), some (.inl 1)]) (st' := [.inl 0]) rfl ?_
          refine r_ret (rr := some (.inl 0)) (I := .ireturn) (pc0 := 56) (len := 1) rfl rfl ?_
          exact hQ (by first | assumption | omega | (unfold R32 at *; omega) | (unfold R64 at *; omega) | (simp only [R32, R64] at *; omega))
      · show WV _ _ _ 55 _ _ _ _ _
        rw [if_neg h_52] at hQ
        refine r_ex 1 (pc' := 56) (lo' := [some (.inr (.inr (some 2))), some (.inr (.inr (some 100025))), some (.inl 0)]) (st' := [.inl 0]) rfl ?_
        refine r_ret (rr := some (.inl 0)) (I := .ireturn) (pc0 := 56) (len := 1) rfl rfl ?_
        exact hQ (by first | assumption | omega | (unfold R32 at *; omega) | (unfold R64 at *; omega) | (simp only [R32, R64] at *; omega))
    · show WV _ _ _ 24 _ _ _ _ _
      rw [if_neg h_21] at hQ
      refine r_ex 1 (pc' := 25) (lo' := [some (.inr (.inr (some 2))), some (.inr (.inr (some 100025))), none]) (st' := [.inl 0]) rfl ?_
      refine r_ret (rr := some (.inl 0)) (I := .ireturn) (pc0 := 25) (len := 1) rfl rfl ?_
      exact hQ (by first | assumption | omega | (unfold R32 at *; omega) | (unfold R64 at *; omega) | (simp only [R32, R64] at *; omega))

theorem e_cl_isAt12 {X : PX} {d : Nat} {v : VS}  (hX : XI v) (hp_a : (v 2 7) ≤ (v 2 4)) : EvV X (d + 1 + 1 + 1 + 1) 27 [.inr (.inr (some 2)), .inr (.inr (some 100025))] 1 v (some (.inl (cl_isAt12 v))) 1 v := EvV.of (w_cl_isAt12 hX hp_a (fun _ => ⟨rfl, rfl, rfl⟩))

theorem n_cl_isAt12 {v : VS}  (hX : XI v) (hp_a : (v 2 7) ≤ (v 2 4)) : 0 ≤ (cl_isAt12 v) ∧ (cl_isAt12 v) ≤ 1 := by
  have q : WV (0, fun _ => 0, none) (0 + 1 + 1 + 1 + 1) 27 0 [some (.inr (.inr (some 2))), some (.inr (.inr (some 100025))), none] [] 1 v (fun _ _ _ => 0 ≤ (cl_isAt12 v) ∧ (cl_isAt12 v) ≤ 1) := w_cl_isAt12 (X := (0, fun _ => 0, none)) (d := 0) hX hp_a (fun q => q)
  obtain ⟨_, _, _, _, _, _, _, q⟩ := q
  exact q

def cl_word12 (v : VS)  : VS :=
  (if (v 2 1) = 0 then (if (cl_isAt12 v) = 0 then (cl_fail v 1) else (cl_advance v)) else (cl_fail v 1))
theorem w_cl_word12 {X : PX} {d : Nat} {v : VS}  (hX : XI v) (hp_a : (v 2 7) ≤ (v 2 4)) {Q : Option PV → Nat → VS → Prop} (hQ : XI (cl_word12 v) → (((cl_word12 v) 2 7) ≤ ((cl_word12 v) 2 4)) → Q none 1 (cl_word12 v)) : WV X (d + 1 + 1 + 1 + 1 + 1) 26 0 [some (.inr (.inr (some 2))), some (.inr (.inr (some 100025)))] [] 1 v Q := by
  rw [cl_word12] at hQ
  refine r_ex 2 (pc' := 4) (lo' := [some (.inr (.inr (some 2))), some (.inr (.inr (some 100025)))]) (st' := [.inl (v 2 1)]) rfl ?_
  have hb_1 : 0 ≤ (v 2 1) ∧ (v 2 1) ≤ 3 := hX 2 1
  refine n_if_ne (pc0 := 4) (len := 3) (t := 22) rfl (by first | assumption | omega | (unfold R32 at *; omega) | (unfold R64 at *; omega) | (simp only [R32, R64] at *; omega)) (fun h_4 => ?_) (fun h_4 => ?_)
  · show WV _ _ _ 22 _ _ _ _ _
    rw [if_neg h_4] at hQ
    refine r_ex 2 (pc' := 24) (lo' := [some (.inr (.inr (some 2))), some (.inr (.inr (some 100025)))]) (st' := [.inl 1, .inr (.inr (some 2))]) rfl ?_
    have hp_2 : 1 ≤ (1 : Int) ∧ (1 : Int) ≤ 3 := (by first | assumption | omega | (unfold R32 at *; omega) | (unfold R64 at *; omega) | (simp only [R32, R64] at *; omega))
    have hp_3 : (v 2 7) ≤ (v 2 4) := (show (v 2 7) ≤ (v 2 4) from (by first | assumption | omega | (unfold R32 at *; omega) | (unfold R64 at *; omega) | (simp only [R32, R64] at *; omega)))
    refine r_call (m := 39) (args := [.inr (.inr (some 2)), .inl 1]) (n' := 26) (pc' := 27) (lo' := [some (.inr (.inr (some 2))), some (.inr (.inr (some 100025)))]) (st' := []) (I := .invokevirtual 39) (pc0 := 24) (len := 3) rfl rfl rfl (e_cl_fail hX hp_2 hp_3) ?_
    show WV _ _ _ 27 _ [] _ (cl_fail v 1) _
    have hX_4 : XI (cl_fail v 1) := i_cl_fail (v := v) (k := 1) hX hp_2 hp_3
    have hb_5 : ((cl_fail v 1) 2 7) ≤ ((cl_fail v 1) 2 4) := n_cl_fail (v := v) (k := 1) hX hp_2 hp_3
    refine r_ret (rr := none) (I := .return_) (pc0 := 27) (len := 1) rfl rfl ?_
    exact hQ hX_4 (show ((cl_fail v 1) 2 7) ≤ ((cl_fail v 1) 2 4) from (by first | assumption | omega | (unfold R32 at *; omega) | (unfold R64 at *; omega) | (simp only [R32, R64] at *; omega)))
  · show WV _ _ _ 7 _ _ _ _ _
    rw [if_pos h_4] at hQ
    refine r_ex 2 (pc' := 9) (lo' := [some (.inr (.inr (some 2))), some (.inr (.inr (some 100025)))]) (st' := [.inr (.inr (some 100025)), .inr (.inr (some 2))]) rfl ?_
    have hp_6 : (v 2 7) ≤ (v 2 4) := (show (v 2 7) ≤ (v 2 4) from (by first | assumption | omega | (unfold R32 at *; omega) | (unfold R64 at *; omega) | (simp only [R32, R64] at *; omega)))
    refine r_call (m := 27) (args := [.inr (.inr (some 2)), .inr (.inr (some 100025))]) (n' := 26) (pc' := 12) (lo' := [some (.inr (.inr (some 2))), some (.inr (.inr (some 100025)))]) (st' := []) (I := .invokevirtual 27) (pc0 := 9) (len := 3) rfl rfl rfl (e_cl_isAt12 hX hp_6) ?_
    show WV _ _ _ 12 _ [.inl (cl_isAt12 v)] _ _ _
    have hb_7 := n_cl_isAt12 (v := v) hX hp_6
    refine n_if_eq (pc0 := 12) (len := 3) (t := 22) rfl (by first | assumption | omega | (unfold R32 at *; omega) | (unfold R64 at *; omega) | (simp only [R32, R64] at *; omega)) (fun h_12 => ?_) (fun h_12 => ?_)
    · show WV _ _ _ 22 _ _ _ _ _
      rw [if_pos h_12] at hQ
      refine r_ex 2 (pc' := 24) (lo' := [some (.inr (.inr (some 2))), some (.inr (.inr (some 100025)))]) (st' := [.inl 1, .inr (.inr (some 2))]) rfl ?_
      have hp_8 : 1 ≤ (1 : Int) ∧ (1 : Int) ≤ 3 := (by first | assumption | omega | (unfold R32 at *; omega) | (unfold R64 at *; omega) | (simp only [R32, R64] at *; omega))
      have hp_9 : (v 2 7) ≤ (v 2 4) := (show (v 2 7) ≤ (v 2 4) from (by first | assumption | omega | (unfold R32 at *; omega) | (unfold R64 at *; omega) | (simp only [R32, R64] at *; omega)))
      refine r_call (m := 39) (args := [.inr (.inr (some 2)), .inl 1]) (n' := 26) (pc' := 27) (lo' := [some (.inr (.inr (some 2))), some (.inr (.inr (some 100025)))]) (st' := []) (I := .invokevirtual 39) (pc0 := 24) (len := 3) rfl rfl rfl (e_cl_fail hX hp_8 hp_9) ?_
      show WV _ _ _ 27 _ [] _ (cl_fail v 1) _
      have hX_10 : XI (cl_fail v 1) := i_cl_fail (v := v) (k := 1) hX hp_8 hp_9
      have hb_11 : ((cl_fail v 1) 2 7) ≤ ((cl_fail v 1) 2 4) := n_cl_fail (v := v) (k := 1) hX hp_8 hp_9
      refine r_ret (rr := none) (I := .return_) (pc0 := 27) (len := 1) rfl rfl ?_
      exact hQ hX_10 (show ((cl_fail v 1) 2 7) ≤ ((cl_fail v 1) 2 4) from (by first | assumption | omega | (unfold R32 at *; omega) | (unfold R64 at *; omega) | (simp only [R32, R64] at *; omega)))
    · show WV _ _ _ 15 _ _ _ _ _
      rw [if_neg h_12] at hQ
      refine r_ex 1 (pc' := 16) (lo' := [some (.inr (.inr (some 2))), some (.inr (.inr (some 100025)))]) (st' := [.inr (.inr (some 2))]) rfl ?_
      have hp_12 : (v 2 7) ≤ (v 2 4) := (show (v 2 7) ≤ (v 2 4) from (by first | assumption | omega | (unfold R32 at *; omega) | (unfold R64 at *; omega) | (simp only [R32, R64] at *; omega)))
      refine r_call (m := 21) (args := [.inr (.inr (some 2))]) (n' := 26) (pc' := 19) (lo' := [some (.inr (.inr (some 2))), some (.inr (.inr (some 100025)))]) (st' := []) (I := .invokevirtual 21) (pc0 := 16) (len := 3) rfl rfl rfl (e_cl_advance hX hp_12) ?_
      show WV _ _ _ 19 _ [] _ (cl_advance v) _
      have hX_13 : XI (cl_advance v) := i_cl_advance (v := v) hX hp_12
      have hb_14 : ((cl_advance v) 2 7) ≤ ((cl_advance v) 2 4) := n_cl_advance (v := v) hX hp_12
      refine r_ex 1 (pc' := 27) (lo' := [some (.inr (.inr (some 2))), some (.inr (.inr (some 100025)))]) (st' := []) rfl ?_
      refine r_ret (rr := none) (I := .return_) (pc0 := 27) (len := 1) rfl rfl ?_
      exact hQ hX_13 (show ((cl_advance v) 2 7) ≤ ((cl_advance v) 2 4) from (by first | assumption | omega | (unfold R32 at *; omega) | (unfold R64 at *; omega) | (simp only [R32, R64] at *; omega)))

theorem e_cl_word12 {X : PX} {d : Nat} {v : VS}  (hX : XI v) (hp_a : (v 2 7) ≤ (v 2 4)) : EvV X (d + 1 + 1 + 1 + 1 + 1) 26 [.inr (.inr (some 2)), .inr (.inr (some 100025))] 1 v none 1 (cl_word12 v) := EvV.of (w_cl_word12 hX hp_a (fun _ _ => ⟨rfl, rfl, rfl⟩))

theorem i_cl_word12 {v : VS}  (hX : XI v) (hp_a : (v 2 7) ≤ (v 2 4)) : XI (cl_word12 v) := by
  have q : WV (0, fun _ => 0, none) (0 + 1 + 1 + 1 + 1 + 1) 26 0 [some (.inr (.inr (some 2))), some (.inr (.inr (some 100025)))] [] 1 v (fun _ _ _ => XI (cl_word12 v)) := w_cl_word12 (X := (0, fun _ => 0, none)) (d := 0) hX hp_a (fun q _ => q)
  obtain ⟨_, _, _, _, _, _, _, q⟩ := q
  exact q

theorem n_cl_word12 {v : VS}  (hX : XI v) (hp_a : (v 2 7) ≤ (v 2 4)) : ((cl_word12 v) 2 7) ≤ ((cl_word12 v) 2 4) := by
  have q : WV (0, fun _ => 0, none) (0 + 1 + 1 + 1 + 1 + 1) 26 0 [some (.inr (.inr (some 2))), some (.inr (.inr (some 100025)))] [] 1 v (fun _ _ _ => ((cl_word12 v) 2 7) ≤ ((cl_word12 v) 2 4)) := w_cl_word12 (X := (0, fun _ => 0, none)) (d := 0) hX hp_a (fun _ q => q)
  obtain ⟨_, _, _, _, _, _, _, q⟩ := q
  exact q

theorem o_cl_word12 {rk : Nat} {v : VS}  (hk : (rk < 2 ∨ 2 < rk)) : (cl_word12 v ) rk = v rk := by
  unfold cl_word12
  by_cases hc_ : (v 2 1) = 0
  · rw [if_pos hc_]
    by_cases hc_ : (cl_isAt12 v) = 0
    · rw [if_pos hc_]
      all_goals (show (cl_fail v 1) rk = _)
      all_goals (rw [o_cl_fail (by omega)])
    · rw [if_neg hc_]
      all_goals (show (cl_advance v) rk = _)
      all_goals (rw [o_cl_advance (by omega)])
  · rw [if_neg hc_]
    all_goals (show (cl_fail v 1) rk = _)
    all_goals (rw [o_cl_fail (by omega)])

def cl_isAt13 (v : VS)  : Int :=
  (if (v 2 5) = 1 then (if 6 = ((v 2 7) - (v 2 6)) then (if (v 1 ((((v 2 6) + 0)).toNat)) = 97 then (if (v 1 ((((v 2 6) + 1)).toNat)) = 99 then (if (v 1 ((((v 2 6) + 2)).toNat)) = 114 then (if (v 1 ((((v 2 6) + 3)).toNat)) = 111 then (if (v 1 ((((v 2 6) + 4)).toNat)) = 115 then (if (v 1 ((((v 2 6) + 5)).toNat)) = 115 then 1 else 0) else 0) else 0) else 0) else 0) else 0) else 0) else 0)
theorem w_cl_isAt13 {X : PX} {d : Nat} {v : VS}  (hX : XI v) (hp_a : (v 2 7) ≤ (v 2 4)) {Q : Option PV → Nat → VS → Prop} (hQ : (0 ≤ (cl_isAt13 v) ∧ (cl_isAt13 v) ≤ 1) → Q (some (.inl (cl_isAt13 v))) 1 v) : WV X (d + 1 + 1 + 1 + 1) 27 0 [some (.inr (.inr (some 2))), some (.inr (.inr (some 100027))), none] [] 1 v Q := by
  rw [cl_isAt13] at hQ
  have hz6 : 0 ≤ v 2 6 ∧ v 2 6 ≤ 2000 := hX 2 6
  have hz7 : 0 ≤ v 2 7 ∧ v 2 7 ≤ 2001 := hX 2 7
  have hz4 : 0 ≤ v 2 4 ∧ v 2 4 ≤ 2000 := hX 2 4
  refine r_ex 3 (pc' := 5) (lo' := [some (.inr (.inr (some 2))), some (.inr (.inr (some 100027))), none]) (st' := [.inl 1, .inl (v 2 5)]) rfl ?_
  have hb_1 : 0 ≤ (v 2 5) ∧ (v 2 5) ≤ 4 := hX 2 5
  refine n_ic_ne (pc0 := 5) (len := 3) (t := 24) rfl (by first | assumption | omega | (unfold R32 at *; omega) | (unfold R64 at *; omega) | (simp only [R32, R64] at *; omega)) (by first | assumption | omega | (unfold R32 at *; omega) | (unfold R64 at *; omega) | (simp only [R32, R64] at *; omega)) (fun h_5 => ?_) (fun h_5 => ?_)
  · show WV _ _ _ 24 _ _ _ _ _
    rw [if_neg h_5] at hQ
    refine r_ex 1 (pc' := 25) (lo' := [some (.inr (.inr (some 2))), some (.inr (.inr (some 100027))), none]) (st' := [.inl 0]) rfl ?_
    refine r_ret (rr := some (.inl 0)) (I := .ireturn) (pc0 := 25) (len := 1) rfl rfl ?_
    exact hQ (by first | assumption | omega | (unfold R32 at *; omega) | (unfold R64 at *; omega) | (simp only [R32, R64] at *; omega))
  · show WV _ _ _ 8 _ _ _ _ _
    rw [if_pos h_5] at hQ
    refine r_ex 1 (pc' := 9) (lo' := [some (.inr (.inr (some 2))), some (.inr (.inr (some 100027))), none]) (st' := [.inr (.inr (some 100027))]) rfl ?_
    refine r_call (rr := some (.inl 6)) (b' := 1) (v' := v) (m := 28) (args := [.inr (.inr (some 100027))]) (n' := 27) (pc' := 12) (lo' := [some (.inr (.inr (some 2))), some (.inr (.inr (some 100027))), none]) (st' := []) (I := .invokevirtual 28) (pc0 := 9) (len := 3) rfl rfl rfl ⟨60, rfl⟩ ?_
    show WV _ _ _ 12 _ [.inl 6] _ _ _
    refine r_ex 5 (pc' := 21) (lo' := [some (.inr (.inr (some 2))), some (.inr (.inr (some 100027))), none]) (st' := [.inl ((v 2 7) - (v 2 6)), .inl 6]) rfl ?_
    have hb_2 : 0 ≤ (v 2 7) ∧ (v 2 7) ≤ 2001 := hX 2 7
    have hb_3 : 0 ≤ (v 2 6) ∧ (v 2 6) ≤ 2000 := hX 2 6
    refine n_ic_eq (pc0 := 21) (len := 3) (t := 26) rfl (by first | assumption | omega | (unfold R32 at *; omega) | (unfold R64 at *; omega) | (simp only [R32, R64] at *; omega)) (by first | assumption | omega | (unfold R32 at *; omega) | (unfold R64 at *; omega) | (simp only [R32, R64] at *; omega)) (fun h_21 => ?_) (fun h_21 => ?_)
    · show WV _ _ _ 26 _ _ _ _ _
      rw [if_pos h_21] at hQ
      refine r_ex 4 (pc' := 30) (lo' := [some (.inr (.inr (some 2))), some (.inr (.inr (some 100027))), some (.inl 0)]) (st' := [.inr (.inr (some 100027)), .inl 0]) rfl ?_
      refine r_call (rr := some (.inl 6)) (b' := 1) (v' := v) (m := 28) (args := [.inr (.inr (some 100027))]) (n' := 27) (pc' := 33) (lo' := [some (.inr (.inr (some 2))), some (.inr (.inr (some 100027))), some (.inl 0)]) (st' := [.inl 0]) (I := .invokevirtual 28) (pc0 := 30) (len := 3) rfl rfl rfl ⟨60, rfl⟩ ?_
      show WV _ _ _ 33 _ [.inl 6, .inl 0] _ _ _
      refine r_ex 7 (pc' := 46) (lo' := [some (.inr (.inr (some 2))), some (.inr (.inr (some 100027))), some (.inl 0)]) (st' := [.inl ((v 2 6) + 0), .inr (.inr (some 1))]) rfl ?_
      refine r_bald2 (x := (v 1 ((((v 2 6) + 0)).toNat))) (pc' := 47) (pc0 := 46) (len := 1) rfl (s_1 _) (Or.inl rfl) (by first | assumption | omega | (unfold R32 at *; omega) | (unfold R64 at *; omega) | (simp only [R32, R64] at *; omega)) (by decide) rfl rfl ?_
      have hb_4 : -128 ≤ (v 1 ((((v 2 6) + 0)).toNat)) ∧ (v 1 ((((v 2 6) + 0)).toNat)) ≤ 127 := hX 1 ((((v 2 6) + 0)).toNat)
      refine r_ex 2 (pc' := 49) (lo' := [some (.inr (.inr (some 2))), some (.inr (.inr (some 100027))), some (.inl 0)]) (st' := [.inl 0, .inr (.inr (some 100027)), .inl (v 1 ((((v 2 6) + 0)).toNat))]) rfl ?_
      refine r_call (rr := some (.inl 97)) (b' := 1) (v' := v) (m := 30) (args := [.inr (.inr (some 100027)), .inl 0]) (n' := 27) (pc' := 52) (lo' := [some (.inr (.inr (some 2))), some (.inr (.inr (some 100027))), some (.inl 0)]) (st' := [.inl (v 1 ((((v 2 6) + 0)).toNat))]) (I := .invokevirtual 30) (pc0 := 49) (len := 3) rfl rfl rfl ⟨60, rfl⟩ ?_
      show WV _ _ _ 52 _ [.inl 97, .inl (v 1 ((((v 2 6) + 0)).toNat))] _ _ _
      refine n_ic_eq (pc0 := 52) (len := 3) (t := 57) rfl (by first | assumption | omega | (unfold R32 at *; omega) | (unfold R64 at *; omega) | (simp only [R32, R64] at *; omega)) (by first | assumption | omega | (unfold R32 at *; omega) | (unfold R64 at *; omega) | (simp only [R32, R64] at *; omega)) (fun h_52 => ?_) (fun h_52 => ?_)
      · show WV _ _ _ 57 _ _ _ _ _
        rw [if_pos h_52] at hQ
        refine r_ex 4 (pc' := 30) (lo' := [some (.inr (.inr (some 2))), some (.inr (.inr (some 100027))), some (.inl 1)]) (st' := [.inr (.inr (some 100027)), .inl 1]) rfl ?_
        refine r_call (rr := some (.inl 6)) (b' := 1) (v' := v) (m := 28) (args := [.inr (.inr (some 100027))]) (n' := 27) (pc' := 33) (lo' := [some (.inr (.inr (some 2))), some (.inr (.inr (some 100027))), some (.inl 1)]) (st' := [.inl 1]) (I := .invokevirtual 28) (pc0 := 30) (len := 3) rfl rfl rfl ⟨60, rfl⟩ ?_
        show WV _ _ _ 33 _ [.inl 6, .inl 1] _ _ _
        refine r_ex 7 (pc' := 46) (lo' := [some (.inr (.inr (some 2))), some (.inr (.inr (some 100027))), some (.inl 1)]) (st' := [.inl ((v 2 6) + 1), .inr (.inr (some 1))]) rfl ?_
        refine r_bald2 (x := (v 1 ((((v 2 6) + 1)).toNat))) (pc' := 47) (pc0 := 46) (len := 1) rfl (s_1 _) (Or.inl rfl) (by first | assumption | omega | (unfold R32 at *; omega) | (unfold R64 at *; omega) | (simp only [R32, R64] at *; omega)) (by decide) rfl rfl ?_
        have hb_5 : -128 ≤ (v 1 ((((v 2 6) + 1)).toNat)) ∧ (v 1 ((((v 2 6) + 1)).toNat)) ≤ 127 := hX 1 ((((v 2 6) + 1)).toNat)
        refine r_ex 2 (pc' := 49) (lo' := [some (.inr (.inr (some 2))), some (.inr (.inr (some 100027))), some (.inl 1)]) (st' := [.inl 1, .inr (.inr (some 100027)), .inl (v 1 ((((v 2 6) + 1)).toNat))]) rfl ?_
        refine r_call (rr := some (.inl 99)) (b' := 1) (v' := v) (m := 30) (args := [.inr (.inr (some 100027)), .inl 1]) (n' := 27) (pc' := 52) (lo' := [some (.inr (.inr (some 2))), some (.inr (.inr (some 100027))), some (.inl 1)]) (st' := [.inl (v 1 ((((v 2 6) + 1)).toNat))]) (I := .invokevirtual 30) (pc0 := 49) (len := 3) rfl rfl rfl ⟨60, rfl⟩ ?_
        show WV _ _ _ 52 _ [.inl 99, .inl (v 1 ((((v 2 6) + 1)).toNat))] _ _ _
        refine n_ic_eq (pc0 := 52) (len := 3) (t := 57) rfl (by first | assumption | omega | (unfold R32 at *; omega) | (unfold R64 at *; omega) | (simp only [R32, R64] at *; omega)) (by first | assumption | omega | (unfold R32 at *; omega) | (unfold R64 at *; omega) | (simp only [R32, R64] at *; omega)) (fun h_52 => ?_) (fun h_52 => ?_)
        · show WV _ _ _ 57 _ _ _ _ _
          rw [if_pos h_52] at hQ
          refine r_ex 4 (pc' := 30) (lo' := [some (.inr (.inr (some 2))), some (.inr (.inr (some 100027))), some (.inl 2)]) (st' := [.inr (.inr (some 100027)), .inl 2]) rfl ?_
          refine r_call (rr := some (.inl 6)) (b' := 1) (v' := v) (m := 28) (args := [.inr (.inr (some 100027))]) (n' := 27) (pc' := 33) (lo' := [some (.inr (.inr (some 2))), some (.inr (.inr (some 100027))), some (.inl 2)]) (st' := [.inl 2]) (I := .invokevirtual 28) (pc0 := 30) (len := 3) rfl rfl rfl ⟨60, rfl⟩ ?_
          show WV _ _ _ 33 _ [.inl 6, .inl 2] _ _ _
          refine r_ex 7 (pc' := 46) (lo' := [some (.inr (.inr (some 2))), some (.inr (.inr (some 100027))), some (.inl 2)]) (st' := [.inl ((v 2 6) + 2), .inr (.inr (some 1))]) rfl ?_
          refine r_bald2 (x := (v 1 ((((v 2 6) + 2)).toNat))) (pc' := 47) (pc0 := 46) (len := 1) rfl (s_1 _) (Or.inl rfl) (by first | assumption | omega | (unfold R32 at *; omega) | (unfold R64 at *; omega) | (simp only [R32, R64] at *; omega)) (by decide) rfl rfl ?_
          have hb_6 : -128 ≤ (v 1 ((((v 2 6) + 2)).toNat)) ∧ (v 1 ((((v 2 6) + 2)).toNat)) ≤ 127 := hX 1 ((((v 2 6) + 2)).toNat)
          refine r_ex 2 (pc' := 49) (lo' := [some (.inr (.inr (some 2))), some (.inr (.inr (some 100027))), some (.inl 2)]) (st' := [.inl 2, .inr (.inr (some 100027)), .inl (v 1 ((((v 2 6) + 2)).toNat))]) rfl ?_
          refine r_call (rr := some (.inl 114)) (b' := 1) (v' := v) (m := 30) (args := [.inr (.inr (some 100027)), .inl 2]) (n' := 27) (pc' := 52) (lo' := [some (.inr (.inr (some 2))), some (.inr (.inr (some 100027))), some (.inl 2)]) (st' := [.inl (v 1 ((((v 2 6) + 2)).toNat))]) (I := .invokevirtual 30) (pc0 := 49) (len := 3) rfl rfl rfl ⟨60, rfl⟩ ?_
          show WV _ _ _ 52 _ [.inl 114, .inl (v 1 ((((v 2 6) + 2)).toNat))] _ _ _
          refine n_ic_eq (pc0 := 52) (len := 3) (t := 57) rfl (by first | assumption | omega | (unfold R32 at *; omega) | (unfold R64 at *; omega) | (simp only [R32, R64] at *; omega)) (by first | assumption | omega | (unfold R32 at *; omega) | (unfold R64 at *; omega) | (simp only [R32, R64] at *; omega)) (fun h_52 => ?_) (fun h_52 => ?_)
          · show WV _ _ _ 57 _ _ _ _ _
            rw [if_pos h_52] at hQ
            refine r_ex 4 (pc' := 30) (lo' := [some (.inr (.inr (some 2))), some (.inr (.inr (some 100027))), some (.inl 3)]) (st' := [.inr (.inr (some 100027)), .inl 3]) rfl ?_
            refine r_call (rr := some (.inl 6)) (b' := 1) (v' := v) (m := 28) (args := [.inr (.inr (some 100027))]) (n' := 27) (pc' := 33) (lo' := [some (.inr (.inr (some 2))), some (.inr (.inr (some 100027))), some (.inl 3)]) (st' := [.inl 3]) (I := .invokevirtual 28) (pc0 := 30) (len := 3) rfl rfl rfl ⟨60, rfl⟩ ?_
            show WV _ _ _ 33 _ [.inl 6, .inl 3] _ _ _
            refine r_ex 7 (pc' := 46) (lo' := [some (.inr (.inr (some 2))), some (.inr (.inr (some 100027))), some (.inl 3)]) (st' := [.inl ((v 2 6) + 3), .inr (.inr (some 1))]) rfl ?_
            refine r_bald2 (x := (v 1 ((((v 2 6) + 3)).toNat))) (pc' := 47) (pc0 := 46) (len := 1) rfl (s_1 _) (Or.inl rfl) (by first | assumption | omega | (unfold R32 at *; omega) | (unfold R64 at *; omega) | (simp only [R32, R64] at *; omega)) (by decide) rfl rfl ?_
            have hb_7 : -128 ≤ (v 1 ((((v 2 6) + 3)).toNat)) ∧ (v 1 ((((v 2 6) + 3)).toNat)) ≤ 127 := hX 1 ((((v 2 6) + 3)).toNat)
            refine r_ex 2 (pc' := 49) (lo' := [some (.inr (.inr (some 2))), some (.inr (.inr (some 100027))), some (.inl 3)]) (st' := [.inl 3, .inr (.inr (some 100027)), .inl (v 1 ((((v 2 6) + 3)).toNat))]) rfl ?_
            refine r_call (rr := some (.inl 111)) (b' := 1) (v' := v) (m := 30) (args := [.inr (.inr (some 100027)), .inl 3]) (n' := 27) (pc' := 52) (lo' := [some (.inr (.inr (some 2))), some (.inr (.inr (some 100027))), some (.inl 3)]) (st' := [.inl (v 1 ((((v 2 6) + 3)).toNat))]) (I := .invokevirtual 30) (pc0 := 49) (len := 3) rfl rfl rfl ⟨60, rfl⟩ ?_
            show WV _ _ _ 52 _ [.inl 111, .inl (v 1 ((((v 2 6) + 3)).toNat))] _ _ _
            refine n_ic_eq (pc0 := 52) (len := 3) (t := 57) rfl (by first | assumption | omega | (unfold R32 at *; omega) | (unfold R64 at *; omega) | (simp only [R32, R64] at *; omega)) (by first | assumption | omega | (unfold R32 at *; omega) | (unfold R64 at *; omega) | (simp only [R32, R64] at *; omega)) (fun h_52 => ?_) (fun h_52 => ?_)
            · show WV _ _ _ 57 _ _ _ _ _
              rw [if_pos h_52] at hQ
              refine r_ex 4 (pc' := 30) (lo' := [some (.inr (.inr (some 2))), some (.inr (.inr (some 100027))), some (.inl 4)]) (st' := [.inr (.inr (some 100027)), .inl 4]) rfl ?_
              refine r_call (rr := some (.inl 6)) (b' := 1) (v' := v) (m := 28) (args := [.inr (.inr (some 100027))]) (n' := 27) (pc' := 33) (lo' := [some (.inr (.inr (some 2))), some (.inr (.inr (some 100027))), some (.inl 4)]) (st' := [.inl 4]) (I := .invokevirtual 28) (pc0 := 30) (len := 3) rfl rfl rfl ⟨60, rfl⟩ ?_
              show WV _ _ _ 33 _ [.inl 6, .inl 4] _ _ _
              refine r_ex 7 (pc' := 46) (lo' := [some (.inr (.inr (some 2))), some (.inr (.inr (some 100027))), some (.inl 4)]) (st' := [.inl ((v 2 6) + 4), .inr (.inr (some 1))]) rfl ?_
              refine r_bald2 (x := (v 1 ((((v 2 6) + 4)).toNat))) (pc' := 47) (pc0 := 46) (len := 1) rfl (s_1 _) (Or.inl rfl) (by first | assumption | omega | (unfold R32 at *; omega) | (unfold R64 at *; omega) | (simp only [R32, R64] at *; omega)) (by decide) rfl rfl ?_
              have hb_8 : -128 ≤ (v 1 ((((v 2 6) + 4)).toNat)) ∧ (v 1 ((((v 2 6) + 4)).toNat)) ≤ 127 := hX 1 ((((v 2 6) + 4)).toNat)
              refine r_ex 2 (pc' := 49) (lo' := [some (.inr (.inr (some 2))), some (.inr (.inr (some 100027))), some (.inl 4)]) (st' := [.inl 4, .inr (.inr (some 100027)), .inl (v 1 ((((v 2 6) + 4)).toNat))]) rfl ?_
              refine r_call (rr := some (.inl 115)) (b' := 1) (v' := v) (m := 30) (args := [.inr (.inr (some 100027)), .inl 4]) (n' := 27) (pc' := 52) (lo' := [some (.inr (.inr (some 2))), some (.inr (.inr (some 100027))), some (.inl 4)]) (st' := [.inl (v 1 ((((v 2 6) + 4)).toNat))]) (I := .invokevirtual 30) (pc0 := 49) (len := 3) rfl rfl rfl ⟨60, rfl⟩ ?_
              show WV _ _ _ 52 _ [.inl 115, .inl (v 1 ((((v 2 6) + 4)).toNat))] _ _ _
              refine n_ic_eq (pc0 := 52) (len := 3) (t := 57) rfl (by first | assumption | omega | (unfold R32 at *; omega) | (unfold R64 at *; omega) | (simp only [R32, R64] at *; omega)) (by first | assumption | omega | (unfold R32 at *; omega) | (unfold R64 at *; omega) | (simp only [R32, R64] at *; omega)) (fun h_52 => ?_) (fun h_52 => ?_)
              · show WV _ _ _ 57 _ _ _ _ _
                rw [if_pos h_52] at hQ
                refine r_ex 4 (pc' := 30) (lo' := [some (.inr (.inr (some 2))), some (.inr (.inr (some 100027))), some (.inl 5)]) (st' := [.inr (.inr (some 100027)), .inl 5]) rfl ?_
                refine r_call (rr := some (.inl 6)) (b' := 1) (v' := v) (m := 28) (args := [.inr (.inr (some 100027))]) (n' := 27) (pc' := 33) (lo' := [some (.inr (.inr (some 2))), some (.inr (.inr (some 100027))), some (.inl 5)]) (st' := [.inl 5]) (I := .invokevirtual 28) (pc0 := 30) (len := 3) rfl rfl rfl ⟨60, rfl⟩ ?_
                show WV _ _ _ 33 _ [.inl 6, .inl 5] _ _ _
                refine r_ex 7 (pc' := 46) (lo' := [some (.inr (.inr (some 2))), some (.inr (.inr (some 100027))), some (.inl 5)]) (st' := [.inl ((v 2 6) + 5), .inr (.inr (some 1))]) rfl ?_
                refine r_bald2 (x := (v 1 ((((v 2 6) + 5)).toNat))) (pc' := 47) (pc0 := 46) (len := 1) rfl (s_1 _) (Or.inl rfl) (by first | assumption | omega | (unfold R32 at *; omega) | (unfold R64 at *; omega) | (simp only [R32, R64] at *; omega)) (by decide) rfl rfl ?_
                have hb_9 : -128 ≤ (v 1 ((((v 2 6) + 5)).toNat)) ∧ (v 1 ((((v 2 6) + 5)).toNat)) ≤ 127 := hX 1 ((((v 2 6) + 5)).toNat)
                refine r_ex 2 (pc' := 49) (lo' := [some (.inr (.inr (some 2))), some (.inr (.inr (some 100027))), some (.inl 5)]) (st' := [.inl 5, .inr (.inr (some 100027)), .inl (v 1 ((((v 2 6) + 5)).toNat))]) rfl ?_
                refine r_call (rr := some (.inl 115)) (b' := 1) (v' := v) (m := 30) (args := [.inr (.inr (some 100027)), .inl 5]) (n' := 27) (pc' := 52) (lo' := [some (.inr (.inr (some 2))), some (.inr (.inr (some 100027))), some (.inl 5)]) (st' := [.inl (v 1 ((((v 2 6) + 5)).toNat))]) (I := .invokevirtual 30) (pc0 := 49) (len := 3) rfl rfl rfl ⟨60, rfl⟩ ?_
                show WV _ _ _ 52 _ [.inl 115, .inl (v 1 ((((v 2 6) + 5)).toNat))] _ _ _
                refine n_ic_eq (pc0 := 52) (len := 3) (t := 57) rfl (by first | assumption | omega | (unfold R32 at *; omega) | (unfold R64 at *; omega) | (simp only [R32, R64] at *; omega)) (by first | assumption | omega | (unfold R32 at *; omega) | (unfold R64 at *; omega) | (simp only [R32, R64] at *; omega)) (fun h_52 => ?_) (fun h_52 => ?_)
                · show WV _ _ _ 57 _ _ _ _ _
                  rw [if_pos h_52] at hQ
                  refine r_ex 4 (pc' := 30) (lo' := [some (.inr (.inr (some 2))), some (.inr (.inr (some 100027))), some (.inl 6)]) (st' := [.inr (.inr (some 100027)), .inl 6]) rfl ?_
                  refine r_call (rr := some (.inl 6)) (b' := 1) (v' := v) (m := 28) (args := [.inr (.inr (some 100027))]) (n' := 27) (pc' := 33) (lo' := [some (.inr (.inr (some 2))), some (.inr (.inr (some 100027))), some (.inl 6)]) (st' := [.inl 6]) (I := .invokevirtual 28) (pc0 := 30) (len := 3) rfl rfl rfl ⟨60, rfl⟩ ?_
                  show WV _ _ _ 33 _ [.inl 6, .inl 6] _ _ _
                  refine r_ex 2 (pc' := 64) (lo' := [some (.inr (.inr (some 2))), some (.inr (.inr (some 100027))), some (.inl 6)]) (st' := [.inl 1]) rfl ?_
                  refine r_ret (rr := some (.inl 1)) (I := .ireturn) (pc0 := 64) (len := 1) rfl rfl ?_
                  exact hQ (by first | assumption | omega | (unfold R32 at *; omega) | (unfold R64 at *; omega) | (simp only [R32, R64] at *; omega))
                · show WV _ _ _ 55 _ _ _ _ _
                  rw [if_neg h_52] at hQ
                  refine r_ex 1 (pc' := 56) (lo' := [some (.inr (.inr (some 2))), some (.inr (.inr (some 100027))), some (.inl 5)]) (st' := [.inl 0]) rfl ?_
                  refine r_ret (rr := some (.inl 0)) (I := .ireturn) (pc0 := 56) (len := 1) rfl rfl ?_
                  exact hQ (by first | assumption | omega | (unfold R32 at *; omega) | (unfold R64 at *; omega) | (simp only [R32, R64] at *; omega))
              · show WV _ _ _ 55 _ _ _ _ _
                rw [if_neg h_52] at hQ
                refine r_ex 1 (pc' := 56) (lo' := [some (.inr (.inr (some 2))), some (.inr (.inr (some 100027))), some (.inl 4)]) (st' := [.inl 0]) rfl ?_
                refine r_ret (rr := some (.inl 0)) (I := .ireturn) (pc0 := 56) (len := 1) rfl rfl ?_
                exact hQ (by first | assumption | omega | (unfold R32 at *; omega) | (unfold R64 at *; omega) | (simp only [R32, R64] at *; omega))
            · show WV _ _ _ 55 _ _ _ _ _
              rw [if_neg h_52] at hQ
              refine r_ex 1 (pc' := 56) (lo' := [some (.inr (.inr (some 2))), some (.inr (.inr (some 100027))), some (.inl 3)]) (st' := [.inl 0]) rfl ?_
              refine r_ret (rr := some (.inl 0)) (I := .ireturn) (pc0 := 56) (len := 1) rfl rfl ?_
              exact hQ (by first | assumption | omega | (unfold R32 at *; omega) | (unfold R64 at *; omega) | (simp only [R32, R64] at *; omega))
          · show WV _ _ _ 55 _ _ _ _ _
            rw [if_neg h_52] at hQ
            refine r_ex 1 (pc' := 56) (lo' := [some (.inr (.inr (some 2))), some (.inr (.inr (some 100027))), some (.inl 2)]) (st' := [.inl 0]) rfl ?_
            refine r_ret (rr := some (.inl 0)) (I := .ireturn) (pc0 := 56) (len := 1) rfl rfl ?_
            exact hQ (by first | assumption | omega | (unfold R32 at *; omega) | (unfold R64 at *; omega) | (simp only [R32, R64] at *; omega))
        · show WV _ _ _ 55 _ _ _ _ _
          rw [if_neg h_52] at hQ
          refine r_ex 1 (pc' := 56) (lo' := [some (.inr (.inr (some 2))), some (.inr (.inr (some 100027))), some (.inl 1)]) (st' := [.inl 0]) rfl ?_
          refine r_ret (rr := some (.inl 0)) (I := .ireturn) (pc0 := 56) (len := 1) rfl rfl ?_
          exact hQ (by first | assumption | omega | (unfold R32 at *; omega) | (unfold R64 at *; omega) | (simp only [R32, R64] at *; omega))
      · show WV _ _ _ 55 _ _ _ _ _
        rw [if_neg h_52] at hQ
        refine r_ex 1 (pc' := 56) (lo' := [some (.inr (.inr (some 2))), some (.inr (.inr (some 100027))), some (.inl 0)]) (st' := [.inl 0]) rfl ?_
        refine r_ret (rr := some (.inl 0)) (I := .ireturn) (pc0 := 56) (len := 1) rfl rfl ?_
        exact hQ (by first | assumption | omega | (unfold R32 at *; omega) | (unfold R64 at *; omega) | (simp only [R32, R64] at *; omega))
    · show WV _ _ _ 24 _ _ _ _ _
      rw [if_neg h_21] at hQ
      refine r_ex 1 (pc' := 25) (lo' := [some (.inr (.inr (some 2))), some (.inr (.inr (some 100027))), none]) (st' := [.inl 0]) rfl ?_
      refine r_ret (rr := some (.inl 0)) (I := .ireturn) (pc0 := 25) (len := 1) rfl rfl ?_
      exact hQ (by first | assumption | omega | (unfold R32 at *; omega) | (unfold R64 at *; omega) | (simp only [R32, R64] at *; omega))

theorem e_cl_isAt13 {X : PX} {d : Nat} {v : VS}  (hX : XI v) (hp_a : (v 2 7) ≤ (v 2 4)) : EvV X (d + 1 + 1 + 1 + 1) 27 [.inr (.inr (some 2)), .inr (.inr (some 100027))] 1 v (some (.inl (cl_isAt13 v))) 1 v := EvV.of (w_cl_isAt13 hX hp_a (fun _ => ⟨rfl, rfl, rfl⟩))

theorem n_cl_isAt13 {v : VS}  (hX : XI v) (hp_a : (v 2 7) ≤ (v 2 4)) : 0 ≤ (cl_isAt13 v) ∧ (cl_isAt13 v) ≤ 1 := by
  have q : WV (0, fun _ => 0, none) (0 + 1 + 1 + 1 + 1) 27 0 [some (.inr (.inr (some 2))), some (.inr (.inr (some 100027))), none] [] 1 v (fun _ _ _ => 0 ≤ (cl_isAt13 v) ∧ (cl_isAt13 v) ≤ 1) := w_cl_isAt13 (X := (0, fun _ => 0, none)) (d := 0) hX hp_a (fun q => q)
  obtain ⟨_, _, _, _, _, _, _, q⟩ := q
  exact q

def cl_word13 (v : VS)  : VS :=
  (if (v 2 1) = 0 then (if (cl_isAt13 v) = 0 then (cl_fail v 1) else (cl_advance v)) else (cl_fail v 1))
theorem w_cl_word13 {X : PX} {d : Nat} {v : VS}  (hX : XI v) (hp_a : (v 2 7) ≤ (v 2 4)) {Q : Option PV → Nat → VS → Prop} (hQ : XI (cl_word13 v) → (((cl_word13 v) 2 7) ≤ ((cl_word13 v) 2 4)) → Q none 1 (cl_word13 v)) : WV X (d + 1 + 1 + 1 + 1 + 1) 26 0 [some (.inr (.inr (some 2))), some (.inr (.inr (some 100027)))] [] 1 v Q := by
  rw [cl_word13] at hQ
  refine r_ex 2 (pc' := 4) (lo' := [some (.inr (.inr (some 2))), some (.inr (.inr (some 100027)))]) (st' := [.inl (v 2 1)]) rfl ?_
  have hb_1 : 0 ≤ (v 2 1) ∧ (v 2 1) ≤ 3 := hX 2 1
  refine n_if_ne (pc0 := 4) (len := 3) (t := 22) rfl (by first | assumption | omega | (unfold R32 at *; omega) | (unfold R64 at *; omega) | (simp only [R32, R64] at *; omega)) (fun h_4 => ?_) (fun h_4 => ?_)
  · show WV _ _ _ 22 _ _ _ _ _
    rw [if_neg h_4] at hQ
    refine r_ex 2 (pc' := 24) (lo' := [some (.inr (.inr (some 2))), some (.inr (.inr (some 100027)))]) (st' := [.inl 1, .inr (.inr (some 2))]) rfl ?_
    have hp_2 : 1 ≤ (1 : Int) ∧ (1 : Int) ≤ 3 := (by first | assumption | omega | (unfold R32 at *; omega) | (unfold R64 at *; omega) | (simp only [R32, R64] at *; omega))
    have hp_3 : (v 2 7) ≤ (v 2 4) := (show (v 2 7) ≤ (v 2 4) from (by first | assumption | omega | (unfold R32 at *; omega) | (unfold R64 at *; omega) | (simp only [R32, R64] at *; omega)))
    refine r_call (m := 39) (args := [.inr (.inr (some 2)), .inl 1]) (n' := 26) (pc' := 27) (lo' := [some (.inr (.inr (some 2))), some (.inr (.inr (some 100027)))]) (st' := []) (I := .invokevirtual 39) (pc0 := 24) (len := 3) rfl rfl rfl (e_cl_fail hX hp_2 hp_3) ?_
    show WV _ _ _ 27 _ [] _ (cl_fail v 1) _
    have hX_4 : XI (cl_fail v 1) := i_cl_fail (v := v) (k := 1) hX hp_2 hp_3
    have hb_5 : ((cl_fail v 1) 2 7) ≤ ((cl_fail v 1) 2 4) := n_cl_fail (v := v) (k := 1) hX hp_2 hp_3
    refine r_ret (rr := none) (I := .return_) (pc0 := 27) (len := 1) rfl rfl ?_
    exact hQ hX_4 (show ((cl_fail v 1) 2 7) ≤ ((cl_fail v 1) 2 4) from (by first | assumption | omega | (unfold R32 at *; omega) | (unfold R64 at *; omega) | (simp only [R32, R64] at *; omega)))
  · show WV _ _ _ 7 _ _ _ _ _
    rw [if_pos h_4] at hQ
    refine r_ex 2 (pc' := 9) (lo' := [some (.inr (.inr (some 2))), some (.inr (.inr (some 100027)))]) (st' := [.inr (.inr (some 100027)), .inr (.inr (some 2))]) rfl ?_
    have hp_6 : (v 2 7) ≤ (v 2 4) := (show (v 2 7) ≤ (v 2 4) from (by first | assumption | omega | (unfold R32 at *; omega) | (unfold R64 at *; omega) | (simp only [R32, R64] at *; omega)))
    refine r_call (m := 27) (args := [.inr (.inr (some 2)), .inr (.inr (some 100027))]) (n' := 26) (pc' := 12) (lo' := [some (.inr (.inr (some 2))), some (.inr (.inr (some 100027)))]) (st' := []) (I := .invokevirtual 27) (pc0 := 9) (len := 3) rfl rfl rfl (e_cl_isAt13 hX hp_6) ?_
    show WV _ _ _ 12 _ [.inl (cl_isAt13 v)] _ _ _
    have hb_7 := n_cl_isAt13 (v := v) hX hp_6
    refine n_if_eq (pc0 := 12) (len := 3) (t := 22) rfl (by first | assumption | omega | (unfold R32 at *; omega) | (unfold R64 at *; omega) | (simp only [R32, R64] at *; omega)) (fun h_12 => ?_) (fun h_12 => ?_)
    · show WV _ _ _ 22 _ _ _ _ _
      rw [if_pos h_12] at hQ
      refine r_ex 2 (pc' := 24) (lo' := [some (.inr (.inr (some 2))), some (.inr (.inr (some 100027)))]) (st' := [.inl 1, .inr (.inr (some 2))]) rfl ?_
      have hp_8 : 1 ≤ (1 : Int) ∧ (1 : Int) ≤ 3 := (by first | assumption | omega | (unfold R32 at *; omega) | (unfold R64 at *; omega) | (simp only [R32, R64] at *; omega))
      have hp_9 : (v 2 7) ≤ (v 2 4) := (show (v 2 7) ≤ (v 2 4) from (by first | assumption | omega | (unfold R32 at *; omega) | (unfold R64 at *; omega) | (simp only [R32, R64] at *; omega)))
      refine r_call (m := 39) (args := [.inr (.inr (some 2)), .inl 1]) (n' := 26) (pc' := 27) (lo' := [some (.inr (.inr (some 2))), some (.inr (.inr (some 100027)))]) (st' := []) (I := .invokevirtual 39) (pc0 := 24) (len := 3) rfl rfl rfl (e_cl_fail hX hp_8 hp_9) ?_
      show WV _ _ _ 27 _ [] _ (cl_fail v 1) _
      have hX_10 : XI (cl_fail v 1) := i_cl_fail (v := v) (k := 1) hX hp_8 hp_9
      have hb_11 : ((cl_fail v 1) 2 7) ≤ ((cl_fail v 1) 2 4) := n_cl_fail (v := v) (k := 1) hX hp_8 hp_9
      refine r_ret (rr := none) (I := .return_) (pc0 := 27) (len := 1) rfl rfl ?_
      exact hQ hX_10 (show ((cl_fail v 1) 2 7) ≤ ((cl_fail v 1) 2 4) from (by first | assumption | omega | (unfold R32 at *; omega) | (unfold R64 at *; omega) | (simp only [R32, R64] at *; omega)))
    · show WV _ _ _ 15 _ _ _ _ _
      rw [if_neg h_12] at hQ
      refine r_ex 1 (pc' := 16) (lo' := [some (.inr (.inr (some 2))), some (.inr (.inr (some 100027)))]) (st' := [.inr (.inr (some 2))]) rfl ?_
      have hp_12 : (v 2 7) ≤ (v 2 4) := (show (v 2 7) ≤ (v 2 4) from (by first | assumption | omega | (unfold R32 at *; omega) | (unfold R64 at *; omega) | (simp only [R32, R64] at *; omega)))
      refine r_call (m := 21) (args := [.inr (.inr (some 2))]) (n' := 26) (pc' := 19) (lo' := [some (.inr (.inr (some 2))), some (.inr (.inr (some 100027)))]) (st' := []) (I := .invokevirtual 21) (pc0 := 16) (len := 3) rfl rfl rfl (e_cl_advance hX hp_12) ?_
      show WV _ _ _ 19 _ [] _ (cl_advance v) _
      have hX_13 : XI (cl_advance v) := i_cl_advance (v := v) hX hp_12
      have hb_14 : ((cl_advance v) 2 7) ≤ ((cl_advance v) 2 4) := n_cl_advance (v := v) hX hp_12
      refine r_ex 1 (pc' := 27) (lo' := [some (.inr (.inr (some 2))), some (.inr (.inr (some 100027)))]) (st' := []) rfl ?_
      refine r_ret (rr := none) (I := .return_) (pc0 := 27) (len := 1) rfl rfl ?_
      exact hQ hX_13 (show ((cl_advance v) 2 7) ≤ ((cl_advance v) 2 4) from (by first | assumption | omega | (unfold R32 at *; omega) | (unfold R64 at *; omega) | (simp only [R32, R64] at *; omega)))

theorem e_cl_word13 {X : PX} {d : Nat} {v : VS}  (hX : XI v) (hp_a : (v 2 7) ≤ (v 2 4)) : EvV X (d + 1 + 1 + 1 + 1 + 1) 26 [.inr (.inr (some 2)), .inr (.inr (some 100027))] 1 v none 1 (cl_word13 v) := EvV.of (w_cl_word13 hX hp_a (fun _ _ => ⟨rfl, rfl, rfl⟩))

theorem i_cl_word13 {v : VS}  (hX : XI v) (hp_a : (v 2 7) ≤ (v 2 4)) : XI (cl_word13 v) := by
  have q : WV (0, fun _ => 0, none) (0 + 1 + 1 + 1 + 1 + 1) 26 0 [some (.inr (.inr (some 2))), some (.inr (.inr (some 100027)))] [] 1 v (fun _ _ _ => XI (cl_word13 v)) := w_cl_word13 (X := (0, fun _ => 0, none)) (d := 0) hX hp_a (fun q _ => q)
  obtain ⟨_, _, _, _, _, _, _, q⟩ := q
  exact q

theorem n_cl_word13 {v : VS}  (hX : XI v) (hp_a : (v 2 7) ≤ (v 2 4)) : ((cl_word13 v) 2 7) ≤ ((cl_word13 v) 2 4) := by
  have q : WV (0, fun _ => 0, none) (0 + 1 + 1 + 1 + 1 + 1) 26 0 [some (.inr (.inr (some 2))), some (.inr (.inr (some 100027)))] [] 1 v (fun _ _ _ => ((cl_word13 v) 2 7) ≤ ((cl_word13 v) 2 4)) := w_cl_word13 (X := (0, fun _ => 0, none)) (d := 0) hX hp_a (fun _ q => q)
  obtain ⟨_, _, _, _, _, _, _, q⟩ := q
  exact q

theorem o_cl_word13 {rk : Nat} {v : VS}  (hk : (rk < 2 ∨ 2 < rk)) : (cl_word13 v ) rk = v rk := by
  unfold cl_word13
  by_cases hc_ : (v 2 1) = 0
  · rw [if_pos hc_]
    by_cases hc_ : (cl_isAt13 v) = 0
    · rw [if_pos hc_]
      all_goals (show (cl_fail v 1) rk = _)
      all_goals (rw [o_cl_fail (by omega)])
    · rw [if_neg hc_]
      all_goals (show (cl_advance v) rk = _)
      all_goals (rw [o_cl_advance (by omega)])
  · rw [if_neg hc_]
    all_goals (show (cl_fail v 1) rk = _)
    all_goals (rw [o_cl_fail (by omega)])

def cl_isAt14 (v : VS)  : Int :=
  (if (v 2 5) = 1 then (if 4 = ((v 2 7) - (v 2 6)) then (if (v 1 ((((v 2 6) + 0)).toNat)) = 119 then (if (v 1 ((((v 2 6) + 1)).toNat)) = 105 then (if (v 1 ((((v 2 6) + 2)).toNat)) = 110 then (if (v 1 ((((v 2 6) + 3)).toNat)) = 100 then 1 else 0) else 0) else 0) else 0) else 0) else 0)
theorem w_cl_isAt14 {X : PX} {d : Nat} {v : VS}  (hX : XI v) (hp_a : (v 2 7) ≤ (v 2 4)) {Q : Option PV → Nat → VS → Prop} (hQ : (0 ≤ (cl_isAt14 v) ∧ (cl_isAt14 v) ≤ 1) → Q (some (.inl (cl_isAt14 v))) 1 v) : WV X (d + 1 + 1 + 1 + 1) 27 0 [some (.inr (.inr (some 2))), some (.inr (.inr (some 100029))), none] [] 1 v Q := by
  rw [cl_isAt14] at hQ
  have hz6 : 0 ≤ v 2 6 ∧ v 2 6 ≤ 2000 := hX 2 6
  have hz7 : 0 ≤ v 2 7 ∧ v 2 7 ≤ 2001 := hX 2 7
  have hz4 : 0 ≤ v 2 4 ∧ v 2 4 ≤ 2000 := hX 2 4
  refine r_ex 3 (pc' := 5) (lo' := [some (.inr (.inr (some 2))), some (.inr (.inr (some 100029))), none]) (st' := [.inl 1, .inl (v 2 5)]) rfl ?_
  have hb_1 : 0 ≤ (v 2 5) ∧ (v 2 5) ≤ 4 := hX 2 5
  refine n_ic_ne (pc0 := 5) (len := 3) (t := 24) rfl (by first | assumption | omega | (unfold R32 at *; omega) | (unfold R64 at *; omega) | (simp only [R32, R64] at *; omega)) (by first | assumption | omega | (unfold R32 at *; omega) | (unfold R64 at *; omega) | (simp only [R32, R64] at *; omega)) (fun h_5 => ?_) (fun h_5 => ?_)
  · show WV _ _ _ 24 _ _ _ _ _
    rw [if_neg h_5] at hQ
    refine r_ex 1 (pc' := 25) (lo' := [some (.inr (.inr (some 2))), some (.inr (.inr (some 100029))), none]) (st' := [.inl 0]) rfl ?_
    refine r_ret (rr := some (.inl 0)) (I := .ireturn) (pc0 := 25) (len := 1) rfl rfl ?_
    exact hQ (by first | assumption | omega | (unfold R32 at *; omega) | (unfold R64 at *; omega) | (simp only [R32, R64] at *; omega))
  · show WV _ _ _ 8 _ _ _ _ _
    rw [if_pos h_5] at hQ
    refine r_ex 1 (pc' := 9) (lo' := [some (.inr (.inr (some 2))), some (.inr (.inr (some 100029))), none]) (st' := [.inr (.inr (some 100029))]) rfl ?_
    refine r_call (rr := some (.inl 4)) (b' := 1) (v' := v) (m := 28) (args := [.inr (.inr (some 100029))]) (n' := 27) (pc' := 12) (lo' := [some (.inr (.inr (some 2))), some (.inr (.inr (some 100029))), none]) (st' := []) (I := .invokevirtual 28) (pc0 := 9) (len := 3) rfl rfl rfl ⟨60, rfl⟩ ?_
    show WV _ _ _ 12 _ [.inl 4] _ _ _
    refine r_ex 5 (pc' := 21) (lo' := [some (.inr (.inr (some 2))), some (.inr (.inr (some 100029))), none]) (st' := [.inl ((v 2 7) - (v 2 6)), .inl 4]) rfl ?_
    have hb_2 : 0 ≤ (v 2 7) ∧ (v 2 7) ≤ 2001 := hX 2 7
    have hb_3 : 0 ≤ (v 2 6) ∧ (v 2 6) ≤ 2000 := hX 2 6
    refine n_ic_eq (pc0 := 21) (len := 3) (t := 26) rfl (by first | assumption | omega | (unfold R32 at *; omega) | (unfold R64 at *; omega) | (simp only [R32, R64] at *; omega)) (by first | assumption | omega | (unfold R32 at *; omega) | (unfold R64 at *; omega) | (simp only [R32, R64] at *; omega)) (fun h_21 => ?_) (fun h_21 => ?_)
    · show WV _ _ _ 26 _ _ _ _ _
      rw [if_pos h_21] at hQ
      refine r_ex 4 (pc' := 30) (lo' := [some (.inr (.inr (some 2))), some (.inr (.inr (some 100029))), some (.inl 0)]) (st' := [.inr (.inr (some 100029)), .inl 0]) rfl ?_
      refine r_call (rr := some (.inl 4)) (b' := 1) (v' := v) (m := 28) (args := [.inr (.inr (some 100029))]) (n' := 27) (pc' := 33) (lo' := [some (.inr (.inr (some 2))), some (.inr (.inr (some 100029))), some (.inl 0)]) (st' := [.inl 0]) (I := .invokevirtual 28) (pc0 := 30) (len := 3) rfl rfl rfl ⟨60, rfl⟩ ?_
      show WV _ _ _ 33 _ [.inl 4, .inl 0] _ _ _
      refine r_ex 7 (pc' := 46) (lo' := [some (.inr (.inr (some 2))), some (.inr (.inr (some 100029))), some (.inl 0)]) (st' := [.inl ((v 2 6) + 0), .inr (.inr (some 1))]) rfl ?_
      refine r_bald2 (x := (v 1 ((((v 2 6) + 0)).toNat))) (pc' := 47) (pc0 := 46) (len := 1) rfl (s_1 _) (Or.inl rfl) (by first | assumption | omega | (unfold R32 at *; omega) | (unfold R64 at *; omega) | (simp only [R32, R64] at *; omega)) (by decide) rfl rfl ?_
      have hb_4 : -128 ≤ (v 1 ((((v 2 6) + 0)).toNat)) ∧ (v 1 ((((v 2 6) + 0)).toNat)) ≤ 127 := hX 1 ((((v 2 6) + 0)).toNat)
      refine r_ex 2 (pc' := 49) (lo' := [some (.inr (.inr (some 2))), some (.inr (.inr (some 100029))), some (.inl 0)]) (st' := [.inl 0, .inr (.inr (some 100029)), .inl (v 1 ((((v 2 6) + 0)).toNat))]) rfl ?_
      refine r_call (rr := some (.inl 119)) (b' := 1) (v' := v) (m := 30) (args := [.inr (.inr (some 100029)), .inl 0]) (n' := 27) (pc' := 52) (lo' := [some (.inr (.inr (some 2))), some (.inr (.inr (some 100029))), some (.inl 0)]) (st' := [.inl (v 1 ((((v 2 6) + 0)).toNat))]) (I := .invokevirtual 30) (pc0 := 49) (len := 3) rfl rfl rfl ⟨60, rfl⟩ ?_
      show WV _ _ _ 52 _ [.inl 119, .inl (v 1 ((((v 2 6) + 0)).toNat))] _ _ _
      refine n_ic_eq (pc0 := 52) (len := 3) (t := 57) rfl (by first | assumption | omega | (unfold R32 at *; omega) | (unfold R64 at *; omega) | (simp only [R32, R64] at *; omega)) (by first | assumption | omega | (unfold R32 at *; omega) | (unfold R64 at *; omega) | (simp only [R32, R64] at *; omega)) (fun h_52 => ?_) (fun h_52 => ?_)
      · show WV _ _ _ 57 _ _ _ _ _
        rw [if_pos h_52] at hQ
        refine r_ex 4 (pc' := 30) (lo' := [some (.inr (.inr (some 2))), some (.inr (.inr (some 100029))), some (.inl 1)]) (st' := [.inr (.inr (some 100029)), .inl 1]) rfl ?_
        refine r_call (rr := some (.inl 4)) (b' := 1) (v' := v) (m := 28) (args := [.inr (.inr (some 100029))]) (n' := 27) (pc' := 33) (lo' := [some (.inr (.inr (some 2))), some (.inr (.inr (some 100029))), some (.inl 1)]) (st' := [.inl 1]) (I := .invokevirtual 28) (pc0 := 30) (len := 3) rfl rfl rfl ⟨60, rfl⟩ ?_
        show WV _ _ _ 33 _ [.inl 4, .inl 1] _ _ _
        refine r_ex 7 (pc' := 46) (lo' := [some (.inr (.inr (some 2))), some (.inr (.inr (some 100029))), some (.inl 1)]) (st' := [.inl ((v 2 6) + 1), .inr (.inr (some 1))]) rfl ?_
        refine r_bald2 (x := (v 1 ((((v 2 6) + 1)).toNat))) (pc' := 47) (pc0 := 46) (len := 1) rfl (s_1 _) (Or.inl rfl) (by first | assumption | omega | (unfold R32 at *; omega) | (unfold R64 at *; omega) | (simp only [R32, R64] at *; omega)) (by decide) rfl rfl ?_
        have hb_5 : -128 ≤ (v 1 ((((v 2 6) + 1)).toNat)) ∧ (v 1 ((((v 2 6) + 1)).toNat)) ≤ 127 := hX 1 ((((v 2 6) + 1)).toNat)
        refine r_ex 2 (pc' := 49) (lo' := [some (.inr (.inr (some 2))), some (.inr (.inr (some 100029))), some (.inl 1)]) (st' := [.inl 1, .inr (.inr (some 100029)), .inl (v 1 ((((v 2 6) + 1)).toNat))]) rfl ?_
        refine r_call (rr := some (.inl 105)) (b' := 1) (v' := v) (m := 30) (args := [.inr (.inr (some 100029)), .inl 1]) (n' := 27) (pc' := 52) (lo' := [some (.inr (.inr (some 2))), some (.inr (.inr (some 100029))), some (.inl 1)]) (st' := [.inl (v 1 ((((v 2 6) + 1)).toNat))]) (I := .invokevirtual 30) (pc0 := 49) (len := 3) rfl rfl rfl ⟨60, rfl⟩ ?_
        show WV _ _ _ 52 _ [.inl 105, .inl (v 1 ((((v 2 6) + 1)).toNat))] _ _ _
        refine n_ic_eq (pc0 := 52) (len := 3) (t := 57) rfl (by first | assumption | omega | (unfold R32 at *; omega) | (unfold R64 at *; omega) | (simp only [R32, R64] at *; omega)) (by first | assumption | omega | (unfold R32 at *; omega) | (unfold R64 at *; omega) | (simp only [R32, R64] at *; omega)) (fun h_52 => ?_) (fun h_52 => ?_)
        · show WV _ _ _ 57 _ _ _ _ _
          rw [if_pos h_52] at hQ
          refine r_ex 4 (pc' := 30) (lo' := [some (.inr (.inr (some 2))), some (.inr (.inr (some 100029))), some (.inl 2)]) (st' := [.inr (.inr (some 100029)), .inl 2]) rfl ?_
          refine r_call (rr := some (.inl 4)) (b' := 1) (v' := v) (m := 28) (args := [.inr (.inr (some 100029))]) (n' := 27) (pc' := 33) (lo' := [some (.inr (.inr (some 2))), some (.inr (.inr (some 100029))), some (.inl 2)]) (st' := [.inl 2]) (I := .invokevirtual 28) (pc0 := 30) (len := 3) rfl rfl rfl ⟨60, rfl⟩ ?_
          show WV _ _ _ 33 _ [.inl 4, .inl 2] _ _ _
          refine r_ex 7 (pc' := 46) (lo' := [some (.inr (.inr (some 2))), some (.inr (.inr (some 100029))), some (.inl 2)]) (st' := [.inl ((v 2 6) + 2), .inr (.inr (some 1))]) rfl ?_
          refine r_bald2 (x := (v 1 ((((v 2 6) + 2)).toNat))) (pc' := 47) (pc0 := 46) (len := 1) rfl (s_1 _) (Or.inl rfl) (by first | assumption | omega | (unfold R32 at *; omega) | (unfold R64 at *; omega) | (simp only [R32, R64] at *; omega)) (by decide) rfl rfl ?_
          have hb_6 : -128 ≤ (v 1 ((((v 2 6) + 2)).toNat)) ∧ (v 1 ((((v 2 6) + 2)).toNat)) ≤ 127 := hX 1 ((((v 2 6) + 2)).toNat)
          refine r_ex 2 (pc' := 49) (lo' := [some (.inr (.inr (some 2))), some (.inr (.inr (some 100029))), some (.inl 2)]) (st' := [.inl 2, .inr (.inr (some 100029)), .inl (v 1 ((((v 2 6) + 2)).toNat))]) rfl ?_
          refine r_call (rr := some (.inl 110)) (b' := 1) (v' := v) (m := 30) (args := [.inr (.inr (some 100029)), .inl 2]) (n' := 27) (pc' := 52) (lo' := [some (.inr (.inr (some 2))), some (.inr (.inr (some 100029))), some (.inl 2)]) (st' := [.inl (v 1 ((((v 2 6) + 2)).toNat))]) (I := .invokevirtual 30) (pc0 := 49) (len := 3) rfl rfl rfl ⟨60, rfl⟩ ?_
          show WV _ _ _ 52 _ [.inl 110, .inl (v 1 ((((v 2 6) + 2)).toNat))] _ _ _
          refine n_ic_eq (pc0 := 52) (len := 3) (t := 57) rfl (by first | assumption | omega | (unfold R32 at *; omega) | (unfold R64 at *; omega) | (simp only [R32, R64] at *; omega)) (by first | assumption | omega | (unfold R32 at *; omega) | (unfold R64 at *; omega) | (simp only [R32, R64] at *; omega)) (fun h_52 => ?_) (fun h_52 => ?_)
          · show WV _ _ _ 57 _ _ _ _ _
            rw [if_pos h_52] at hQ
            refine r_ex 4 (pc' := 30) (lo' := [some (.inr (.inr (some 2))), some (.inr (.inr (some 100029))), some (.inl 3)]) (st' := [.inr (.inr (some 100029)), .inl 3]) rfl ?_
            refine r_call (rr := some (.inl 4)) (b' := 1) (v' := v) (m := 28) (args := [.inr (.inr (some 100029))]) (n' := 27) (pc' := 33) (lo' := [some (.inr (.inr (some 2))), some (.inr (.inr (some 100029))), some (.inl 3)]) (st' := [.inl 3]) (I := .invokevirtual 28) (pc0 := 30) (len := 3) rfl rfl rfl ⟨60, rfl⟩ ?_
            show WV _ _ _ 33 _ [.inl 4, .inl 3] _ _ _
            refine r_ex 7 (pc' := 46) (lo' := [some (.inr (.inr (some 2))), some (.inr (.inr (some 100029))), some (.inl 3)]) (st' := [.inl ((v 2 6) + 3), .inr (.inr (some 1))]) rfl ?_
            refine r_bald2 (x := (v 1 ((((v 2 6) + 3)).toNat))) (pc' := 47) (pc0 := 46) (len := 1) rfl (s_1 _) (Or.inl rfl) (by first | assumption | omega | (unfold R32 at *; omega) | (unfold R64 at *; omega) | (simp only [R32, R64] at *; omega)) (by decide) rfl rfl ?_
            have hb_7 : -128 ≤ (v 1 ((((v 2 6) + 3)).toNat)) ∧ (v 1 ((((v 2 6) + 3)).toNat)) ≤ 127 := hX 1 ((((v 2 6) + 3)).toNat)
            refine r_ex 2 (pc' := 49) (lo' := [some (.inr (.inr (some 2))), some (.inr (.inr (some 100029))), some (.inl 3)]) (st' := [.inl 3, .inr (.inr (some 100029)), .inl (v 1 ((((v 2 6) + 3)).toNat))]) rfl ?_
            refine r_call (rr := some (.inl 100)) (b' := 1) (v' := v) (m := 30) (args := [.inr (.inr (some 100029)), .inl 3]) (n' := 27) (pc' := 52) (lo' := [some (.inr (.inr (some 2))), some (.inr (.inr (some 100029))), some (.inl 3)]) (st' := [.inl (v 1 ((((v 2 6) + 3)).toNat))]) (I := .invokevirtual 30) (pc0 := 49) (len := 3) rfl rfl rfl ⟨60, rfl⟩ ?_
            show WV _ _ _ 52 _ [.inl 100, .inl (v 1 ((((v 2 6) + 3)).toNat))] _ _ _
            refine n_ic_eq (pc0 := 52) (len := 3) (t := 57) rfl (by first | assumption | omega | (unfold R32 at *; omega) | (unfold R64 at *; omega) | (simp only [R32, R64] at *; omega)) (by first | assumption | omega | (unfold R32 at *; omega) | (unfold R64 at *; omega) | (simp only [R32, R64] at *; omega)) (fun h_52 => ?_) (fun h_52 => ?_)
            · show WV _ _ _ 57 _ _ _ _ _
              rw [if_pos h_52] at hQ
              refine r_ex 4 (pc' := 30) (lo' := [some (.inr (.inr (some 2))), some (.inr (.inr (some 100029))), some (.inl 4)]) (st' := [.inr (.inr (some 100029)), .inl 4]) rfl ?_
              refine r_call (rr := some (.inl 4)) (b' := 1) (v' := v) (m := 28) (args := [.inr (.inr (some 100029))]) (n' := 27) (pc' := 33) (lo' := [some (.inr (.inr (some 2))), some (.inr (.inr (some 100029))), some (.inl 4)]) (st' := [.inl 4]) (I := .invokevirtual 28) (pc0 := 30) (len := 3) rfl rfl rfl ⟨60, rfl⟩ ?_
              show WV _ _ _ 33 _ [.inl 4, .inl 4] _ _ _
              refine r_ex 2 (pc' := 64) (lo' := [some (.inr (.inr (some 2))), some (.inr (.inr (some 100029))), some (.inl 4)]) (st' := [.inl 1]) rfl ?_
              refine r_ret (rr := some (.inl 1)) (I := .ireturn) (pc0 := 64) (len := 1) rfl rfl ?_
              exact hQ (by first | assumption | omega | (unfold R32 at *; omega) | (unfold R64 at *; omega) | (simp only [R32, R64] at *; omega))
            · show WV _ _ _ 55 _ _ _ _ _
              rw [if_neg h_52] at hQ
              refine r_ex 1 (pc' := 56) (lo' := [some (.inr (.inr (some 2))), some (.inr (.inr (some 100029))), some (.inl 3)]) (st' := [.inl 0]) rfl ?_
              refine r_ret (rr := some (.inl 0)) (I := .ireturn) (pc0 := 56) (len := 1) rfl rfl ?_
              exact hQ (by first | assumption | omega | (unfold R32 at *; omega) | (unfold R64 at *; omega) | (simp only [R32, R64] at *; omega))
          · show WV _ _ _ 55 _ _ _ _ _
            rw [if_neg h_52] at hQ
            refine r_ex 1 (pc' := 56) (lo' := [some (.inr (.inr (some 2))), some (.inr (.inr (some 100029))), some (.inl 2)]) (st' := [.inl 0]) rfl ?_
            refine r_ret (rr := some (.inl 0)) (I := .ireturn) (pc0 := 56) (len := 1) rfl rfl ?_
            exact hQ (by first | assumption | omega | (unfold R32 at *; omega) | (unfold R64 at *; omega) | (simp only [R32, R64] at *; omega))
        · show WV _ _ _ 55 _ _ _ _ _
          rw [if_neg h_52] at hQ
          refine r_ex 1 (pc' := 56) (lo' := [some (.inr (.inr (some 2))), some (.inr (.inr (some 100029))), some (.inl 1)]) (st' := [.inl 0]) rfl ?_
          refine r_ret (rr := some (.inl 0)) (I := .ireturn) (pc0 := 56) (len := 1) rfl rfl ?_
          exact hQ (by first | assumption | omega | (unfold R32 at *; omega) | (unfold R64 at *; omega) | (simp only [R32, R64] at *; omega))
      · show WV _ _ _ 55 _ _ _ _ _
        rw [if_neg h_52] at hQ
        refine r_ex 1 (pc' := 56) (lo' := [some (.inr (.inr (some 2))), some (.inr (.inr (some 100029))), some (.inl 0)]) (st' := [.inl 0]) rfl ?_
        refine r_ret (rr := some (.inl 0)) (I := .ireturn) (pc0 := 56) (len := 1) rfl rfl ?_
        exact hQ (by first | assumption | omega | (unfold R32 at *; omega) | (unfold R64 at *; omega) | (simp only [R32, R64] at *; omega))
    · show WV _ _ _ 24 _ _ _ _ _
      rw [if_neg h_21] at hQ
      refine r_ex 1 (pc' := 25) (lo' := [some (.inr (.inr (some 2))), some (.inr (.inr (some 100029))), none]) (st' := [.inl 0]) rfl ?_
      refine r_ret (rr := some (.inl 0)) (I := .ireturn) (pc0 := 25) (len := 1) rfl rfl ?_
      exact hQ (by first | assumption | omega | (unfold R32 at *; omega) | (unfold R64 at *; omega) | (simp only [R32, R64] at *; omega))

theorem e_cl_isAt14 {X : PX} {d : Nat} {v : VS}  (hX : XI v) (hp_a : (v 2 7) ≤ (v 2 4)) : EvV X (d + 1 + 1 + 1 + 1) 27 [.inr (.inr (some 2)), .inr (.inr (some 100029))] 1 v (some (.inl (cl_isAt14 v))) 1 v := EvV.of (w_cl_isAt14 hX hp_a (fun _ => ⟨rfl, rfl, rfl⟩))

theorem n_cl_isAt14 {v : VS}  (hX : XI v) (hp_a : (v 2 7) ≤ (v 2 4)) : 0 ≤ (cl_isAt14 v) ∧ (cl_isAt14 v) ≤ 1 := by
  have q : WV (0, fun _ => 0, none) (0 + 1 + 1 + 1 + 1) 27 0 [some (.inr (.inr (some 2))), some (.inr (.inr (some 100029))), none] [] 1 v (fun _ _ _ => 0 ≤ (cl_isAt14 v) ∧ (cl_isAt14 v) ≤ 1) := w_cl_isAt14 (X := (0, fun _ => 0, none)) (d := 0) hX hp_a (fun q => q)
  obtain ⟨_, _, _, _, _, _, _, q⟩ := q
  exact q

def cl_isAt15 (v : VS)  : Int :=
  (if (v 2 5) = 1 then (if 2 = ((v 2 7) - (v 2 6)) then (if (v 1 ((((v 2 6) + 0)).toNat)) = 97 then (if (v 1 ((((v 2 6) + 1)).toNat)) = 116 then 1 else 0) else 0) else 0) else 0)
theorem w_cl_isAt15 {X : PX} {d : Nat} {v : VS}  (hX : XI v) (hp_a : (v 2 7) ≤ (v 2 4)) {Q : Option PV → Nat → VS → Prop} (hQ : (0 ≤ (cl_isAt15 v) ∧ (cl_isAt15 v) ≤ 1) → Q (some (.inl (cl_isAt15 v))) 1 v) : WV X (d + 1 + 1 + 1 + 1) 27 0 [some (.inr (.inr (some 2))), some (.inr (.inr (some 100031))), none] [] 1 v Q := by
  rw [cl_isAt15] at hQ
  have hz6 : 0 ≤ v 2 6 ∧ v 2 6 ≤ 2000 := hX 2 6
  have hz7 : 0 ≤ v 2 7 ∧ v 2 7 ≤ 2001 := hX 2 7
  have hz4 : 0 ≤ v 2 4 ∧ v 2 4 ≤ 2000 := hX 2 4
  refine r_ex 3 (pc' := 5) (lo' := [some (.inr (.inr (some 2))), some (.inr (.inr (some 100031))), none]) (st' := [.inl 1, .inl (v 2 5)]) rfl ?_
  have hb_1 : 0 ≤ (v 2 5) ∧ (v 2 5) ≤ 4 := hX 2 5
  refine n_ic_ne (pc0 := 5) (len := 3) (t := 24) rfl (by first | assumption | omega | (unfold R32 at *; omega) | (unfold R64 at *; omega) | (simp only [R32, R64] at *; omega)) (by first | assumption | omega | (unfold R32 at *; omega) | (unfold R64 at *; omega) | (simp only [R32, R64] at *; omega)) (fun h_5 => ?_) (fun h_5 => ?_)
  · show WV _ _ _ 24 _ _ _ _ _
    rw [if_neg h_5] at hQ
    refine r_ex 1 (pc' := 25) (lo' := [some (.inr (.inr (some 2))), some (.inr (.inr (some 100031))), none]) (st' := [.inl 0]) rfl ?_
    refine r_ret (rr := some (.inl 0)) (I := .ireturn) (pc0 := 25) (len := 1) rfl rfl ?_
    exact hQ (by first | assumption | omega | (unfold R32 at *; omega) | (unfold R64 at *; omega) | (simp only [R32, R64] at *; omega))
  · show WV _ _ _ 8 _ _ _ _ _
    rw [if_pos h_5] at hQ
    refine r_ex 1 (pc' := 9) (lo' := [some (.inr (.inr (some 2))), some (.inr (.inr (some 100031))), none]) (st' := [.inr (.inr (some 100031))]) rfl ?_
    refine r_call (rr := some (.inl 2)) (b' := 1) (v' := v) (m := 28) (args := [.inr (.inr (some 100031))]) (n' := 27) (pc' := 12) (lo' := [some (.inr (.inr (some 2))), some (.inr (.inr (some 100031))), none]) (st' := []) (I := .invokevirtual 28) (pc0 := 9) (len := 3) rfl rfl rfl ⟨60, rfl⟩ ?_
    show WV _ _ _ 12 _ [.inl 2] _ _ _
    refine r_ex 5 (pc' := 21) (lo' := [some (.inr (.inr (some 2))), some (.inr (.inr (some 100031))), none]) (st' := [.inl ((v 2 7) - (v 2 6)), .inl 2]) rfl ?_
    have hb_2 : 0 ≤ (v 2 7) ∧ (v 2 7) ≤ 2001 := hX 2 7
    have hb_3 : 0 ≤ (v 2 6) ∧ (v 2 6) ≤ 2000 := hX 2 6
    refine n_ic_eq (pc0 := 21) (len := 3) (t := 26) rfl (by first | assumption | omega | (unfold R32 at *; omega) | (unfold R64 at *; omega) | (simp only [R32, R64] at *; omega)) (by first | assumption | omega | (unfold R32 at *; omega) | (unfold R64 at *; omega) | (simp only [R32, R64] at *; omega)) (fun h_21 => ?_) (fun h_21 => ?_)
    · show WV _ _ _ 26 _ _ _ _ _
      rw [if_pos h_21] at hQ
      refine r_ex 4 (pc' := 30) (lo' := [some (.inr (.inr (some 2))), some (.inr (.inr (some 100031))), some (.inl 0)]) (st' := [.inr (.inr (some 100031)), .inl 0]) rfl ?_
      refine r_call (rr := some (.inl 2)) (b' := 1) (v' := v) (m := 28) (args := [.inr (.inr (some 100031))]) (n' := 27) (pc' := 33) (lo' := [some (.inr (.inr (some 2))), some (.inr (.inr (some 100031))), some (.inl 0)]) (st' := [.inl 0]) (I := .invokevirtual 28) (pc0 := 30) (len := 3) rfl rfl rfl ⟨60, rfl⟩ ?_
      show WV _ _ _ 33 _ [.inl 2, .inl 0] _ _ _
      refine r_ex 7 (pc' := 46) (lo' := [some (.inr (.inr (some 2))), some (.inr (.inr (some 100031))), some (.inl 0)]) (st' := [.inl ((v 2 6) + 0), .inr (.inr (some 1))]) rfl ?_
      refine r_bald2 (x := (v 1 ((((v 2 6) + 0)).toNat))) (pc' := 47) (pc0 := 46) (len := 1) rfl (s_1 _) (Or.inl rfl) (by first | assumption | omega | (unfold R32 at *; omega) | (unfold R64 at *; omega) | (simp only [R32, R64] at *; omega)) (by decide) rfl rfl ?_
      have hb_4 : -128 ≤ (v 1 ((((v 2 6) + 0)).toNat)) ∧ (v 1 ((((v 2 6) + 0)).toNat)) ≤ 127 := hX 1 ((((v 2 6) + 0)).toNat)
      refine r_ex 2 (pc' := 49) (lo' := [some (.inr (.inr (some 2))), some (.inr (.inr (some 100031))), some (.inl 0)]) (st' := [.inl 0, .inr (.inr (some 100031)), .inl (v 1 ((((v 2 6) + 0)).toNat))]) rfl ?_
      refine r_call (rr := some (.inl 97)) (b' := 1) (v' := v) (m := 30) (args := [.inr (.inr (some 100031)), .inl 0]) (n' := 27) (pc' := 52) (lo' := [some (.inr (.inr (some 2))), some (.inr (.inr (some 100031))), some (.inl 0)]) (st' := [.inl (v 1 ((((v 2 6) + 0)).toNat))]) (I := .invokevirtual 30) (pc0 := 49) (len := 3) rfl rfl rfl ⟨60, rfl⟩ ?_
      show WV _ _ _ 52 _ [.inl 97, .inl (v 1 ((((v 2 6) + 0)).toNat))] _ _ _
      refine n_ic_eq (pc0 := 52) (len := 3) (t := 57) rfl (by first | assumption | omega | (unfold R32 at *; omega) | (unfold R64 at *; omega) | (simp only [R32, R64] at *; omega)) (by first | assumption | omega | (unfold R32 at *; omega) | (unfold R64 at *; omega) | (simp only [R32, R64] at *; omega)) (fun h_52 => ?_) (fun h_52 => ?_)
      · show WV _ _ _ 57 _ _ _ _ _
        rw [if_pos h_52] at hQ
        refine r_ex 4 (pc' := 30) (lo' := [some (.inr (.inr (some 2))), some (.inr (.inr (some 100031))), some (.inl 1)]) (st' := [.inr (.inr (some 100031)), .inl 1]) rfl ?_
        refine r_call (rr := some (.inl 2)) (b' := 1) (v' := v) (m := 28) (args := [.inr (.inr (some 100031))]) (n' := 27) (pc' := 33) (lo' := [some (.inr (.inr (some 2))), some (.inr (.inr (some 100031))), some (.inl 1)]) (st' := [.inl 1]) (I := .invokevirtual 28) (pc0 := 30) (len := 3) rfl rfl rfl ⟨60, rfl⟩ ?_
        show WV _ _ _ 33 _ [.inl 2, .inl 1] _ _ _
        refine r_ex 7 (pc' := 46) (lo' := [some (.inr (.inr (some 2))), some (.inr (.inr (some 100031))), some (.inl 1)]) (st' := [.inl ((v 2 6) + 1), .inr (.inr (some 1))]) rfl ?_
        refine r_bald2 (x := (v 1 ((((v 2 6) + 1)).toNat))) (pc' := 47) (pc0 := 46) (len := 1) rfl (s_1 _) (Or.inl rfl) (by first | assumption | omega | (unfold R32 at *; omega) | (unfold R64 at *; omega) | (simp only [R32, R64] at *; omega)) (by decide) rfl rfl ?_
        have hb_5 : -128 ≤ (v 1 ((((v 2 6) + 1)).toNat)) ∧ (v 1 ((((v 2 6) + 1)).toNat)) ≤ 127 := hX 1 ((((v 2 6) + 1)).toNat)
        refine r_ex 2 (pc' := 49) (lo' := [some (.inr (.inr (some 2))), some (.inr (.inr (some 100031))), some (.inl 1)]) (st' := [.inl 1, .inr (.inr (some 100031)), .inl (v 1 ((((v 2 6) + 1)).toNat))]) rfl ?_
        refine r_call (rr := some (.inl 116)) (b' := 1) (v' := v) (m := 30) (args := [.inr (.inr (some 100031)), .inl 1]) (n' := 27) (pc' := 52) (lo' := [some (.inr (.inr (some 2))), some (.inr (.inr (some 100031))), some (.inl 1)]) (st' := [.inl (v 1 ((((v 2 6) + 1)).toNat))]) (I := .invokevirtual 30) (pc0 := 49) (len := 3) rfl rfl rfl ⟨60, rfl⟩ ?_
        show WV _ _ _ 52 _ [.inl 116, .inl (v 1 ((((v 2 6) + 1)).toNat))] _ _ _
        refine n_ic_eq (pc0 := 52) (len := 3) (t := 57) rfl (by first | assumption | omega | (unfold R32 at *; omega) | (unfold R64 at *; omega) | (simp only [R32, R64] at *; omega)) (by first | assumption | omega | (unfold R32 at *; omega) | (unfold R64 at *; omega) | (simp only [R32, R64] at *; omega)) (fun h_52 => ?_) (fun h_52 => ?_)
        · show WV _ _ _ 57 _ _ _ _ _
          rw [if_pos h_52] at hQ
          refine r_ex 4 (pc' := 30) (lo' := [some (.inr (.inr (some 2))), some (.inr (.inr (some 100031))), some (.inl 2)]) (st' := [.inr (.inr (some 100031)), .inl 2]) rfl ?_
          refine r_call (rr := some (.inl 2)) (b' := 1) (v' := v) (m := 28) (args := [.inr (.inr (some 100031))]) (n' := 27) (pc' := 33) (lo' := [some (.inr (.inr (some 2))), some (.inr (.inr (some 100031))), some (.inl 2)]) (st' := [.inl 2]) (I := .invokevirtual 28) (pc0 := 30) (len := 3) rfl rfl rfl ⟨60, rfl⟩ ?_
          show WV _ _ _ 33 _ [.inl 2, .inl 2] _ _ _
          refine r_ex 2 (pc' := 64) (lo' := [some (.inr (.inr (some 2))), some (.inr (.inr (some 100031))), some (.inl 2)]) (st' := [.inl 1]) rfl ?_
          refine r_ret (rr := some (.inl 1)) (I := .ireturn) (pc0 := 64) (len := 1) rfl rfl ?_
          exact hQ (by first | assumption | omega | (unfold R32 at *; omega) | (unfold R64 at *; omega) | (simp only [R32, R64] at *; omega))
        · show WV _ _ _ 55 _ _ _ _ _
          rw [if_neg h_52] at hQ
          refine r_ex 1 (pc' := 56) (lo' := [some (.inr (.inr (some 2))), some (.inr (.inr (some 100031))), some (.inl 1)]) (st' := [.inl 0]) rfl ?_
          refine r_ret (rr := some (.inl 0)) (I := .ireturn) (pc0 := 56) (len := 1) rfl rfl ?_
          exact hQ (by first | assumption | omega | (unfold R32 at *; omega) | (unfold R64 at *; omega) | (simp only [R32, R64] at *; omega))
      · show WV _ _ _ 55 _ _ _ _ _
        rw [if_neg h_52] at hQ
        refine r_ex 1 (pc' := 56) (lo' := [some (.inr (.inr (some 2))), some (.inr (.inr (some 100031))), some (.inl 0)]) (st' := [.inl 0]) rfl ?_
        refine r_ret (rr := some (.inl 0)) (I := .ireturn) (pc0 := 56) (len := 1) rfl rfl ?_
        exact hQ (by first | assumption | omega | (unfold R32 at *; omega) | (unfold R64 at *; omega) | (simp only [R32, R64] at *; omega))
    · show WV _ _ _ 24 _ _ _ _ _
      rw [if_neg h_21] at hQ
      refine r_ex 1 (pc' := 25) (lo' := [some (.inr (.inr (some 2))), some (.inr (.inr (some 100031))), none]) (st' := [.inl 0]) rfl ?_
      refine r_ret (rr := some (.inl 0)) (I := .ireturn) (pc0 := 25) (len := 1) rfl rfl ?_
      exact hQ (by first | assumption | omega | (unfold R32 at *; omega) | (unfold R64 at *; omega) | (simp only [R32, R64] at *; omega))

theorem e_cl_isAt15 {X : PX} {d : Nat} {v : VS}  (hX : XI v) (hp_a : (v 2 7) ≤ (v 2 4)) : EvV X (d + 1 + 1 + 1 + 1) 27 [.inr (.inr (some 2)), .inr (.inr (some 100031))] 1 v (some (.inl (cl_isAt15 v))) 1 v := EvV.of (w_cl_isAt15 hX hp_a (fun _ => ⟨rfl, rfl, rfl⟩))

theorem n_cl_isAt15 {v : VS}  (hX : XI v) (hp_a : (v 2 7) ≤ (v 2 4)) : 0 ≤ (cl_isAt15 v) ∧ (cl_isAt15 v) ≤ 1 := by
  have q : WV (0, fun _ => 0, none) (0 + 1 + 1 + 1 + 1) 27 0 [some (.inr (.inr (some 2))), some (.inr (.inr (some 100031))), none] [] 1 v (fun _ _ _ => 0 ≤ (cl_isAt15 v) ∧ (cl_isAt15 v) ≤ 1) := w_cl_isAt15 (X := (0, fun _ => 0, none)) (d := 0) hX hp_a (fun q => q)
  obtain ⟨_, _, _, _, _, _, _, q⟩ := q
  exact q

def cl_word15 (v : VS)  : VS :=
  (if (v 2 1) = 0 then (if (cl_isAt15 v) = 0 then (cl_fail v 1) else (cl_advance v)) else (cl_fail v 1))
theorem w_cl_word15 {X : PX} {d : Nat} {v : VS}  (hX : XI v) (hp_a : (v 2 7) ≤ (v 2 4)) {Q : Option PV → Nat → VS → Prop} (hQ : XI (cl_word15 v) → (((cl_word15 v) 2 7) ≤ ((cl_word15 v) 2 4)) → Q none 1 (cl_word15 v)) : WV X (d + 1 + 1 + 1 + 1 + 1) 26 0 [some (.inr (.inr (some 2))), some (.inr (.inr (some 100031)))] [] 1 v Q := by
  rw [cl_word15] at hQ
  refine r_ex 2 (pc' := 4) (lo' := [some (.inr (.inr (some 2))), some (.inr (.inr (some 100031)))]) (st' := [.inl (v 2 1)]) rfl ?_
  have hb_1 : 0 ≤ (v 2 1) ∧ (v 2 1) ≤ 3 := hX 2 1
  refine n_if_ne (pc0 := 4) (len := 3) (t := 22) rfl (by first | assumption | omega | (unfold R32 at *; omega) | (unfold R64 at *; omega) | (simp only [R32, R64] at *; omega)) (fun h_4 => ?_) (fun h_4 => ?_)
  · show WV _ _ _ 22 _ _ _ _ _
    rw [if_neg h_4] at hQ
    refine r_ex 2 (pc' := 24) (lo' := [some (.inr (.inr (some 2))), some (.inr (.inr (some 100031)))]) (st' := [.inl 1, .inr (.inr (some 2))]) rfl ?_
    have hp_2 : 1 ≤ (1 : Int) ∧ (1 : Int) ≤ 3 := (by first | assumption | omega | (unfold R32 at *; omega) | (unfold R64 at *; omega) | (simp only [R32, R64] at *; omega))
    have hp_3 : (v 2 7) ≤ (v 2 4) := (show (v 2 7) ≤ (v 2 4) from (by first | assumption | omega | (unfold R32 at *; omega) | (unfold R64 at *; omega) | (simp only [R32, R64] at *; omega)))
    refine r_call (m := 39) (args := [.inr (.inr (some 2)), .inl 1]) (n' := 26) (pc' := 27) (lo' := [some (.inr (.inr (some 2))), some (.inr (.inr (some 100031)))]) (st' := []) (I := .invokevirtual 39) (pc0 := 24) (len := 3) rfl rfl rfl (e_cl_fail hX hp_2 hp_3) ?_
    show WV _ _ _ 27 _ [] _ (cl_fail v 1) _
    have hX_4 : XI (cl_fail v 1) := i_cl_fail (v := v) (k := 1) hX hp_2 hp_3
    have hb_5 : ((cl_fail v 1) 2 7) ≤ ((cl_fail v 1) 2 4) := n_cl_fail (v := v) (k := 1) hX hp_2 hp_3
    refine r_ret (rr := none) (I := .return_) (pc0 := 27) (len := 1) rfl rfl ?_
    exact hQ hX_4 (show ((cl_fail v 1) 2 7) ≤ ((cl_fail v 1) 2 4) from (by first | assumption | omega | (unfold R32 at *; omega) | (unfold R64 at *; omega) | (simp only [R32, R64] at *; omega)))
  · show WV _ _ _ 7 _ _ _ _ _
    rw [if_pos h_4] at hQ
    refine r_ex 2 (pc' := 9) (lo' := [some (.inr (.inr (some 2))), some (.inr (.inr (some 100031)))]) (st' := [.inr (.inr (some 100031)), .inr (.inr (some 2))]) rfl ?_
    have hp_6 : (v 2 7) ≤ (v 2 4) := (show (v 2 7) ≤ (v 2 4) from (by first | assumption | omega | (unfold R32 at *; omega) | (unfold R64 at *; omega) | (simp only [R32, R64] at *; omega)))
    refine r_call (m := 27) (args := [.inr (.inr (some 2)), .inr (.inr (some 100031))]) (n' := 26) (pc' := 12) (lo' := [some (.inr (.inr (some 2))), some (.inr (.inr (some 100031)))]) (st' := []) (I := .invokevirtual 27) (pc0 := 9) (len := 3) rfl rfl rfl (e_cl_isAt15 hX hp_6) ?_
    show WV _ _ _ 12 _ [.inl (cl_isAt15 v)] _ _ _
    have hb_7 := n_cl_isAt15 (v := v) hX hp_6
    refine n_if_eq (pc0 := 12) (len := 3) (t := 22) rfl (by first | assumption | omega | (unfold R32 at *; omega) | (unfold R64 at *; omega) | (simp only [R32, R64] at *; omega)) (fun h_12 => ?_) (fun h_12 => ?_)
    · show WV _ _ _ 22 _ _ _ _ _
      rw [if_pos h_12] at hQ
      refine r_ex 2 (pc' := 24) (lo' := [some (.inr (.inr (some 2))), some (.inr (.inr (some 100031)))]) (st' := [.inl 1, .inr (.inr (some 2))]) rfl ?_
      have hp_8 : 1 ≤ (1 : Int) ∧ (1 : Int) ≤ 3 := (by first | assumption | omega | (unfold R32 at *; omega) | (unfold R64 at *; omega) | (simp only [R32, R64] at *; omega))
      have hp_9 : (v 2 7) ≤ (v 2 4) := (show (v 2 7) ≤ (v 2 4) from (by first | assumption | omega | (unfold R32 at *; omega) | (unfold R64 at *; omega) | (simp only [R32, R64] at *; omega)))
      refine r_call (m := 39) (args := [.inr (.inr (some 2)), .inl 1]) (n' := 26) (pc' := 27) (lo' := [some (.inr (.inr (some 2))), some (.inr (.inr (some 100031)))]) (st' := []) (I := .invokevirtual 39) (pc0 := 24) (len := 3) rfl rfl rfl (e_cl_fail hX hp_8 hp_9) ?_
      show WV _ _ _ 27 _ [] _ (cl_fail v 1) _
      have hX_10 : XI (cl_fail v 1) := i_cl_fail (v := v) (k := 1) hX hp_8 hp_9
      have hb_11 : ((cl_fail v 1) 2 7) ≤ ((cl_fail v 1) 2 4) := n_cl_fail (v := v) (k := 1) hX hp_8 hp_9
      refine r_ret (rr := none) (I := .return_) (pc0 := 27) (len := 1) rfl rfl ?_
      exact hQ hX_10 (show ((cl_fail v 1) 2 7) ≤ ((cl_fail v 1) 2 4) from (by first | assumption | omega | (unfold R32 at *; omega) | (unfold R64 at *; omega) | (simp only [R32, R64] at *; omega)))
    · show WV _ _ _ 15 _ _ _ _ _
      rw [if_neg h_12] at hQ
      refine r_ex 1 (pc' := 16) (lo' := [some (.inr (.inr (some 2))), some (.inr (.inr (some 100031)))]) (st' := [.inr (.inr (some 2))]) rfl ?_
      have hp_12 : (v 2 7) ≤ (v 2 4) := (show (v 2 7) ≤ (v 2 4) from (by first | assumption | omega | (unfold R32 at *; omega) | (unfold R64 at *; omega) | (simp only [R32, R64] at *; omega)))
      refine r_call (m := 21) (args := [.inr (.inr (some 2))]) (n' := 26) (pc' := 19) (lo' := [some (.inr (.inr (some 2))), some (.inr (.inr (some 100031)))]) (st' := []) (I := .invokevirtual 21) (pc0 := 16) (len := 3) rfl rfl rfl (e_cl_advance hX hp_12) ?_
      show WV _ _ _ 19 _ [] _ (cl_advance v) _
      have hX_13 : XI (cl_advance v) := i_cl_advance (v := v) hX hp_12
      have hb_14 : ((cl_advance v) 2 7) ≤ ((cl_advance v) 2 4) := n_cl_advance (v := v) hX hp_12
      refine r_ex 1 (pc' := 27) (lo' := [some (.inr (.inr (some 2))), some (.inr (.inr (some 100031)))]) (st' := []) rfl ?_
      refine r_ret (rr := none) (I := .return_) (pc0 := 27) (len := 1) rfl rfl ?_
      exact hQ hX_13 (show ((cl_advance v) 2 7) ≤ ((cl_advance v) 2 4) from (by first | assumption | omega | (unfold R32 at *; omega) | (unfold R64 at *; omega) | (simp only [R32, R64] at *; omega)))

theorem e_cl_word15 {X : PX} {d : Nat} {v : VS}  (hX : XI v) (hp_a : (v 2 7) ≤ (v 2 4)) : EvV X (d + 1 + 1 + 1 + 1 + 1) 26 [.inr (.inr (some 2)), .inr (.inr (some 100031))] 1 v none 1 (cl_word15 v) := EvV.of (w_cl_word15 hX hp_a (fun _ _ => ⟨rfl, rfl, rfl⟩))

theorem i_cl_word15 {v : VS}  (hX : XI v) (hp_a : (v 2 7) ≤ (v 2 4)) : XI (cl_word15 v) := by
  have q : WV (0, fun _ => 0, none) (0 + 1 + 1 + 1 + 1 + 1) 26 0 [some (.inr (.inr (some 2))), some (.inr (.inr (some 100031)))] [] 1 v (fun _ _ _ => XI (cl_word15 v)) := w_cl_word15 (X := (0, fun _ => 0, none)) (d := 0) hX hp_a (fun q _ => q)
  obtain ⟨_, _, _, _, _, _, _, q⟩ := q
  exact q

theorem n_cl_word15 {v : VS}  (hX : XI v) (hp_a : (v 2 7) ≤ (v 2 4)) : ((cl_word15 v) 2 7) ≤ ((cl_word15 v) 2 4) := by
  have q : WV (0, fun _ => 0, none) (0 + 1 + 1 + 1 + 1 + 1) 26 0 [some (.inr (.inr (some 2))), some (.inr (.inr (some 100031)))] [] 1 v (fun _ _ _ => ((cl_word15 v) 2 7) ≤ ((cl_word15 v) 2 4)) := w_cl_word15 (X := (0, fun _ => 0, none)) (d := 0) hX hp_a (fun _ q => q)
  obtain ⟨_, _, _, _, _, _, _, q⟩ := q
  exact q

theorem o_cl_word15 {rk : Nat} {v : VS}  (hk : (rk < 2 ∨ 2 < rk)) : (cl_word15 v ) rk = v rk := by
  unfold cl_word15
  by_cases hc_ : (v 2 1) = 0
  · rw [if_pos hc_]
    by_cases hc_ : (cl_isAt15 v) = 0
    · rw [if_pos hc_]
      all_goals (show (cl_fail v 1) rk = _)
      all_goals (rw [o_cl_fail (by omega)])
    · rw [if_neg hc_]
      all_goals (show (cl_advance v) rk = _)
      all_goals (rw [o_cl_advance (by omega)])
  · rw [if_neg hc_]
    all_goals (show (cl_fail v 1) rk = _)
    all_goals (rw [o_cl_fail (by omega)])

def cl_isAt16 (v : VS)  : Int :=
  (if (v 2 5) = 1 then (if 3 = ((v 2 7) - (v 2 6)) then (if (v 1 ((((v 2 6) + 0)).toNat)) = 102 then (if (v 1 ((((v 2 6) + 1)).toNat)) = 111 then (if (v 1 ((((v 2 6) + 2)).toNat)) = 103 then 1 else 0) else 0) else 0) else 0) else 0)
theorem w_cl_isAt16 {X : PX} {d : Nat} {v : VS}  (hX : XI v) (hp_a : (v 2 7) ≤ (v 2 4)) {Q : Option PV → Nat → VS → Prop} (hQ : (0 ≤ (cl_isAt16 v) ∧ (cl_isAt16 v) ≤ 1) → Q (some (.inl (cl_isAt16 v))) 1 v) : WV X (d + 1 + 1 + 1 + 1) 27 0 [some (.inr (.inr (some 2))), some (.inr (.inr (some 100033))), none] [] 1 v Q := by
  rw [cl_isAt16] at hQ
  have hz6 : 0 ≤ v 2 6 ∧ v 2 6 ≤ 2000 := hX 2 6
  have hz7 : 0 ≤ v 2 7 ∧ v 2 7 ≤ 2001 := hX 2 7
  have hz4 : 0 ≤ v 2 4 ∧ v 2 4 ≤ 2000 := hX 2 4
  refine r_ex 3 (pc' := 5) (lo' := [some (.inr (.inr (some 2))), some (.inr (.inr (some 100033))), none]) (st' := [.inl 1, .inl (v 2 5)]) rfl ?_
  have hb_1 : 0 ≤ (v 2 5) ∧ (v 2 5) ≤ 4 := hX 2 5
  refine n_ic_ne (pc0 := 5) (len := 3) (t := 24) rfl (by first | assumption | omega | (unfold R32 at *; omega) | (unfold R64 at *; omega) | (simp only [R32, R64] at *; omega)) (by first | assumption | omega | (unfold R32 at *; omega) | (unfold R64 at *; omega) | (simp only [R32, R64] at *; omega)) (fun h_5 => ?_) (fun h_5 => ?_)
  · show WV _ _ _ 24 _ _ _ _ _
    rw [if_neg h_5] at hQ
    refine r_ex 1 (pc' := 25) (lo' := [some (.inr (.inr (some 2))), some (.inr (.inr (some 100033))), none]) (st' := [.inl 0]) rfl ?_
    refine r_ret (rr := some (.inl 0)) (I := .ireturn) (pc0 := 25) (len := 1) rfl rfl ?_
    exact hQ (by first | assumption | omega | (unfold R32 at *; omega) | (unfold R64 at *; omega) | (simp only [R32, R64] at *; omega))
  · show WV _ _ _ 8 _ _ _ _ _
    rw [if_pos h_5] at hQ
    refine r_ex 1 (pc' := 9) (lo' := [some (.inr (.inr (some 2))), some (.inr (.inr (some 100033))), none]) (st' := [.inr (.inr (some 100033))]) rfl ?_
    refine r_call (rr := some (.inl 3)) (b' := 1) (v' := v) (m := 28) (args := [.inr (.inr (some 100033))]) (n' := 27) (pc' := 12) (lo' := [some (.inr (.inr (some 2))), some (.inr (.inr (some 100033))), none]) (st' := []) (I := .invokevirtual 28) (pc0 := 9) (len := 3) rfl rfl rfl ⟨60, rfl⟩ ?_
    show WV _ _ _ 12 _ [.inl 3] _ _ _
    refine r_ex 5 (pc' := 21) (lo' := [some (.inr (.inr (some 2))), some (.inr (.inr (some 100033))), none]) (st' := [.inl ((v 2 7) - (v 2 6)), .inl 3]) rfl ?_
    have hb_2 : 0 ≤ (v 2 7) ∧ (v 2 7) ≤ 2001 := hX 2 7
    have hb_3 : 0 ≤ (v 2 6) ∧ (v 2 6) ≤ 2000 := hX 2 6
    refine n_ic_eq (pc0 := 21) (len := 3) (t := 26) rfl (by first | assumption | omega | (unfold R32 at *; omega) | (unfold R64 at *; omega) | (simp only [R32, R64] at *; omega)) (by first | assumption | omega | (unfold R32 at *; omega) | (unfold R64 at *; omega) | (simp only [R32, R64] at *; omega)) (fun h_21 => ?_) (fun h_21 => ?_)
    · show WV _ _ _ 26 _ _ _ _ _
      rw [if_pos h_21] at hQ
      refine r_ex 4 (pc' := 30) (lo' := [some (.inr (.inr (some 2))), some (.inr (.inr (some 100033))), some (.inl 0)]) (st' := [.inr (.inr (some 100033)), .inl 0]) rfl ?_
      refine r_call (rr := some (.inl 3)) (b' := 1) (v' := v) (m := 28) (args := [.inr (.inr (some 100033))]) (n' := 27) (pc' := 33) (lo' := [some (.inr (.inr (some 2))), some (.inr (.inr (some 100033))), some (.inl 0)]) (st' := [.inl 0]) (I := .invokevirtual 28) (pc0 := 30) (len := 3) rfl rfl rfl ⟨60, rfl⟩ ?_
      show WV _ _ _ 33 _ [.inl 3, .inl 0] _ _ _
      refine r_ex 7 (pc' := 46) (lo' := [some (.inr (.inr (some 2))), some (.inr (.inr (some 100033))), some (.inl 0)]) (st' := [.inl ((v 2 6) + 0), .inr (.inr (some 1))]) rfl ?_
      refine r_bald2 (x := (v 1 ((((v 2 6) + 0)).toNat))) (pc' := 47) (pc0 := 46) (len := 1) rfl (s_1 _) (Or.inl rfl) (by first | assumption | omega | (unfold R32 at *; omega) | (unfold R64 at *; omega) | (simp only [R32, R64] at *; omega)) (by decide) rfl rfl ?_
      have hb_4 : -128 ≤ (v 1 ((((v 2 6) + 0)).toNat)) ∧ (v 1 ((((v 2 6) + 0)).toNat)) ≤ 127 := hX 1 ((((v 2 6) + 0)).toNat)
      refine r_ex 2 (pc' := 49) (lo' := [some (.inr (.inr (some 2))), some (.inr (.inr (some 100033))), some (.inl 0)]) (st' := [.inl 0, .inr (.inr (some 100033)), .inl (v 1 ((((v 2 6) + 0)).toNat))]) rfl ?_
      refine r_call (rr := some (.inl 102)) (b' := 1) (v' := v) (m := 30) (args := [.inr (.inr (some 100033)), .inl 0]) (n' := 27) (pc' := 52) (lo' := [some (.inr (.inr (some 2))), some (.inr (.inr (some 100033))), some (.inl 0)]) (st' := [.inl (v 1 ((((v 2 6) + 0)).toNat))]) (I := .invokevirtual 30) (pc0 := 49) (len := 3) rfl rfl rfl ⟨60, rfl⟩ ?_
      show WV _ _ _ 52 _ [.inl 102, .inl (v 1 ((((v 2 6) + 0)).toNat))] _ _ _
      refine n_ic_eq (pc0 := 52) (len := 3) (t := 57) rfl (by first | assumption | omega | (unfold R32 at *; omega) | (unfold R64 at *; omega) | (simp only [R32, R64] at *; omega)) (by first | assumption | omega | (unfold R32 at *; omega) | (unfold R64 at *; omega) | (simp only [R32, R64] at *; omega)) (fun h_52 => ?_) (fun h_52 => ?_)
      · show WV _ _ _ 57 _ _ _ _ _
        rw [if_pos h_52] at hQ
        refine r_ex 4 (pc' := 30) (lo' := [some (.inr (.inr (some 2))), some (.inr (.inr (some 100033))), some (.inl 1)]) (st' := [.inr (.inr (some 100033)), .inl 1]) rfl ?_
        refine r_call (rr := some (.inl 3)) (b' := 1) (v' := v) (m := 28) (args := [.inr (.inr (some 100033))]) (n' := 27) (pc' := 33) (lo' := [some (.inr (.inr (some 2))), some (.inr (.inr (some 100033))), some (.inl 1)]) (st' := [.inl 1]) (I := .invokevirtual 28) (pc0 := 30) (len := 3) rfl rfl rfl ⟨60, rfl⟩ ?_
        show WV _ _ _ 33 _ [.inl 3, .inl 1] _ _ _
        refine r_ex 7 (pc' := 46) (lo' := [some (.inr (.inr (some 2))), some (.inr (.inr (some 100033))), some (.inl 1)]) (st' := [.inl ((v 2 6) + 1), .inr (.inr (some 1))]) rfl ?_
        refine r_bald2 (x := (v 1 ((((v 2 6) + 1)).toNat))) (pc' := 47) (pc0 := 46) (len := 1) rfl (s_1 _) (Or.inl rfl) (by first | assumption | omega | (unfold R32 at *; omega) | (unfold R64 at *; omega) | (simp only [R32, R64] at *; omega)) (by decide) rfl rfl ?_
        have hb_5 : -128 ≤ (v 1 ((((v 2 6) + 1)).toNat)) ∧ (v 1 ((((v 2 6) + 1)).toNat)) ≤ 127 := hX 1 ((((v 2 6) + 1)).toNat)
        refine r_ex 2 (pc' := 49) (lo' := [some (.inr (.inr (some 2))), some (.inr (.inr (some 100033))), some (.inl 1)]) (st' := [.inl 1, .inr (.inr (some 100033)), .inl (v 1 ((((v 2 6) + 1)).toNat))]) rfl ?_
        refine r_call (rr := some (.inl 111)) (b' := 1) (v' := v) (m := 30) (args := [.inr (.inr (some 100033)), .inl 1]) (n' := 27) (pc' := 52) (lo' := [some (.inr (.inr (some 2))), some (.inr (.inr (some 100033))), some (.inl 1)]) (st' := [.inl (v 1 ((((v 2 6) + 1)).toNat))]) (I := .invokevirtual 30) (pc0 := 49) (len := 3) rfl rfl rfl ⟨60, rfl⟩ ?_
        show WV _ _ _ 52 _ [.inl 111, .inl (v 1 ((((v 2 6) + 1)).toNat))] _ _ _
        refine n_ic_eq (pc0 := 52) (len := 3) (t := 57) rfl (by first | assumption | omega | (unfold R32 at *; omega) | (unfold R64 at *; omega) | (simp only [R32, R64] at *; omega)) (by first | assumption | omega | (unfold R32 at *; omega) | (unfold R64 at *; omega) | (simp only [R32, R64] at *; omega)) (fun h_52 => ?_) (fun h_52 => ?_)
        · show WV _ _ _ 57 _ _ _ _ _
          rw [if_pos h_52] at hQ
          refine r_ex 4 (pc' := 30) (lo' := [some (.inr (.inr (some 2))), some (.inr (.inr (some 100033))), some (.inl 2)]) (st' := [.inr (.inr (some 100033)), .inl 2]) rfl ?_
          refine r_call (rr := some (.inl 3)) (b' := 1) (v' := v) (m := 28) (args := [.inr (.inr (some 100033))]) (n' := 27) (pc' := 33) (lo' := [some (.inr (.inr (some 2))), some (.inr (.inr (some 100033))), some (.inl 2)]) (st' := [.inl 2]) (I := .invokevirtual 28) (pc0 := 30) (len := 3) rfl rfl rfl ⟨60, rfl⟩ ?_
          show WV _ _ _ 33 _ [.inl 3, .inl 2] _ _ _
          refine r_ex 7 (pc' := 46) (lo' := [some (.inr (.inr (some 2))), some (.inr (.inr (some 100033))), some (.inl 2)]) (st' := [.inl ((v 2 6) + 2), .inr (.inr (some 1))]) rfl ?_
          refine r_bald2 (x := (v 1 ((((v 2 6) + 2)).toNat))) (pc' := 47) (pc0 := 46) (len := 1) rfl (s_1 _) (Or.inl rfl) (by first | assumption | omega | (unfold R32 at *; omega) | (unfold R64 at *; omega) | (simp only [R32, R64] at *; omega)) (by decide) rfl rfl ?_
          have hb_6 : -128 ≤ (v 1 ((((v 2 6) + 2)).toNat)) ∧ (v 1 ((((v 2 6) + 2)).toNat)) ≤ 127 := hX 1 ((((v 2 6) + 2)).toNat)
          refine r_ex 2 (pc' := 49) (lo' := [some (.inr (.inr (some 2))), some (.inr (.inr (some 100033))), some (.inl 2)]) (st' := [.inl 2, .inr (.inr (some 100033)), .inl (v 1 ((((v 2 6) + 2)).toNat))]) rfl ?_
          refine r_call (rr := some (.inl 103)) (b' := 1) (v' := v) (m := 30) (args := [.inr (.inr (some 100033)), .inl 2]) (n' := 27) (pc' := 52) (lo' := [some (.inr (.inr (some 2))), some (.inr (.inr (some 100033))), some (.inl 2)]) (st' := [.inl (v 1 ((((v 2 6) + 2)).toNat))]) (I := .invokevirtual 30) (pc0 := 49) (len := 3) rfl rfl rfl ⟨60, rfl⟩ ?_
          show WV _ _ _ 52 _ [.inl 103, .inl (v 1 ((((v 2 6) + 2)).toNat))] _ _ _
          refine n_ic_eq (pc0 := 52) (len := 3) (t := 57) rfl (by first | assumption | omega | (unfold R32 at *; omega) | (unfold R64 at *; omega) | (simp only [R32, R64] at *; omega)) (by first | assumption | omega | (unfold R32 at *; omega) | (unfold R64 at *; omega) | (simp only [R32, R64] at *; omega)) (fun h_52 => ?_) (fun h_52 => ?_)
          · show WV _ _ _ 57 _ _ _ _ _
            rw [if_pos h_52] at hQ
            refine r_ex 4 (pc' := 30) (lo' := [some (.inr (.inr (some 2))), some (.inr (.inr (some 100033))), some (.inl 3)]) (st' := [.inr (.inr (some 100033)), .inl 3]) rfl ?_
            refine r_call (rr := some (.inl 3)) (b' := 1) (v' := v) (m := 28) (args := [.inr (.inr (some 100033))]) (n' := 27) (pc' := 33) (lo' := [some (.inr (.inr (some 2))), some (.inr (.inr (some 100033))), some (.inl 3)]) (st' := [.inl 3]) (I := .invokevirtual 28) (pc0 := 30) (len := 3) rfl rfl rfl ⟨60, rfl⟩ ?_
            show WV _ _ _ 33 _ [.inl 3, .inl 3] _ _ _
            refine r_ex 2 (pc' := 64) (lo' := [some (.inr (.inr (some 2))), some (.inr (.inr (some 100033))), some (.inl 3)]) (st' := [.inl 1]) rfl ?_
            refine r_ret (rr := some (.inl 1)) (I := .ireturn) (pc0 := 64) (len := 1) rfl rfl ?_
            exact hQ (by first | assumption | omega | (unfold R32 at *; omega) | (unfold R64 at *; omega) | (simp only [R32, R64] at *; omega))
          · show WV _ _ _ 55 _ _ _ _ _
            rw [if_neg h_52] at hQ
            refine r_ex 1 (pc' := 56) (lo' := [some (.inr (.inr (some 2))), some (.inr (.inr (some 100033))), some (.inl 2)]) (st' := [.inl 0]) rfl ?_
            refine r_ret (rr := some (.inl 0)) (I := .ireturn) (pc0 := 56) (len := 1) rfl rfl ?_
            exact hQ (by first | assumption | omega | (unfold R32 at *; omega) | (unfold R64 at *; omega) | (simp only [R32, R64] at *; omega))
        · show WV _ _ _ 55 _ _ _ _ _
          rw [if_neg h_52] at hQ
          refine r_ex 1 (pc' := 56) (lo' := [some (.inr (.inr (some 2))), some (.inr (.inr (some 100033))), some (.inl 1)]) (st' := [.inl 0]) rfl ?_
          refine r_ret (rr := some (.inl 0)) (I := .ireturn) (pc0 := 56) (len := 1) rfl rfl ?_
          exact hQ (by first | assumption | omega | (unfold R32 at *; omega) | (unfold R64 at *; omega) | (simp only [R32, R64] at *; omega))
      · show WV _ _ _ 55 _ _ _ _ _
        rw [if_neg h_52] at hQ
        refine r_ex 1 (pc' := 56) (lo' := [some (.inr (.inr (some 2))), some (.inr (.inr (some 100033))), some (.inl 0)]) (st' := [.inl 0]) rfl ?_
        refine r_ret (rr := some (.inl 0)) (I := .ireturn) (pc0 := 56) (len := 1) rfl rfl ?_
        exact hQ (by first | assumption | omega | (unfold R32 at *; omega) | (unfold R64 at *; omega) | (simp only [R32, R64] at *; omega))
    · show WV _ _ _ 24 _ _ _ _ _
      rw [if_neg h_21] at hQ
      refine r_ex 1 (pc' := 25) (lo' := [some (.inr (.inr (some 2))), some (.inr (.inr (some 100033))), none]) (st' := [.inl 0]) rfl ?_
      refine r_ret (rr := some (.inl 0)) (I := .ireturn) (pc0 := 25) (len := 1) rfl rfl ?_
      exact hQ (by first | assumption | omega | (unfold R32 at *; omega) | (unfold R64 at *; omega) | (simp only [R32, R64] at *; omega))

theorem e_cl_isAt16 {X : PX} {d : Nat} {v : VS}  (hX : XI v) (hp_a : (v 2 7) ≤ (v 2 4)) : EvV X (d + 1 + 1 + 1 + 1) 27 [.inr (.inr (some 2)), .inr (.inr (some 100033))] 1 v (some (.inl (cl_isAt16 v))) 1 v := EvV.of (w_cl_isAt16 hX hp_a (fun _ => ⟨rfl, rfl, rfl⟩))

theorem n_cl_isAt16 {v : VS}  (hX : XI v) (hp_a : (v 2 7) ≤ (v 2 4)) : 0 ≤ (cl_isAt16 v) ∧ (cl_isAt16 v) ≤ 1 := by
  have q : WV (0, fun _ => 0, none) (0 + 1 + 1 + 1 + 1) 27 0 [some (.inr (.inr (some 2))), some (.inr (.inr (some 100033))), none] [] 1 v (fun _ _ _ => 0 ≤ (cl_isAt16 v) ∧ (cl_isAt16 v) ≤ 1) := w_cl_isAt16 (X := (0, fun _ => 0, none)) (d := 0) hX hp_a (fun q => q)
  obtain ⟨_, _, _, _, _, _, _, q⟩ := q
  exact q

def cl_isAt17 (v : VS)  : Int :=
  (if (v 2 5) = 1 then (if 2 = ((v 2 7) - (v 2 6)) then (if (v 1 ((((v 2 6) + 0)).toNat)) = 111 then (if (v 1 ((((v 2 6) + 1)).toNat)) = 110 then 1 else 0) else 0) else 0) else 0)
theorem w_cl_isAt17 {X : PX} {d : Nat} {v : VS}  (hX : XI v) (hp_a : (v 2 7) ≤ (v 2 4)) {Q : Option PV → Nat → VS → Prop} (hQ : (0 ≤ (cl_isAt17 v) ∧ (cl_isAt17 v) ≤ 1) → Q (some (.inl (cl_isAt17 v))) 1 v) : WV X (d + 1 + 1 + 1 + 1) 27 0 [some (.inr (.inr (some 2))), some (.inr (.inr (some 100035))), none] [] 1 v Q := by
  rw [cl_isAt17] at hQ
  have hz6 : 0 ≤ v 2 6 ∧ v 2 6 ≤ 2000 := hX 2 6
  have hz7 : 0 ≤ v 2 7 ∧ v 2 7 ≤ 2001 := hX 2 7
  have hz4 : 0 ≤ v 2 4 ∧ v 2 4 ≤ 2000 := hX 2 4
  refine r_ex 3 (pc' := 5) (lo' := [some (.inr (.inr (some 2))), some (.inr (.inr (some 100035))), none]) (st' := [.inl 1, .inl (v 2 5)]) rfl ?_
  have hb_1 : 0 ≤ (v 2 5) ∧ (v 2 5) ≤ 4 := hX 2 5
  refine n_ic_ne (pc0 := 5) (len := 3) (t := 24) rfl (by first | assumption | omega | (unfold R32 at *; omega) | (unfold R64 at *; omega) | (simp only [R32, R64] at *; omega)) (by first | assumption | omega | (unfold R32 at *; omega) | (unfold R64 at *; omega) | (simp only [R32, R64] at *; omega)) (fun h_5 => ?_) (fun h_5 => ?_)
  · show WV _ _ _ 24 _ _ _ _ _
    rw [if_neg h_5] at hQ
    refine r_ex 1 (pc' := 25) (lo' := [some (.inr (.inr (some 2))), some (.inr (.inr (some 100035))), none]) (st' := [.inl 0]) rfl ?_
    refine r_ret (rr := some (.inl 0)) (I := .ireturn) (pc0 := 25) (len := 1) rfl rfl ?_
    exact hQ (by first | assumption | omega | (unfold R32 at *; omega) | (unfold R64 at *; omega) | (simp only [R32, R64] at *; omega))
  · show WV _ _ _ 8 _ _ _ _ _
    rw [if_pos h_5] at hQ
    refine r_ex 1 (pc' := 9) (lo' := [some (.inr (.inr (some 2))), some (.inr (.inr (some 100035))), none]) (st' := [.inr (.inr (some 100035))]) rfl ?_
    refine r_call (rr := some (.inl 2)) (b' := 1) (v' := v) (m := 28) (args := [.inr (.inr (some 100035))]) (n' := 27) (pc' := 12) (lo' := [some (.inr (.inr (some 2))), some (.inr (.inr (some 100035))), none]) (st' := []) (I := .invokevirtual 28) (pc0 := 9) (len := 3) rfl rfl rfl ⟨60, rfl⟩ ?_
    show WV _ _ _ 12 _ [.inl 2] _ _ _
    refine r_ex 5 (pc' := 21) (lo' := [some (.inr (.inr (some 2))), some (.inr (.inr (some 100035))), none]) (st' := [.inl ((v 2 7) - (v 2 6)), .inl 2]) rfl ?_
    have hb_2 : 0 ≤ (v 2 7) ∧ (v 2 7) ≤ 2001 := hX 2 7
    have hb_3 : 0 ≤ (v 2 6) ∧ (v 2 6) ≤ 2000 := hX 2 6
    refine n_ic_eq (pc0 := 21) (len := 3) (t := 26) rfl (by first | assumption | omega | (unfold R32 at *; omega) | (unfold R64 at *; omega) | (simp only [R32, R64] at *; omega)) (by first | assumption | omega | (unfold R32 at *; omega) | (unfold R64 at *; omega) | (simp only [R32, R64] at *; omega)) (fun h_21 => ?_) (fun h_21 => ?_)
    · show WV _ _ _ 26 _ _ _ _ _
      rw [if_pos h_21] at hQ
      refine r_ex 4 (pc' := 30) (lo' := [some (.inr (.inr (some 2))), some (.inr (.inr (some 100035))), some (.inl 0)]) (st' := [.inr (.inr (some 100035)), .inl 0]) rfl ?_
      refine r_call (rr := some (.inl 2)) (b' := 1) (v' := v) (m := 28) (args := [.inr (.inr (some 100035))]) (n' := 27) (pc' := 33) (lo' := [some (.inr (.inr (some 2))), some (.inr (.inr (some 100035))), some (.inl 0)]) (st' := [.inl 0]) (I := .invokevirtual 28) (pc0 := 30) (len := 3) rfl rfl rfl ⟨60, rfl⟩ ?_
      show WV _ _ _ 33 _ [.inl 2, .inl 0] _ _ _
      refine r_ex 7 (pc' := 46) (lo' := [some (.inr (.inr (some 2))), some (.inr (.inr (some 100035))), some (.inl 0)]) (st' := [.inl ((v 2 6) + 0), .inr (.inr (some 1))]) rfl ?_
      refine r_bald2 (x := (v 1 ((((v 2 6) + 0)).toNat))) (pc' := 47) (pc0 := 46) (len := 1) rfl (s_1 _) (Or.inl rfl) (by first | assumption | omega | (unfold R32 at *; omega) | (unfold R64 at *; omega) | (simp only [R32, R64] at *; omega)) (by decide) rfl rfl ?_
      have hb_4 : -128 ≤ (v 1 ((((v 2 6) + 0)).toNat)) ∧ (v 1 ((((v 2 6) + 0)).toNat)) ≤ 127 := hX 1 ((((v 2 6) + 0)).toNat)
      refine r_ex 2 (pc' := 49) (lo' := [some (.inr (.inr (some 2))), some (.inr (.inr (some 100035))), some (.inl 0)]) (st' := [.inl 0, .inr (.inr (some 100035)), .inl (v 1 ((((v 2 6) + 0)).toNat))]) rfl ?_
      refine r_call (rr := some (.inl 111)) (b' := 1) (v' := v) (m := 30) (args := [.inr (.inr (some 100035)), .inl 0]) (n' := 27) (pc' := 52) (lo' := [some (.inr (.inr (some 2))), some (.inr (.inr (some 100035))), some (.inl 0)]) (st' := [.inl (v 1 ((((v 2 6) + 0)).toNat))]) (I := .invokevirtual 30) (pc0 := 49) (len := 3) rfl rfl rfl ⟨60, rfl⟩ ?_
      show WV _ _ _ 52 _ [.inl 111, .inl (v 1 ((((v 2 6) + 0)).toNat))] _ _ _
      refine n_ic_eq (pc0 := 52) (len := 3) (t := 57) rfl (by first | assumption | omega | (unfold R32 at *; omega) | (unfold R64 at *; omega) | (simp only [R32, R64] at *; omega)) (by first | assumption | omega | (unfold R32 at *; omega) | (unfold R64 at *; omega) | (simp only [R32, R64] at *; omega)) (fun h_52 => ?_) (fun h_52 => ?_)
      · show WV _ _ _ 57 _ _ _ _ _
        rw [if_pos h_52] at hQ
        refine r_ex 4 (pc' := 30) (lo' := [some (.inr (.inr (some 2))), some (.inr (.inr (some 100035))), some (.inl 1)]) (st' := [.inr (.inr (some 100035)), .inl 1]) rfl ?_
        refine r_call (rr := some (.inl 2)) (b' := 1) (v' := v) (m := 28) (args := [.inr (.inr (some 100035))]) (n' := 27) (pc' := 33) (lo' := [some (.inr (.inr (some 2))), some (.inr (.inr (some 100035))), some (.inl 1)]) (st' := [.inl 1]) (I := .invokevirtual 28) (pc0 := 30) (len := 3) rfl rfl rfl ⟨60, rfl⟩ ?_
        show WV _ _ _ 33 _ [.inl 2, .inl 1] _ _ _
        refine r_ex 7 (pc' := 46) (lo' := [some (.inr (.inr (some 2))), some (.inr (.inr (some 100035))), some (.inl 1)]) (st' := [.inl ((v 2 6) + 1), .inr (.inr (some 1))]) rfl ?_
        refine r_bald2 (x := (v 1 ((((v 2 6) + 1)).toNat))) (pc' := 47) (pc0 := 46) (len := 1) rfl (s_1 _) (Or.inl rfl) (by first | assumption | omega | (unfold R32 at *; omega) | (unfold R64 at *; omega) | (simp only [R32, R64] at *; omega)) (by decide) rfl rfl ?_
        have hb_5 : -128 ≤ (v 1 ((((v 2 6) + 1)).toNat)) ∧ (v 1 ((((v 2 6) + 1)).toNat)) ≤ 127 := hX 1 ((((v 2 6) + 1)).toNat)
        refine r_ex 2 (pc' := 49) (lo' := [some (.inr (.inr (some 2))), some (.inr (.inr (some 100035))), some (.inl 1)]) (st' := [.inl 1, .inr (.inr (some 100035)), .inl (v 1 ((((v 2 6) + 1)).toNat))]) rfl ?_
        refine r_call (rr := some (.inl 110)) (b' := 1) (v' := v) (m := 30) (args := [.inr (.inr (some 100035)), .inl 1]) (n' := 27) (pc' := 52) (lo' := [some (.inr (.inr (some 2))), some (.inr (.inr (some 100035))), some (.inl 1)]) (st' := [.inl (v 1 ((((v 2 6) + 1)).toNat))]) (I := .invokevirtual 30) (pc0 := 49) (len := 3) rfl rfl rfl ⟨60, rfl⟩ ?_
        show WV _ _ _ 52 _ [.inl 110, .inl (v 1 ((((v 2 6) + 1)).toNat))] _ _ _
        refine n_ic_eq (pc0 := 52) (len := 3) (t := 57) rfl (by first | assumption | omega | (unfold R32 at *; omega) | (unfold R64 at *; omega) | (simp only [R32, R64] at *; omega)) (by first | assumption | omega | (unfold R32 at *; omega) | (unfold R64 at *; omega) | (simp only [R32, R64] at *; omega)) (fun h_52 => ?_) (fun h_52 => ?_)
        · show WV _ _ _ 57 _ _ _ _ _
          rw [if_pos h_52] at hQ
          refine r_ex 4 (pc' := 30) (lo' := [some (.inr (.inr (some 2))), some (.inr (.inr (some 100035))), some (.inl 2)]) (st' := [.inr (.inr (some 100035)), .inl 2]) rfl ?_
          refine r_call (rr := some (.inl 2)) (b' := 1) (v' := v) (m := 28) (args := [.inr (.inr (some 100035))]) (n' := 27) (pc' := 33) (lo' := [some (.inr (.inr (some 2))), some (.inr (.inr (some 100035))), some (.inl 2)]) (st' := [.inl 2]) (I := .invokevirtual 28) (pc0 := 30) (len := 3) rfl rfl rfl ⟨60, rfl⟩ ?_
          show WV _ _ _ 33 _ [.inl 2, .inl 2] _ _ _
          refine r_ex 2 (pc' := 64) (lo' := [some (.inr (.inr (some 2))), some (.inr (.inr (some 100035))), some (.inl 2)]) (st' := [.inl 1]) rfl ?_
          refine r_ret (rr := some (.inl 1)) (I := .ireturn) (pc0 := 64) (len := 1) rfl rfl ?_
          exact hQ (by first | assumption | omega | (unfold R32 at *; omega) | (unfold R64 at *; omega) | (simp only [R32, R64] at *; omega))
        · show WV _ _ _ 55 _ _ _ _ _
          rw [if_neg h_52] at hQ
          refine r_ex 1 (pc' := 56) (lo' := [some (.inr (.inr (some 2))), some (.inr (.inr (some 100035))), some (.inl 1)]) (st' := [.inl 0]) rfl ?_
          refine r_ret (rr := some (.inl 0)) (I := .ireturn) (pc0 := 56) (len := 1) rfl rfl ?_
          exact hQ (by first | assumption | omega | (unfold R32 at *; omega) | (unfold R64 at *; omega) | (simp only [R32, R64] at *; omega))
      · show WV _ _ _ 55 _ _ _ _ _
        rw [if_neg h_52] at hQ
        refine r_ex 1 (pc' := 56) (lo' := [some (.inr (.inr (some 2))), some (.inr (.inr (some 100035))), some (.inl 0)]) (st' := [.inl 0]) rfl ?_
        refine r_ret (rr := some (.inl 0)) (I := .ireturn) (pc0 := 56) (len := 1) rfl rfl ?_
        exact hQ (by first | assumption | omega | (unfold R32 at *; omega) | (unfold R64 at *; omega) | (simp only [R32, R64] at *; omega))
    · show WV _ _ _ 24 _ _ _ _ _
      rw [if_neg h_21] at hQ
      refine r_ex 1 (pc' := 25) (lo' := [some (.inr (.inr (some 2))), some (.inr (.inr (some 100035))), none]) (st' := [.inl 0]) rfl ?_
      refine r_ret (rr := some (.inl 0)) (I := .ireturn) (pc0 := 25) (len := 1) rfl rfl ?_
      exact hQ (by first | assumption | omega | (unfold R32 at *; omega) | (unfold R64 at *; omega) | (simp only [R32, R64] at *; omega))

theorem e_cl_isAt17 {X : PX} {d : Nat} {v : VS}  (hX : XI v) (hp_a : (v 2 7) ≤ (v 2 4)) : EvV X (d + 1 + 1 + 1 + 1) 27 [.inr (.inr (some 2)), .inr (.inr (some 100035))] 1 v (some (.inl (cl_isAt17 v))) 1 v := EvV.of (w_cl_isAt17 hX hp_a (fun _ => ⟨rfl, rfl, rfl⟩))

theorem n_cl_isAt17 {v : VS}  (hX : XI v) (hp_a : (v 2 7) ≤ (v 2 4)) : 0 ≤ (cl_isAt17 v) ∧ (cl_isAt17 v) ≤ 1 := by
  have q : WV (0, fun _ => 0, none) (0 + 1 + 1 + 1 + 1) 27 0 [some (.inr (.inr (some 2))), some (.inr (.inr (some 100035))), none] [] 1 v (fun _ _ _ => 0 ≤ (cl_isAt17 v) ∧ (cl_isAt17 v) ≤ 1) := w_cl_isAt17 (X := (0, fun _ => 0, none)) (d := 0) hX hp_a (fun q => q)
  obtain ⟨_, _, _, _, _, _, _, q⟩ := q
  exact q

def cl_word17 (v : VS)  : VS :=
  (if (v 2 1) = 0 then (if (cl_isAt17 v) = 0 then (cl_fail v 1) else (cl_advance v)) else (cl_fail v 1))
theorem w_cl_word17 {X : PX} {d : Nat} {v : VS}  (hX : XI v) (hp_a : (v 2 7) ≤ (v 2 4)) {Q : Option PV → Nat → VS → Prop} (hQ : XI (cl_word17 v) → (((cl_word17 v) 2 7) ≤ ((cl_word17 v) 2 4)) → Q none 1 (cl_word17 v)) : WV X (d + 1 + 1 + 1 + 1 + 1) 26 0 [some (.inr (.inr (some 2))), some (.inr (.inr (some 100035)))] [] 1 v Q := by
  rw [cl_word17] at hQ
  refine r_ex 2 (pc' := 4) (lo' := [some (.inr (.inr (some 2))), some (.inr (.inr (some 100035)))]) (st' := [.inl (v 2 1)]) rfl ?_
  have hb_1 : 0 ≤ (v 2 1) ∧ (v 2 1) ≤ 3 := hX 2 1
  refine n_if_ne (pc0 := 4) (len := 3) (t := 22) rfl (by first | assumption | omega | (unfold R32 at *; omega) | (unfold R64 at *; omega) | (simp only [R32, R64] at *; omega)) (fun h_4 => ?_) (fun h_4 => ?_)
  · show WV _ _ _ 22 _ _ _ _ _
    rw [if_neg h_4] at hQ
    refine r_ex 2 (pc' := 24) (lo' := [some (.inr (.inr (some 2))), some (.inr (.inr (some 100035)))]) (st' := [.inl 1, .inr (.inr (some 2))]) rfl ?_
    have hp_2 : 1 ≤ (1 : Int) ∧ (1 : Int) ≤ 3 := (by first | assumption | omega | (unfold R32 at *; omega) | (unfold R64 at *; omega) | (simp only [R32, R64] at *; omega))
    have hp_3 : (v 2 7) ≤ (v 2 4) := (show (v 2 7) ≤ (v 2 4) from (by first | assumption | omega | (unfold R32 at *; omega) | (unfold R64 at *; omega) | (simp only [R32, R64] at *; omega)))
    refine r_call (m := 39) (args := [.inr (.inr (some 2)), .inl 1]) (n' := 26) (pc' := 27) (lo' := [some (.inr (.inr (some 2))), some (.inr (.inr (some 100035)))]) (st' := []) (I := .invokevirtual 39) (pc0 := 24) (len := 3) rfl rfl rfl (e_cl_fail hX hp_2 hp_3) ?_
    show WV _ _ _ 27 _ [] _ (cl_fail v 1) _
    have hX_4 : XI (cl_fail v 1) := i_cl_fail (v := v) (k := 1) hX hp_2 hp_3
    have hb_5 : ((cl_fail v 1) 2 7) ≤ ((cl_fail v 1) 2 4) := n_cl_fail (v := v) (k := 1) hX hp_2 hp_3
    refine r_ret (rr := none) (I := .return_) (pc0 := 27) (len := 1) rfl rfl ?_
    exact hQ hX_4 (show ((cl_fail v 1) 2 7) ≤ ((cl_fail v 1) 2 4) from (by first | assumption | omega | (unfold R32 at *; omega) | (unfold R64 at *; omega) | (simp only [R32, R64] at *; omega)))
  · show WV _ _ _ 7 _ _ _ _ _
    rw [if_pos h_4] at hQ
    refine r_ex 2 (pc' := 9) (lo' := [some (.inr (.inr (some 2))), some (.inr (.inr (some 100035)))]) (st' := [.inr (.inr (some 100035)), .inr (.inr (some 2))]) rfl ?_
    have hp_6 : (v 2 7) ≤ (v 2 4) := (show (v 2 7) ≤ (v 2 4) from (by first | assumption | omega | (unfold R32 at *; omega) | (unfold R64 at *; omega) | (simp only [R32, R64] at *; omega)))
    refine r_call (m := 27) (args := [.inr (.inr (some 2)), .inr (.inr (some 100035))]) (n' := 26) (pc' := 12) (lo' := [some (.inr (.inr (some 2))), some (.inr (.inr (some 100035)))]) (st' := []) (I := .invokevirtual 27) (pc0 := 9) (len := 3) rfl rfl rfl (e_cl_isAt17 hX hp_6) ?_
    show WV _ _ _ 12 _ [.inl (cl_isAt17 v)] _ _ _
    have hb_7 := n_cl_isAt17 (v := v) hX hp_6
    refine n_if_eq (pc0 := 12) (len := 3) (t := 22) rfl (by first | assumption | omega | (unfold R32 at *; omega) | (unfold R64 at *; omega) | (simp only [R32, R64] at *; omega)) (fun h_12 => ?_) (fun h_12 => ?_)
    · show WV _ _ _ 22 _ _ _ _ _
      rw [if_pos h_12] at hQ
      refine r_ex 2 (pc' := 24) (lo' := [some (.inr (.inr (some 2))), some (.inr (.inr (some 100035)))]) (st' := [.inl 1, .inr (.inr (some 2))]) rfl ?_
      have hp_8 : 1 ≤ (1 : Int) ∧ (1 : Int) ≤ 3 := (by first | assumption | omega | (unfold R32 at *; omega) | (unfold R64 at *; omega) | (simp only [R32, R64] at *; omega))
      have hp_9 : (v 2 7) ≤ (v 2 4) := (show (v 2 7) ≤ (v 2 4) from (by first | assumption | omega | (unfold R32 at *; omega) | (unfold R64 at *; omega) | (simp only [R32, R64] at *; omega)))
      refine r_call (m := 39) (args := [.inr (.inr (some 2)), .inl 1]) (n' := 26) (pc' := 27) (lo' := [some (.inr (.inr (some 2))), some (.inr (.inr (some 100035)))]) (st' := []) (I := .invokevirtual 39) (pc0 := 24) (len := 3) rfl rfl rfl (e_cl_fail hX hp_8 hp_9) ?_
      show WV _ _ _ 27 _ [] _ (cl_fail v 1) _
      have hX_10 : XI (cl_fail v 1) := i_cl_fail (v := v) (k := 1) hX hp_8 hp_9
      have hb_11 : ((cl_fail v 1) 2 7) ≤ ((cl_fail v 1) 2 4) := n_cl_fail (v := v) (k := 1) hX hp_8 hp_9
      refine r_ret (rr := none) (I := .return_) (pc0 := 27) (len := 1) rfl rfl ?_
      exact hQ hX_10 (show ((cl_fail v 1) 2 7) ≤ ((cl_fail v 1) 2 4) from (by first | assumption | omega | (unfold R32 at *; omega) | (unfold R64 at *; omega) | (simp only [R32, R64] at *; omega)))
    · show WV _ _ _ 15 _ _ _ _ _
      rw [if_neg h_12] at hQ
      refine r_ex 1 (pc' := 16) (lo' := [some (.inr (.inr (some 2))), some (.inr (.inr (some 100035)))]) (st' := [.inr (.inr (some 2))]) rfl ?_
      have hp_12 : (v 2 7) ≤ (v 2 4) := (show (v 2 7) ≤ (v 2 4) from (by first | assumption | omega | (unfold R32 at *; omega) | (unfold R64 at *; omega) | (simp only [R32, R64] at *; omega)))
      refine r_call (m := 21) (args := [.inr (.inr (some 2))]) (n' := 26) (pc' := 19) (lo' := [some (.inr (.inr (some 2))), some (.inr (.inr (some 100035)))]) (st' := []) (I := .invokevirtual 21) (pc0 := 16) (len := 3) rfl rfl rfl (e_cl_advance hX hp_12) ?_
      show WV _ _ _ 19 _ [] _ (cl_advance v) _
      have hX_13 : XI (cl_advance v) := i_cl_advance (v := v) hX hp_12
      have hb_14 : ((cl_advance v) 2 7) ≤ ((cl_advance v) 2 4) := n_cl_advance (v := v) hX hp_12
      refine r_ex 1 (pc' := 27) (lo' := [some (.inr (.inr (some 2))), some (.inr (.inr (some 100035)))]) (st' := []) rfl ?_
      refine r_ret (rr := none) (I := .return_) (pc0 := 27) (len := 1) rfl rfl ?_
      exact hQ hX_13 (show ((cl_advance v) 2 7) ≤ ((cl_advance v) 2 4) from (by first | assumption | omega | (unfold R32 at *; omega) | (unfold R64 at *; omega) | (simp only [R32, R64] at *; omega)))

theorem e_cl_word17 {X : PX} {d : Nat} {v : VS}  (hX : XI v) (hp_a : (v 2 7) ≤ (v 2 4)) : EvV X (d + 1 + 1 + 1 + 1 + 1) 26 [.inr (.inr (some 2)), .inr (.inr (some 100035))] 1 v none 1 (cl_word17 v) := EvV.of (w_cl_word17 hX hp_a (fun _ _ => ⟨rfl, rfl, rfl⟩))

theorem i_cl_word17 {v : VS}  (hX : XI v) (hp_a : (v 2 7) ≤ (v 2 4)) : XI (cl_word17 v) := by
  have q : WV (0, fun _ => 0, none) (0 + 1 + 1 + 1 + 1 + 1) 26 0 [some (.inr (.inr (some 2))), some (.inr (.inr (some 100035)))] [] 1 v (fun _ _ _ => XI (cl_word17 v)) := w_cl_word17 (X := (0, fun _ => 0, none)) (d := 0) hX hp_a (fun q _ => q)
  obtain ⟨_, _, _, _, _, _, _, q⟩ := q
  exact q

theorem n_cl_word17 {v : VS}  (hX : XI v) (hp_a : (v 2 7) ≤ (v 2 4)) : ((cl_word17 v) 2 7) ≤ ((cl_word17 v) 2 4) := by
  have q : WV (0, fun _ => 0, none) (0 + 1 + 1 + 1 + 1 + 1) 26 0 [some (.inr (.inr (some 2))), some (.inr (.inr (some 100035)))] [] 1 v (fun _ _ _ => ((cl_word17 v) 2 7) ≤ ((cl_word17 v) 2 4)) := w_cl_word17 (X := (0, fun _ => 0, none)) (d := 0) hX hp_a (fun _ q => q)
  obtain ⟨_, _, _, _, _, _, _, q⟩ := q
  exact q

theorem o_cl_word17 {rk : Nat} {v : VS}  (hk : (rk < 2 ∨ 2 < rk)) : (cl_word17 v ) rk = v rk := by
  unfold cl_word17
  by_cases hc_ : (v 2 1) = 0
  · rw [if_pos hc_]
    by_cases hc_ : (cl_isAt17 v) = 0
    · rw [if_pos hc_]
      all_goals (show (cl_fail v 1) rk = _)
      all_goals (rw [o_cl_fail (by omega)])
    · rw [if_neg hc_]
      all_goals (show (cl_advance v) rk = _)
      all_goals (rw [o_cl_advance (by omega)])
  · rw [if_neg hc_]
    all_goals (show (cl_fail v 1) rk = _)
    all_goals (rw [o_cl_fail (by omega)])

def cl_isAt18 (v : VS)  : Int :=
  (if (v 2 5) = 1 then (if 4 = ((v 2 7) - (v 2 6)) then (if (v 1 ((((v 2 6) + 0)).toNat)) = 102 then (if (v 1 ((((v 2 6) + 1)).toNat)) = 114 then (if (v 1 ((((v 2 6) + 2)).toNat)) = 111 then (if (v 1 ((((v 2 6) + 3)).toNat)) = 109 then 1 else 0) else 0) else 0) else 0) else 0) else 0)
theorem w_cl_isAt18 {X : PX} {d : Nat} {v : VS}  (hX : XI v) (hp_a : (v 2 7) ≤ (v 2 4)) {Q : Option PV → Nat → VS → Prop} (hQ : (0 ≤ (cl_isAt18 v) ∧ (cl_isAt18 v) ≤ 1) → Q (some (.inl (cl_isAt18 v))) 1 v) : WV X (d + 1 + 1 + 1 + 1) 27 0 [some (.inr (.inr (some 2))), some (.inr (.inr (some 100037))), none] [] 1 v Q := by
  rw [cl_isAt18] at hQ
  have hz6 : 0 ≤ v 2 6 ∧ v 2 6 ≤ 2000 := hX 2 6
  have hz7 : 0 ≤ v 2 7 ∧ v 2 7 ≤ 2001 := hX 2 7
  have hz4 : 0 ≤ v 2 4 ∧ v 2 4 ≤ 2000 := hX 2 4
  refine r_ex 3 (pc' := 5) (lo' := [some (.inr (.inr (some 2))), some (.inr (.inr (some 100037))), none]) (st' := [.inl 1, .inl (v 2 5)]) rfl ?_
  have hb_1 : 0 ≤ (v 2 5) ∧ (v 2 5) ≤ 4 := hX 2 5
  refine n_ic_ne (pc0 := 5) (len := 3) (t := 24) rfl (by first | assumption | omega | (unfold R32 at *; omega) | (unfold R64 at *; omega) | (simp only [R32, R64] at *; omega)) (by first | assumption | omega | (unfold R32 at *; omega) | (unfold R64 at *; omega) | (simp only [R32, R64] at *; omega)) (fun h_5 => ?_) (fun h_5 => ?_)
  · show WV _ _ _ 24 _ _ _ _ _
    rw [if_neg h_5] at hQ
    refine r_ex 1 (pc' := 25) (lo' := [some (.inr (.inr (some 2))), some (.inr (.inr (some 100037))), none]) (st' := [.inl 0]) rfl ?_
    refine r_ret (rr := some (.inl 0)) (I := .ireturn) (pc0 := 25) (len := 1) rfl rfl ?_
    exact hQ (by first | assumption | omega | (unfold R32 at *; omega) | (unfold R64 at *; omega) | (simp only [R32, R64] at *; omega))
  · show WV _ _ _ 8 _ _ _ _ _
    rw [if_pos h_5] at hQ
    refine r_ex 1 (pc' := 9) (lo' := [some (.inr (.inr (some 2))), some (.inr (.inr (some 100037))), none]) (st' := [.inr (.inr (some 100037))]) rfl ?_
    refine r_call (rr := some (.inl 4)) (b' := 1) (v' := v) (m := 28) (args := [.inr (.inr (some 100037))]) (n' := 27) (pc' := 12) (lo' := [some (.inr (.inr (some 2))), some (.inr (.inr (some 100037))), none]) (st' := []) (I := .invokevirtual 28) (pc0 := 9) (len := 3) rfl rfl rfl ⟨60, rfl⟩ ?_
    show WV _ _ _ 12 _ [.inl 4] _ _ _
    refine r_ex 5 (pc' := 21) (lo' := [some (.inr (.inr (some 2))), some (.inr (.inr (some 100037))), none]) (st' := [.inl ((v 2 7) - (v 2 6)), .inl 4]) rfl ?_
    have hb_2 : 0 ≤ (v 2 7) ∧ (v 2 7) ≤ 2001 := hX 2 7
    have hb_3 : 0 ≤ (v 2 6) ∧ (v 2 6) ≤ 2000 := hX 2 6
    refine n_ic_eq (pc0 := 21) (len := 3) (t := 26) rfl (by first | assumption | omega | (unfold R32 at *; omega) | (unfold R64 at *; omega) | (simp only [R32, R64] at *; omega)) (by first | assumption | omega | (unfold R32 at *; omega) | (unfold R64 at *; omega) | (simp only [R32, R64] at *; omega)) (fun h_21 => ?_) (fun h_21 => ?_)
    · show WV _ _ _ 26 _ _ _ _ _
      rw [if_pos h_21] at hQ
      refine r_ex 4 (pc' := 30) (lo' := [some (.inr (.inr (some 2))), some (.inr (.inr (some 100037))), some (.inl 0)]) (st' := [.inr (.inr (some 100037)), .inl 0]) rfl ?_
      refine r_call (rr := some (.inl 4)) (b' := 1) (v' := v) (m := 28) (args := [.inr (.inr (some 100037))]) (n' := 27) (pc' := 33) (lo' := [some (.inr (.inr (some 2))), some (.inr (.inr (some 100037))), some (.inl 0)]) (st' := [.inl 0]) (I := .invokevirtual 28) (pc0 := 30) (len := 3) rfl rfl rfl ⟨60, rfl⟩ ?_
      show WV _ _ _ 33 _ [.inl 4, .inl 0] _ _ _
      refine r_ex 7 (pc' := 46) (lo' := [some (.inr (.inr (some 2))), some (.inr (.inr (some 100037))), some (.inl 0)]) (st' := [.inl ((v 2 6) + 0), .inr (.inr (some 1))]) rfl ?_
      refine r_bald2 (x := (v 1 ((((v 2 6) + 0)).toNat))) (pc' := 47) (pc0 := 46) (len := 1) rfl (s_1 _) (Or.inl rfl) (by first | assumption | omega | (unfold R32 at *; omega) | (unfold R64 at *; omega) | (simp only [R32, R64] at *; omega)) (by decide) rfl rfl ?_
      have hb_4 : -128 ≤ (v 1 ((((v 2 6) + 0)).toNat)) ∧ (v 1 ((((v 2 6) + 0)).toNat)) ≤ 127 := hX 1 ((((v 2 6) + 0)).toNat)
      refine r_ex 2 (pc' := 49) (lo' := [some (.inr (.inr (some 2))), some (.inr (.inr (some 100037))), some (.inl 0)]) (st' := [.inl 0, .inr (.inr (some 100037)), .inl (v 1 ((((v 2 6) + 0)).toNat))]) rfl ?_
      refine r_call (rr := some (.inl 102)) (b' := 1) (v' := v) (m := 30) (args := [.inr (.inr (some 100037)), .inl 0]) (n' := 27) (pc' := 52) (lo' := [some (.inr (.inr (some 2))), some (.inr (.inr (some 100037))), some (.inl 0)]) (st' := [.inl (v 1 ((((v 2 6) + 0)).toNat))]) (I := .invokevirtual 30) (pc0 := 49) (len := 3) rfl rfl rfl ⟨60, rfl⟩ ?_
      show WV _ _ _ 52 _ [.inl 102, .inl (v 1 ((((v 2 6) + 0)).toNat))] _ _ _
      refine n_ic_eq (pc0 := 52) (len := 3) (t := 57) rfl (by first | assumption | omega | (unfold R32 at *; omega) | (unfold R64 at *; omega) | (simp only [R32, R64] at *; omega)) (by first | assumption | omega | (unfold R32 at *; omega) | (unfold R64 at *; omega) | (simp only [R32, R64] at *; omega)) (fun h_52 => ?_) (fun h_52 => ?_)
      · show WV _ _ _ 57 _ _ _ _ _
        rw [if_pos h_52] at hQ
        refine r_ex 4 (pc' := 30) (lo' := [some (.inr (.inr (some 2))), some (.inr (.inr (some 100037))), some (.inl 1)]) (st' := [.inr (.inr (some 100037)), .inl 1]) rfl ?_
        refine r_call (rr := some (.inl 4)) (b' := 1) (v' := v) (m := 28) (args := [.inr (.inr (some 100037))]) (n' := 27) (pc' := 33) (lo' := [some (.inr (.inr (some 2))), some (.inr (.inr (some 100037))), some (.inl 1)]) (st' := [.inl 1]) (I := .invokevirtual 28) (pc0 := 30) (len := 3) rfl rfl rfl ⟨60, rfl⟩ ?_
        show WV _ _ _ 33 _ [.inl 4, .inl 1] _ _ _
        refine r_ex 7 (pc' := 46) (lo' := [some (.inr (.inr (some 2))), some (.inr (.inr (some 100037))), some (.inl 1)]) (st' := [.inl ((v 2 6) + 1), .inr (.inr (some 1))]) rfl ?_
        refine r_bald2 (x := (v 1 ((((v 2 6) + 1)).toNat))) (pc' := 47) (pc0 := 46) (len := 1) rfl (s_1 _) (Or.inl rfl) (by first | assumption | omega | (unfold R32 at *; omega) | (unfold R64 at *; omega) | (simp only [R32, R64] at *; omega)) (by decide) rfl rfl ?_
        have hb_5 : -128 ≤ (v 1 ((((v 2 6) + 1)).toNat)) ∧ (v 1 ((((v 2 6) + 1)).toNat)) ≤ 127 := hX 1 ((((v 2 6) + 1)).toNat)
        refine r_ex 2 (pc' := 49) (lo' := [some (.inr (.inr (some 2))), some (.inr (.inr (some 100037))), some (.inl 1)]) (st' := [.inl 1, .inr (.inr (some 100037)), .inl (v 1 ((((v 2 6) + 1)).toNat))]) rfl ?_
        refine r_call (rr := some (.inl 114)) (b' := 1) (v' := v) (m := 30) (args := [.inr (.inr (some 100037)), .inl 1]) (n' := 27) (pc' := 52) (lo' := [some (.inr (.inr (some 2))), some (.inr (.inr (some 100037))), some (.inl 1)]) (st' := [.inl (v 1 ((((v 2 6) + 1)).toNat))]) (I := .invokevirtual 30) (pc0 := 49) (len := 3) rfl rfl rfl ⟨60, rfl⟩ ?_
        show WV _ _ _ 52 _ [.inl 114, .inl (v 1 ((((v 2 6) + 1)).toNat))] _ _ _
        refine n_ic_eq (pc0 := 52) (len := 3) (t := 57) rfl (by first | assumption | omega | (unfold R32 at *; omega) | (unfold R64 at *; omega) | (simp only [R32, R64] at *; omega)) (by first | assumption | omega | (unfold R32 at *; omega) | (unfold R64 at *; omega) | (simp only [R32, R64] at *; omega)) (fun h_52 => ?_) (fun h_52 => ?_)
        · show WV _ _ _ 57 _ _ _ _ _
          rw [if_pos h_52] at hQ
          refine r_ex 4 (pc' := 30) (lo' := [some (.inr (.inr (some 2))), some (.inr (.inr (some 100037))), some (.inl 2)]) (st' := [.inr (.inr (some 100037)), .inl 2]) rfl ?_
          refine r_call (rr := some (.inl 4)) (b' := 1) (v' := v) (m := 28) (args := [.inr (.inr (some 100037))]) (n' := 27) (pc' := 33) (lo' := [some (.inr (.inr (some 2))), some (.inr (.inr (some 100037))), some (.inl 2)]) (st' := [.inl 2]) (I := .invokevirtual 28) (pc0 := 30) (len := 3) rfl rfl rfl ⟨60, rfl⟩ ?_
          show WV _ _ _ 33 _ [.inl 4, .inl 2] _ _ _
          refine r_ex 7 (pc' := 46) (lo' := [some (.inr (.inr (some 2))), some (.inr (.inr (some 100037))), some (.inl 2)]) (st' := [.inl ((v 2 6) + 2), .inr (.inr (some 1))]) rfl ?_
          refine r_bald2 (x := (v 1 ((((v 2 6) + 2)).toNat))) (pc' := 47) (pc0 := 46) (len := 1) rfl (s_1 _) (Or.inl rfl) (by first | assumption | omega | (unfold R32 at *; omega) | (unfold R64 at *; omega) | (simp only [R32, R64] at *; omega)) (by decide) rfl rfl ?_
          have hb_6 : -128 ≤ (v 1 ((((v 2 6) + 2)).toNat)) ∧ (v 1 ((((v 2 6) + 2)).toNat)) ≤ 127 := hX 1 ((((v 2 6) + 2)).toNat)
          refine r_ex 2 (pc' := 49) (lo' := [some (.inr (.inr (some 2))), some (.inr (.inr (some 100037))), some (.inl 2)]) (st' := [.inl 2, .inr (.inr (some 100037)), .inl (v 1 ((((v 2 6) + 2)).toNat))]) rfl ?_
          refine r_call (rr := some (.inl 111)) (b' := 1) (v' := v) (m := 30) (args := [.inr (.inr (some 100037)), .inl 2]) (n' := 27) (pc' := 52) (lo' := [some (.inr (.inr (some 2))), some (.inr (.inr (some 100037))), some (.inl 2)]) (st' := [.inl (v 1 ((((v 2 6) + 2)).toNat))]) (I := .invokevirtual 30) (pc0 := 49) (len := 3) rfl rfl rfl ⟨60, rfl⟩ ?_
          show WV _ _ _ 52 _ [.inl 111, .inl (v 1 ((((v 2 6) + 2)).toNat))] _ _ _
          refine n_ic_eq (pc0 := 52) (len := 3) (t := 57) rfl (by first | assumption | omega | (unfold R32 at *; omega) | (unfold R64 at *; omega) | (simp only [R32, R64] at *; omega)) (by first | assumption | omega | (unfold R32 at *; omega) | (unfold R64 at *; omega) | (simp only [R32, R64] at *; omega)) (fun h_52 => ?_) (fun h_52 => ?_)
          · show WV _ _ _ 57 _ _ _ _ _
            rw [if_pos h_52] at hQ
            refine r_ex 4 (pc' := 30) (lo' := [some (.inr (.inr (some 2))), some (.inr (.inr (some 100037))), some (.inl 3)]) (st' := [.inr (.inr (some 100037)), .inl 3]) rfl ?_
            refine r_call (rr := some (.inl 4)) (b' := 1) (v' := v) (m := 28) (args := [.inr (.inr (some 100037))]) (n' := 27) (pc' := 33) (lo' := [some (.inr (.inr (some 2))), some (.inr (.inr (some 100037))), some (.inl 3)]) (st' := [.inl 3]) (I := .invokevirtual 28) (pc0 := 30) (len := 3) rfl rfl rfl ⟨60, rfl⟩ ?_
            show WV _ _ _ 33 _ [.inl 4, .inl 3] _ _ _
            refine r_ex 7 (pc' := 46) (lo' := [some (.inr (.inr (some 2))), some (.inr (.inr (some 100037))), some (.inl 3)]) (st' := [.inl ((v 2 6) + 3), .inr (.inr (some 1))]) rfl ?_
            refine r_bald2 (x := (v 1 ((((v 2 6) + 3)).toNat))) (pc' := 47) (pc0 := 46) (len := 1) rfl (s_1 _) (Or.inl rfl) (by first | assumption | omega | (unfold R32 at *; omega) | (unfold R64 at *; omega) | (simp only [R32, R64] at *; omega)) (by decide) rfl rfl ?_
            have hb_7 : -128 ≤ (v 1 ((((v 2 6) + 3)).toNat)) ∧ (v 1 ((((v 2 6) + 3)).toNat)) ≤ 127 := hX 1 ((((v 2 6) + 3)).toNat)
            refine r_ex 2 (pc' := 49) (lo' := [some (.inr (.inr (some 2))), some (.inr (.inr (some 100037))), some (.inl 3)]) (st' := [.inl 3, .inr (.inr (some 100037)), .inl (v 1 ((((v 2 6) + 3)).toNat))]) rfl ?_
            refine r_call (rr := some (.inl 109)) (b' := 1) (v' := v) (m := 30) (args := [.inr (.inr (some 100037)), .inl 3]) (n' := 27) (pc' := 52) (lo' := [some (.inr (.inr (some 2))), some (.inr (.inr (some 100037))), some (.inl 3)]) (st' := [.inl (v 1 ((((v 2 6) + 3)).toNat))]) (I := .invokevirtual 30) (pc0 := 49) (len := 3) rfl rfl rfl ⟨60, rfl⟩ ?_
            show WV _ _ _ 52 _ [.inl 109, .inl (v 1 ((((v 2 6) + 3)).toNat))] _ _ _
            refine n_ic_eq (pc0 := 52) (len := 3) (t := 57) rfl (by first | assumption | omega | (unfold R32 at *; omega) | (unfold R64 at *; omega) | (simp only [R32, R64] at *; omega)) (by first | assumption | omega | (unfold R32 at *; omega) | (unfold R64 at *; omega) | (simp only [R32, R64] at *; omega)) (fun h_52 => ?_) (fun h_52 => ?_)
            · show WV _ _ _ 57 _ _ _ _ _
              rw [if_pos h_52] at hQ
              refine r_ex 4 (pc' := 30) (lo' := [some (.inr (.inr (some 2))), some (.inr (.inr (some 100037))), some (.inl 4)]) (st' := [.inr (.inr (some 100037)), .inl 4]) rfl ?_
              refine r_call (rr := some (.inl 4)) (b' := 1) (v' := v) (m := 28) (args := [.inr (.inr (some 100037))]) (n' := 27) (pc' := 33) (lo' := [some (.inr (.inr (some 2))), some (.inr (.inr (some 100037))), some (.inl 4)]) (st' := [.inl 4]) (I := .invokevirtual 28) (pc0 := 30) (len := 3) rfl rfl rfl ⟨60, rfl⟩ ?_
              show WV _ _ _ 33 _ [.inl 4, .inl 4] _ _ _
              refine r_ex 2 (pc' := 64) (lo' := [some (.inr (.inr (some 2))), some (.inr (.inr (some 100037))), some (.inl 4)]) (st' := [.inl 1]) rfl ?_
              refine r_ret (rr := some (.inl 1)) (I := .ireturn) (pc0 := 64) (len := 1) rfl rfl ?_
              exact hQ (by first | assumption | omega | (unfold R32 at *; omega) | (unfold R64 at *; omega) | (simp only [R32, R64] at *; omega))
            · show WV _ _ _ 55 _ _ _ _ _
              rw [if_neg h_52] at hQ
              refine r_ex 1 (pc' := 56) (lo' := [some (.inr (.inr (some 2))), some (.inr (.inr (some 100037))), some (.inl 3)]) (st' := [.inl 0]) rfl ?_
              refine r_ret (rr := some (.inl 0)) (I := .ireturn) (pc0 := 56) (len := 1) rfl rfl ?_
              exact hQ (by first | assumption | omega | (unfold R32 at *; omega) | (unfold R64 at *; omega) | (simp only [R32, R64] at *; omega))
          · show WV _ _ _ 55 _ _ _ _ _
            rw [if_neg h_52] at hQ
            refine r_ex 1 (pc' := 56) (lo' := [some (.inr (.inr (some 2))), some (.inr (.inr (some 100037))), some (.inl 2)]) (st' := [.inl 0]) rfl ?_
            refine r_ret (rr := some (.inl 0)) (I := .ireturn) (pc0 := 56) (len := 1) rfl rfl ?_
            exact hQ (by first | assumption | omega | (unfold R32 at *; omega) | (unfold R64 at *; omega) | (simp only [R32, R64] at *; omega))
        · show WV _ _ _ 55 _ _ _ _ _
          rw [if_neg h_52] at hQ
          refine r_ex 1 (pc' := 56) (lo' := [some (.inr (.inr (some 2))), some (.inr (.inr (some 100037))), some (.inl 1)]) (st' := [.inl 0]) rfl ?_
          refine r_ret (rr := some (.inl 0)) (I := .ireturn) (pc0 := 56) (len := 1) rfl rfl ?_
          exact hQ (by first | assumption | omega | (unfold R32 at *; omega) | (unfold R64 at *; omega) | (simp only [R32, R64] at *; omega))
      · show WV _ _ _ 55 _ _ _ _ _
        rw [if_neg h_52] at hQ
        refine r_ex 1 (pc' := 56) (lo' := [some (.inr (.inr (some 2))), some (.inr (.inr (some 100037))), some (.inl 0)]) (st' := [.inl 0]) rfl ?_
        refine r_ret (rr := some (.inl 0)) (I := .ireturn) (pc0 := 56) (len := 1) rfl rfl ?_
        exact hQ (by first | assumption | omega | (unfold R32 at *; omega) | (unfold R64 at *; omega) | (simp only [R32, R64] at *; omega))
    · show WV _ _ _ 24 _ _ _ _ _
      rw [if_neg h_21] at hQ
      refine r_ex 1 (pc' := 25) (lo' := [some (.inr (.inr (some 2))), some (.inr (.inr (some 100037))), none]) (st' := [.inl 0]) rfl ?_
      refine r_ret (rr := some (.inl 0)) (I := .ireturn) (pc0 := 25) (len := 1) rfl rfl ?_
      exact hQ (by first | assumption | omega | (unfold R32 at *; omega) | (unfold R64 at *; omega) | (simp only [R32, R64] at *; omega))

theorem e_cl_isAt18 {X : PX} {d : Nat} {v : VS}  (hX : XI v) (hp_a : (v 2 7) ≤ (v 2 4)) : EvV X (d + 1 + 1 + 1 + 1) 27 [.inr (.inr (some 2)), .inr (.inr (some 100037))] 1 v (some (.inl (cl_isAt18 v))) 1 v := EvV.of (w_cl_isAt18 hX hp_a (fun _ => ⟨rfl, rfl, rfl⟩))

theorem n_cl_isAt18 {v : VS}  (hX : XI v) (hp_a : (v 2 7) ≤ (v 2 4)) : 0 ≤ (cl_isAt18 v) ∧ (cl_isAt18 v) ≤ 1 := by
  have q : WV (0, fun _ => 0, none) (0 + 1 + 1 + 1 + 1) 27 0 [some (.inr (.inr (some 2))), some (.inr (.inr (some 100037))), none] [] 1 v (fun _ _ _ => 0 ≤ (cl_isAt18 v) ∧ (cl_isAt18 v) ≤ 1) := w_cl_isAt18 (X := (0, fun _ => 0, none)) (d := 0) hX hp_a (fun q => q)
  obtain ⟨_, _, _, _, _, _, _, q⟩ := q
  exact q

def cl_word18 (v : VS)  : VS :=
  (if (v 2 1) = 0 then (if (cl_isAt18 v) = 0 then (cl_fail v 1) else (cl_advance v)) else (cl_fail v 1))
theorem w_cl_word18 {X : PX} {d : Nat} {v : VS}  (hX : XI v) (hp_a : (v 2 7) ≤ (v 2 4)) {Q : Option PV → Nat → VS → Prop} (hQ : XI (cl_word18 v) → (((cl_word18 v) 2 7) ≤ ((cl_word18 v) 2 4)) → Q none 1 (cl_word18 v)) : WV X (d + 1 + 1 + 1 + 1 + 1) 26 0 [some (.inr (.inr (some 2))), some (.inr (.inr (some 100037)))] [] 1 v Q := by
  rw [cl_word18] at hQ
  refine r_ex 2 (pc' := 4) (lo' := [some (.inr (.inr (some 2))), some (.inr (.inr (some 100037)))]) (st' := [.inl (v 2 1)]) rfl ?_
  have hb_1 : 0 ≤ (v 2 1) ∧ (v 2 1) ≤ 3 := hX 2 1
  refine n_if_ne (pc0 := 4) (len := 3) (t := 22) rfl (by first | assumption | omega | (unfold R32 at *; omega) | (unfold R64 at *; omega) | (simp only [R32, R64] at *; omega)) (fun h_4 => ?_) (fun h_4 => ?_)
  · show WV _ _ _ 22 _ _ _ _ _
    rw [if_neg h_4] at hQ
    refine r_ex 2 (pc' := 24) (lo' := [some (.inr (.inr (some 2))), some (.inr (.inr (some 100037)))]) (st' := [.inl 1, .inr (.inr (some 2))]) rfl ?_
    have hp_2 : 1 ≤ (1 : Int) ∧ (1 : Int) ≤ 3 := (by first | assumption | omega | (unfold R32 at *; omega) | (unfold R64 at *; omega) | (simp only [R32, R64] at *; omega))
    have hp_3 : (v 2 7) ≤ (v 2 4) := (show (v 2 7) ≤ (v 2 4) from (by first | assumption | omega | (unfold R32 at *; omega) | (unfold R64 at *; omega) | (simp only [R32, R64] at *; omega)))
    refine r_call (m := 39) (args := [.inr (.inr (some 2)), .inl 1]) (n' := 26) (pc' := 27) (lo' := [some (.inr (.inr (some 2))), some (.inr (.inr (some 100037)))]) (st' := []) (I := .invokevirtual 39) (pc0 := 24) (len := 3) rfl rfl rfl (e_cl_fail hX hp_2 hp_3) ?_
    show WV _ _ _ 27 _ [] _ (cl_fail v 1) _
    have hX_4 : XI (cl_fail v 1) := i_cl_fail (v := v) (k := 1) hX hp_2 hp_3
    have hb_5 : ((cl_fail v 1) 2 7) ≤ ((cl_fail v 1) 2 4) := n_cl_fail (v := v) (k := 1) hX hp_2 hp_3
    refine r_ret (rr := none) (I := .return_) (pc0 := 27) (len := 1) rfl rfl ?_
    exact hQ hX_4 (show ((cl_fail v 1) 2 7) ≤ ((cl_fail v 1) 2 4) from (by first | assumption | omega | (unfold R32 at *; omega) | (unfold R64 at *; omega) | (simp only [R32, R64] at *; omega)))
  · show WV _ _ _ 7 _ _ _ _ _
    rw [if_pos h_4] at hQ
    refine r_ex 2 (pc' := 9) (lo' := [some (.inr (.inr (some 2))), some (.inr (.inr (some 100037)))]) (st' := [.inr (.inr (some 100037)), .inr (.inr (some 2))]) rfl ?_
    have hp_6 : (v 2 7) ≤ (v 2 4) := (show (v 2 7) ≤ (v 2 4) from (by first | assumption | omega | (unfold R32 at *; omega) | (unfold R64 at *; omega) | (simp only [R32, R64] at *; omega)))
    refine r_call (m := 27) (args := [.inr (.inr (some 2)), .inr (.inr (some 100037))]) (n' := 26) (pc' := 12) (lo' := [some (.inr (.inr (some 2))), some (.inr (.inr (some 100037)))]) (st' := []) (I := .invokevirtual 27) (pc0 := 9) (len := 3) rfl rfl rfl (e_cl_isAt18 hX hp_6) ?_
    show WV _ _ _ 12 _ [.inl (cl_isAt18 v)] _ _ _
    have hb_7 := n_cl_isAt18 (v := v) hX hp_6
    refine n_if_eq (pc0 := 12) (len := 3) (t := 22) rfl (by first | assumption | omega | (unfold R32 at *; omega) | (unfold R64 at *; omega) | (simp only [R32, R64] at *; omega)) (fun h_12 => ?_) (fun h_12 => ?_)
    · show WV _ _ _ 22 _ _ _ _ _
      rw [if_pos h_12] at hQ
      refine r_ex 2 (pc' := 24) (lo' := [some (.inr (.inr (some 2))), some (.inr (.inr (some 100037)))]) (st' := [.inl 1, .inr (.inr (some 2))]) rfl ?_
      have hp_8 : 1 ≤ (1 : Int) ∧ (1 : Int) ≤ 3 := (by first | assumption | omega | (unfold R32 at *; omega) | (unfold R64 at *; omega) | (simp only [R32, R64] at *; omega))
      have hp_9 : (v 2 7) ≤ (v 2 4) := (show (v 2 7) ≤ (v 2 4) from (by first | assumption | omega | (unfold R32 at *; omega) | (unfold R64 at *; omega) | (simp only [R32, R64] at *; omega)))
      refine r_call (m := 39) (args := [.inr (.inr (some 2)), .inl 1]) (n' := 26) (pc' := 27) (lo' := [some (.inr (.inr (some 2))), some (.inr (.inr (some 100037)))]) (st' := []) (I := .invokevirtual 39) (pc0 := 24) (len := 3) rfl rfl rfl (e_cl_fail hX hp_8 hp_9) ?_
      show WV _ _ _ 27 _ [] _ (cl_fail v 1) _
      have hX_10 : XI (cl_fail v 1) := i_cl_fail (v := v) (k := 1) hX hp_8 hp_9
      have hb_11 : ((cl_fail v 1) 2 7) ≤ ((cl_fail v 1) 2 4) := n_cl_fail (v := v) (k := 1) hX hp_8 hp_9
      refine r_ret (rr := none) (I := .return_) (pc0 := 27) (len := 1) rfl rfl ?_
      exact hQ hX_10 (show ((cl_fail v 1) 2 7) ≤ ((cl_fail v 1) 2 4) from (by first | assumption | omega | (unfold R32 at *; omega) | (unfold R64 at *; omega) | (simp only [R32, R64] at *; omega)))
    · show WV _ _ _ 15 _ _ _ _ _
      rw [if_neg h_12] at hQ
      refine r_ex 1 (pc' := 16) (lo' := [some (.inr (.inr (some 2))), some (.inr (.inr (some 100037)))]) (st' := [.inr (.inr (some 2))]) rfl ?_
      have hp_12 : (v 2 7) ≤ (v 2 4) := (show (v 2 7) ≤ (v 2 4) from (by first | assumption | omega | (unfold R32 at *; omega) | (unfold R64 at *; omega) | (simp only [R32, R64] at *; omega)))
      refine r_call (m := 21) (args := [.inr (.inr (some 2))]) (n' := 26) (pc' := 19) (lo' := [some (.inr (.inr (some 2))), some (.inr (.inr (some 100037)))]) (st' := []) (I := .invokevirtual 21) (pc0 := 16) (len := 3) rfl rfl rfl (e_cl_advance hX hp_12) ?_
      show WV _ _ _ 19 _ [] _ (cl_advance v) _
      have hX_13 : XI (cl_advance v) := i_cl_advance (v := v) hX hp_12
      have hb_14 : ((cl_advance v) 2 7) ≤ ((cl_advance v) 2 4) := n_cl_advance (v := v) hX hp_12
      refine r_ex 1 (pc' := 27) (lo' := [some (.inr (.inr (some 2))), some (.inr (.inr (some 100037)))]) (st' := []) rfl ?_
      refine r_ret (rr := none) (I := .return_) (pc0 := 27) (len := 1) rfl rfl ?_
      exact hQ hX_13 (show ((cl_advance v) 2 7) ≤ ((cl_advance v) 2 4) from (by first | assumption | omega | (unfold R32 at *; omega) | (unfold R64 at *; omega) | (simp only [R32, R64] at *; omega)))

theorem e_cl_word18 {X : PX} {d : Nat} {v : VS}  (hX : XI v) (hp_a : (v 2 7) ≤ (v 2 4)) : EvV X (d + 1 + 1 + 1 + 1 + 1) 26 [.inr (.inr (some 2)), .inr (.inr (some 100037))] 1 v none 1 (cl_word18 v) := EvV.of (w_cl_word18 hX hp_a (fun _ _ => ⟨rfl, rfl, rfl⟩))

theorem i_cl_word18 {v : VS}  (hX : XI v) (hp_a : (v 2 7) ≤ (v 2 4)) : XI (cl_word18 v) := by
  have q : WV (0, fun _ => 0, none) (0 + 1 + 1 + 1 + 1 + 1) 26 0 [some (.inr (.inr (some 2))), some (.inr (.inr (some 100037)))] [] 1 v (fun _ _ _ => XI (cl_word18 v)) := w_cl_word18 (X := (0, fun _ => 0, none)) (d := 0) hX hp_a (fun q _ => q)
  obtain ⟨_, _, _, _, _, _, _, q⟩ := q
  exact q

theorem n_cl_word18 {v : VS}  (hX : XI v) (hp_a : (v 2 7) ≤ (v 2 4)) : ((cl_word18 v) 2 7) ≤ ((cl_word18 v) 2 4) := by
  have q : WV (0, fun _ => 0, none) (0 + 1 + 1 + 1 + 1 + 1) 26 0 [some (.inr (.inr (some 2))), some (.inr (.inr (some 100037)))] [] 1 v (fun _ _ _ => ((cl_word18 v) 2 7) ≤ ((cl_word18 v) 2 4)) := w_cl_word18 (X := (0, fun _ => 0, none)) (d := 0) hX hp_a (fun _ q => q)
  obtain ⟨_, _, _, _, _, _, _, q⟩ := q
  exact q

theorem o_cl_word18 {rk : Nat} {v : VS}  (hk : (rk < 2 ∨ 2 < rk)) : (cl_word18 v ) rk = v rk := by
  unfold cl_word18
  by_cases hc_ : (v 2 1) = 0
  · rw [if_pos hc_]
    by_cases hc_ : (cl_isAt18 v) = 0
    · rw [if_pos hc_]
      all_goals (show (cl_fail v 1) rk = _)
      all_goals (rw [o_cl_fail (by omega)])
    · rw [if_neg hc_]
      all_goals (show (cl_advance v) rk = _)
      all_goals (rw [o_cl_advance (by omega)])
  · rw [if_neg hc_]
    all_goals (show (cl_fail v 1) rk = _)
    all_goals (rw [o_cl_fail (by omega)])

def cl_isAt19 (v : VS)  : Int :=
  (if (v 2 5) = 1 then (if 2 = ((v 2 7) - (v 2 6)) then (if (v 1 ((((v 2 6) + 0)).toNat)) = 116 then (if (v 1 ((((v 2 6) + 1)).toNat)) = 111 then 1 else 0) else 0) else 0) else 0)
theorem w_cl_isAt19 {X : PX} {d : Nat} {v : VS}  (hX : XI v) (hp_a : (v 2 7) ≤ (v 2 4)) {Q : Option PV → Nat → VS → Prop} (hQ : (0 ≤ (cl_isAt19 v) ∧ (cl_isAt19 v) ≤ 1) → Q (some (.inl (cl_isAt19 v))) 1 v) : WV X (d + 1 + 1 + 1 + 1) 27 0 [some (.inr (.inr (some 2))), some (.inr (.inr (some 100039))), none] [] 1 v Q := by
  rw [cl_isAt19] at hQ
  have hz6 : 0 ≤ v 2 6 ∧ v 2 6 ≤ 2000 := hX 2 6
  have hz7 : 0 ≤ v 2 7 ∧ v 2 7 ≤ 2001 := hX 2 7
  have hz4 : 0 ≤ v 2 4 ∧ v 2 4 ≤ 2000 := hX 2 4
  refine r_ex 3 (pc' := 5) (lo' := [some (.inr (.inr (some 2))), some (.inr (.inr (some 100039))), none]) (st' := [.inl 1, .inl (v 2 5)]) rfl ?_
  have hb_1 : 0 ≤ (v 2 5) ∧ (v 2 5) ≤ 4 := hX 2 5
  refine n_ic_ne (pc0 := 5) (len := 3) (t := 24) rfl (by first | assumption | omega | (unfold R32 at *; omega) | (unfold R64 at *; omega) | (simp only [R32, R64] at *; omega)) (by first | assumption | omega | (unfold R32 at *; omega) | (unfold R64 at *; omega) | (simp only [R32, R64] at *; omega)) (fun h_5 => ?_) (fun h_5 => ?_)
  · show WV _ _ _ 24 _ _ _ _ _
    rw [if_neg h_5] at hQ
    refine r_ex 1 (pc' := 25) (lo' := [some (.inr (.inr (some 2))), some (.inr (.inr (some 100039))), none]) (st' := [.inl 0]) rfl ?_
    refine r_ret (rr := some (.inl 0)) (I := .ireturn) (pc0 := 25) (len := 1) rfl rfl ?_
    exact hQ (by first | assumption | omega | (unfold R32 at *; omega) | (unfold R64 at *; omega) | (simp only [R32, R64] at *; omega))
  · show WV _ _ _ 8 _ _ _ _ _
    rw [if_pos h_5] at hQ
    refine r_ex 1 (pc' := 9) (lo' := [some (.inr (.inr (some 2))), some (.inr (.inr (some 100039))), none]) (st' := [.inr (.inr (some 100039))]) rfl ?_
    refine r_call (rr := some (.inl 2)) (b' := 1) (v' := v) (m := 28) (args := [.inr (.inr (some 100039))]) (n' := 27) (pc' := 12) (lo' := [some (.inr (.inr (some 2))), some (.inr (.inr (some 100039))), none]) (st' := []) (I := .invokevirtual 28) (pc0 := 9) (len := 3) rfl rfl rfl ⟨60, rfl⟩ ?_
    show WV _ _ _ 12 _ [.inl 2] _ _ _
    refine r_ex 5 (pc' := 21) (lo' := [some (.inr (.inr (some 2))), some (.inr (.inr (some 100039))), none]) (st' := [.inl ((v 2 7) - (v 2 6)), .inl 2]) rfl ?_
    have hb_2 : 0 ≤ (v 2 7) ∧ (v 2 7) ≤ 2001 := hX 2 7
    have hb_3 : 0 ≤ (v 2 6) ∧ (v 2 6) ≤ 2000 := hX 2 6
    refine n_ic_eq (pc0 := 21) (len := 3) (t := 26) rfl (by first | assumption | omega | (unfold R32 at *; omega) | (unfold R64 at *; omega) | (simp only [R32, R64] at *; omega)) (by first | assumption | omega | (unfold R32 at *; omega) | (unfold R64 at *; omega) | (simp only [R32, R64] at *; omega)) (fun h_21 => ?_) (fun h_21 => ?_)
    · show WV _ _ _ 26 _ _ _ _ _
      rw [if_pos h_21] at hQ
      refine r_ex 4 (pc' := 30) (lo' := [some (.inr (.inr (some 2))), some (.inr (.inr (some 100039))), some (.inl 0)]) (st' := [.inr (.inr (some 100039)), .inl 0]) rfl ?_
      refine r_call (rr := some (.inl 2)) (b' := 1) (v' := v) (m := 28) (args := [.inr (.inr (some 100039))]) (n' := 27) (pc' := 33) (lo' := [some (.inr (.inr (some 2))), some (.inr (.inr (some 100039))), some (.inl 0)]) (st' := [.inl 0]) (I := .invokevirtual 28) (pc0 := 30) (len := 3) rfl rfl rfl ⟨60, rfl⟩ ?_
      show WV _ _ _ 33 _ [.inl 2, .inl 0] _ _ _
      refine r_ex 7 (pc' := 46) (lo' := [some (.inr (.inr (some 2))), some (.inr (.inr (some 100039))), some (.inl 0)]) (st' := [.inl ((v 2 6) + 0), .inr (.inr (some 1))]) rfl ?_
      refine r_bald2 (x := (v 1 ((((v 2 6) + 0)).toNat))) (pc' := 47) (pc0 := 46) (len := 1) rfl (s_1 _) (Or.inl rfl) (by first | assumption | omega | (unfold R32 at *; omega) | (unfold R64 at *; omega) | (simp only [R32, R64] at *; omega)) (by decide) rfl rfl ?_
      have hb_4 : -128 ≤ (v 1 ((((v 2 6) + 0)).toNat)) ∧ (v 1 ((((v 2 6) + 0)).toNat)) ≤ 127 := hX 1 ((((v 2 6) + 0)).toNat)
      refine r_ex 2 (pc' := 49) (lo' := [some (.inr (.inr (some 2))), some (.inr (.inr (some 100039))), some (.inl 0)]) (st' := [.inl 0, .inr (.inr (some 100039)), .inl (v 1 ((((v 2 6) + 0)).toNat))]) rfl ?_
      refine r_call (rr := some (.inl 116)) (b' := 1) (v' := v) (m := 30) (args := [.inr (.inr (some 100039)), .inl 0]) (n' := 27) (pc' := 52) (lo' := [some (.inr (.inr (some 2))), some (.inr (.inr (some 100039))), some (.inl 0)]) (st' := [.inl (v 1 ((((v 2 6) + 0)).toNat))]) (I := .invokevirtual 30) (pc0 := 49) (len := 3) rfl rfl rfl ⟨60, rfl⟩ ?_
      show WV _ _ _ 52 _ [.inl 116, .inl (v 1 ((((v 2 6) + 0)).toNat))] _ _ _
      refine n_ic_eq (pc0 := 52) (len := 3) (t := 57) rfl (by first | assumption | omega | (unfold R32 at *; omega) | (unfold R64 at *; omega) | (simp only [R32, R64] at *; omega)) (by first | assumption | omega | (unfold R32 at *; omega) | (unfold R64 at *; omega) | (simp only [R32, R64] at *; omega)) (fun h_52 => ?_) (fun h_52 => ?_)
      · show WV _ _ _ 57 _ _ _ _ _
        rw [if_pos h_52] at hQ
        refine r_ex 4 (pc' := 30) (lo' := [some (.inr (.inr (some 2))), some (.inr (.inr (some 100039))), some (.inl 1)]) (st' := [.inr (.inr (some 100039)), .inl 1]) rfl ?_
        refine r_call (rr := some (.inl 2)) (b' := 1) (v' := v) (m := 28) (args := [.inr (.inr (some 100039))]) (n' := 27) (pc' := 33) (lo' := [some (.inr (.inr (some 2))), some (.inr (.inr (some 100039))), some (.inl 1)]) (st' := [.inl 1]) (I := .invokevirtual 28) (pc0 := 30) (len := 3) rfl rfl rfl ⟨60, rfl⟩ ?_
        show WV _ _ _ 33 _ [.inl 2, .inl 1] _ _ _
        refine r_ex 7 (pc' := 46) (lo' := [some (.inr (.inr (some 2))), some (.inr (.inr (some 100039))), some (.inl 1)]) (st' := [.inl ((v 2 6) + 1), .inr (.inr (some 1))]) rfl ?_
        refine r_bald2 (x := (v 1 ((((v 2 6) + 1)).toNat))) (pc' := 47) (pc0 := 46) (len := 1) rfl (s_1 _) (Or.inl rfl) (by first | assumption | omega | (unfold R32 at *; omega) | (unfold R64 at *; omega) | (simp only [R32, R64] at *; omega)) (by decide) rfl rfl ?_
        have hb_5 : -128 ≤ (v 1 ((((v 2 6) + 1)).toNat)) ∧ (v 1 ((((v 2 6) + 1)).toNat)) ≤ 127 := hX 1 ((((v 2 6) + 1)).toNat)
        refine r_ex 2 (pc' := 49) (lo' := [some (.inr (.inr (some 2))), some (.inr (.inr (some 100039))), some (.inl 1)]) (st' := [.inl 1, .inr (.inr (some 100039)), .inl (v 1 ((((v 2 6) + 1)).toNat))]) rfl ?_
        refine r_call (rr := some (.inl 111)) (b' := 1) (v' := v) (m := 30) (args := [.inr (.inr (some 100039)), .inl 1]) (n' := 27) (pc' := 52) (lo' := [some (.inr (.inr (some 2))), some (.inr (.inr (some 100039))), some (.inl 1)]) (st' := [.inl (v 1 ((((v 2 6) + 1)).toNat))]) (I := .invokevirtual 30) (pc0 := 49) (len := 3) rfl rfl rfl ⟨60, rfl⟩ ?_
        show WV _ _ _ 52 _ [.inl 111, .inl (v 1 ((((v 2 6) + 1)).toNat))] _ _ _
        refine n_ic_eq (pc0 := 52) (len := 3) (t := 57) rfl (by first | assumption | omega | (unfold R32 at *; omega) | (unfold R64 at *; omega) | (simp only [R32, R64] at *; omega)) (by first | assumption | omega | (unfold R32 at *; omega) | (unfold R64 at *; omega) | (simp only [R32, R64] at *; omega)) (fun h_52 => ?_) (fun h_52 => ?_)
        · show WV _ _ _ 57 _ _ _ _ _
          rw [if_pos h_52] at hQ
          refine r_ex 4 (pc' := 30) (lo' := [some (.inr (.inr (some 2))), some (.inr (.inr (some 100039))), some (.inl 2)]) (st' := [.inr (.inr (some 100039)), .inl 2]) rfl ?_
          refine r_call (rr := some (.inl 2)) (b' := 1) (v' := v) (m := 28) (args := [.inr (.inr (some 100039))]) (n' := 27) (pc' := 33) (lo' := [some (.inr (.inr (some 2))), some (.inr (.inr (some 100039))), some (.inl 2)]) (st' := [.inl 2]) (I := .invokevirtual 28) (pc0 := 30) (len := 3) rfl rfl rfl ⟨60, rfl⟩ ?_
          show WV _ _ _ 33 _ [.inl 2, .inl 2] _ _ _
          refine r_ex 2 (pc' := 64) (lo' := [some (.inr (.inr (some 2))), some (.inr (.inr (some 100039))), some (.inl 2)]) (st' := [.inl 1]) rfl ?_
          refine r_ret (rr := some (.inl 1)) (I := .ireturn) (pc0 := 64) (len := 1) rfl rfl ?_
          exact hQ (by first | assumption | omega | (unfold R32 at *; omega) | (unfold R64 at *; omega) | (simp only [R32, R64] at *; omega))
        · show WV _ _ _ 55 _ _ _ _ _
          rw [if_neg h_52] at hQ
          refine r_ex 1 (pc' := 56) (lo' := [some (.inr (.inr (some 2))), some (.inr (.inr (some 100039))), some (.inl 1)]) (st' := [.inl 0]) rfl ?_
          refine r_ret (rr := some (.inl 0)) (I := .ireturn) (pc0 := 56) (len := 1) rfl rfl ?_
          exact hQ (by first | assumption | omega | (unfold R32 at *; omega) | (unfold R64 at *; omega) | (simp only [R32, R64] at *; omega))
      · show WV _ _ _ 55 _ _ _ _ _
        rw [if_neg h_52] at hQ
        refine r_ex 1 (pc' := 56) (lo' := [some (.inr (.inr (some 2))), some (.inr (.inr (some 100039))), some (.inl 0)]) (st' := [.inl 0]) rfl ?_
        refine r_ret (rr := some (.inl 0)) (I := .ireturn) (pc0 := 56) (len := 1) rfl rfl ?_
        exact hQ (by first | assumption | omega | (unfold R32 at *; omega) | (unfold R64 at *; omega) | (simp only [R32, R64] at *; omega))
    · show WV _ _ _ 24 _ _ _ _ _
      rw [if_neg h_21] at hQ
      refine r_ex 1 (pc' := 25) (lo' := [some (.inr (.inr (some 2))), some (.inr (.inr (some 100039))), none]) (st' := [.inl 0]) rfl ?_
      refine r_ret (rr := some (.inl 0)) (I := .ireturn) (pc0 := 25) (len := 1) rfl rfl ?_
      exact hQ (by first | assumption | omega | (unfold R32 at *; omega) | (unfold R64 at *; omega) | (simp only [R32, R64] at *; omega))

theorem e_cl_isAt19 {X : PX} {d : Nat} {v : VS}  (hX : XI v) (hp_a : (v 2 7) ≤ (v 2 4)) : EvV X (d + 1 + 1 + 1 + 1) 27 [.inr (.inr (some 2)), .inr (.inr (some 100039))] 1 v (some (.inl (cl_isAt19 v))) 1 v := EvV.of (w_cl_isAt19 hX hp_a (fun _ => ⟨rfl, rfl, rfl⟩))

theorem n_cl_isAt19 {v : VS}  (hX : XI v) (hp_a : (v 2 7) ≤ (v 2 4)) : 0 ≤ (cl_isAt19 v) ∧ (cl_isAt19 v) ≤ 1 := by
  have q : WV (0, fun _ => 0, none) (0 + 1 + 1 + 1 + 1) 27 0 [some (.inr (.inr (some 2))), some (.inr (.inr (some 100039))), none] [] 1 v (fun _ _ _ => 0 ≤ (cl_isAt19 v) ∧ (cl_isAt19 v) ≤ 1) := w_cl_isAt19 (X := (0, fun _ => 0, none)) (d := 0) hX hp_a (fun q => q)
  obtain ⟨_, _, _, _, _, _, _, q⟩ := q
  exact q

def cl_word19 (v : VS)  : VS :=
  (if (v 2 1) = 0 then (if (cl_isAt19 v) = 0 then (cl_fail v 1) else (cl_advance v)) else (cl_fail v 1))
theorem w_cl_word19 {X : PX} {d : Nat} {v : VS}  (hX : XI v) (hp_a : (v 2 7) ≤ (v 2 4)) {Q : Option PV → Nat → VS → Prop} (hQ : XI (cl_word19 v) → (((cl_word19 v) 2 7) ≤ ((cl_word19 v) 2 4)) → Q none 1 (cl_word19 v)) : WV X (d + 1 + 1 + 1 + 1 + 1) 26 0 [some (.inr (.inr (some 2))), some (.inr (.inr (some 100039)))] [] 1 v Q := by
  rw [cl_word19] at hQ
  refine r_ex 2 (pc' := 4) (lo' := [some (.inr (.inr (some 2))), some (.inr (.inr (some 100039)))]) (st' := [.inl (v 2 1)]) rfl ?_
  have hb_1 : 0 ≤ (v 2 1) ∧ (v 2 1) ≤ 3 := hX 2 1
  refine n_if_ne (pc0 := 4) (len := 3) (t := 22) rfl (by first | assumption | omega | (unfold R32 at *; omega) | (unfold R64 at *; omega) | (simp only [R32, R64] at *; omega)) (fun h_4 => ?_) (fun h_4 => ?_)
  · show WV _ _ _ 22 _ _ _ _ _
    rw [if_neg h_4] at hQ
    refine r_ex 2 (pc' := 24) (lo' := [some (.inr (.inr (some 2))), some (.inr (.inr (some 100039)))]) (st' := [.inl 1, .inr (.inr (some 2))]) rfl ?_
    have hp_2 : 1 ≤ (1 : Int) ∧ (1 : Int) ≤ 3 := (by first | assumption | omega | (unfold R32 at *; omega) | (unfold R64 at *; omega) | (simp only [R32, R64] at *; omega))
    have hp_3 : (v 2 7) ≤ (v 2 4) := (show (v 2 7) ≤ (v 2 4) from (by first | assumption | omega | (unfold R32 at *; omega) | (unfold R64 at *; omega) | (simp only [R32, R64] at *; omega)))
    refine r_call (m := 39) (args := [.inr (.inr (some 2)), .inl 1]) (n' := 26) (pc' := 27) (lo' := [some (.inr (.inr (some 2))), some (.inr (.inr (some 100039)))]) (st' := []) (I := .invokevirtual 39) (pc0 := 24) (len := 3) rfl rfl rfl (e_cl_fail hX hp_2 hp_3) ?_
    show WV _ _ _ 27 _ [] _ (cl_fail v 1) _
    have hX_4 : XI (cl_fail v 1) := i_cl_fail (v := v) (k := 1) hX hp_2 hp_3
    have hb_5 : ((cl_fail v 1) 2 7) ≤ ((cl_fail v 1) 2 4) := n_cl_fail (v := v) (k := 1) hX hp_2 hp_3
    refine r_ret (rr := none) (I := .return_) (pc0 := 27) (len := 1) rfl rfl ?_
    exact hQ hX_4 (show ((cl_fail v 1) 2 7) ≤ ((cl_fail v 1) 2 4) from (by first | assumption | omega | (unfold R32 at *; omega) | (unfold R64 at *; omega) | (simp only [R32, R64] at *; omega)))
  · show WV _ _ _ 7 _ _ _ _ _
    rw [if_pos h_4] at hQ
    refine r_ex 2 (pc' := 9) (lo' := [some (.inr (.inr (some 2))), some (.inr (.inr (some 100039)))]) (st' := [.inr (.inr (some 100039)), .inr (.inr (some 2))]) rfl ?_
    have hp_6 : (v 2 7) ≤ (v 2 4) := (show (v 2 7) ≤ (v 2 4) from (by first | assumption | omega | (unfold R32 at *; omega) | (unfold R64 at *; omega) | (simp only [R32, R64] at *; omega)))
    refine r_call (m := 27) (args := [.inr (.inr (some 2)), .inr (.inr (some 100039))]) (n' := 26) (pc' := 12) (lo' := [some (.inr (.inr (some 2))), some (.inr (.inr (some 100039)))]) (st' := []) (I := .invokevirtual 27) (pc0 := 9) (len := 3) rfl rfl rfl (e_cl_isAt19 hX hp_6) ?_
    show WV _ _ _ 12 _ [.inl (cl_isAt19 v)] _ _ _
    have hb_7 := n_cl_isAt19 (v := v) hX hp_6
    refine n_if_eq (pc0 := 12) (len := 3) (t := 22) rfl (by first | assumption | omega | (unfold R32 at *; omega) | (unfold R64 at *; omega) | (simp only [R32, R64] at *; omega)) (fun h_12 => ?_) (fun h_12 => ?_)
    · show WV _ _ _ 22 _ _ _ _ _
      rw [if_pos h_12] at hQ
      refine r_ex 2 (pc' := 24) (lo' := [some (.inr (.inr (some 2))), some (.inr (.inr (some 100039)))]) (st' := [.inl 1, .inr (.inr (some 2))]) rfl ?_
      have hp_8 : 1 ≤ (1 : Int) ∧ (1 : Int) ≤ 3 := (by first | assumption | omega | (unfold R32 at *; omega) | (unfold R64 at *; omega) | (simp only [R32, R64] at *; omega))
      have hp_9 : (v 2 7) ≤ (v 2 4) := (show (v 2 7) ≤ (v 2 4) from (by first | assumption | omega | (unfold R32 at *; omega) | (unfold R64 at *; omega) | (simp only [R32, R64] at *; omega)))
      refine r_call (m := 39) (args := [.inr (.inr (some 2)), .inl 1]) (n' := 26) (pc' := 27) (lo' := [some (.inr (.inr (some 2))), some (.inr (.inr (some 100039)))]) (st' := []) (I := .invokevirtual 39) (pc0 := 24) (len := 3) rfl rfl rfl (e_cl_fail hX hp_8 hp_9) ?_
      show WV _ _ _ 27 _ [] _ (cl_fail v 1) _
      have hX_10 : XI (cl_fail v 1) := i_cl_fail (v := v) (k := 1) hX hp_8 hp_9
      have hb_11 : ((cl_fail v 1) 2 7) ≤ ((cl_fail v 1) 2 4) := n_cl_fail (v := v) (k := 1) hX hp_8 hp_9
      refine r_ret (rr := none) (I := .return_) (pc0 := 27) (len := 1) rfl rfl ?_
      exact hQ hX_10 (show ((cl_fail v 1) 2 7) ≤ ((cl_fail v 1) 2 4) from (by first | assumption | omega | (unfold R32 at *; omega) | (unfold R64 at *; omega) | (simp only [R32, R64] at *; omega)))
    · show WV _ _ _ 15 _ _ _ _ _
      rw [if_neg h_12] at hQ
      refine r_ex 1 (pc' := 16) (lo' := [some (.inr (.inr (some 2))), some (.inr (.inr (some 100039)))]) (st' := [.inr (.inr (some 2))]) rfl ?_
      have hp_12 : (v 2 7) ≤ (v 2 4) := (show (v 2 7) ≤ (v 2 4) from (by first | assumption | omega | (unfold R32 at *; omega) | (unfold R64 at *; omega) | (simp only [R32, R64] at *; omega)))
      refine r_call (m := 21) (args := [.inr (.inr (some 2))]) (n' := 26) (pc' := 19) (lo' := [some (.inr (.inr (some 2))), some (.inr (.inr (some 100039)))]) (st' := []) (I := .invokevirtual 21) (pc0 := 16) (len := 3) rfl rfl rfl (e_cl_advance hX hp_12) ?_
      show WV _ _ _ 19 _ [] _ (cl_advance v) _
      have hX_13 : XI (cl_advance v) := i_cl_advance (v := v) hX hp_12
      have hb_14 : ((cl_advance v) 2 7) ≤ ((cl_advance v) 2 4) := n_cl_advance (v := v) hX hp_12
      refine r_ex 1 (pc' := 27) (lo' := [some (.inr (.inr (some 2))), some (.inr (.inr (some 100039)))]) (st' := []) rfl ?_
      refine r_ret (rr := none) (I := .return_) (pc0 := 27) (len := 1) rfl rfl ?_
      exact hQ hX_13 (show ((cl_advance v) 2 7) ≤ ((cl_advance v) 2 4) from (by first | assumption | omega | (unfold R32 at *; omega) | (unfold R64 at *; omega) | (simp only [R32, R64] at *; omega)))

theorem e_cl_word19 {X : PX} {d : Nat} {v : VS}  (hX : XI v) (hp_a : (v 2 7) ≤ (v 2 4)) : EvV X (d + 1 + 1 + 1 + 1 + 1) 26 [.inr (.inr (some 2)), .inr (.inr (some 100039))] 1 v none 1 (cl_word19 v) := EvV.of (w_cl_word19 hX hp_a (fun _ _ => ⟨rfl, rfl, rfl⟩))

theorem i_cl_word19 {v : VS}  (hX : XI v) (hp_a : (v 2 7) ≤ (v 2 4)) : XI (cl_word19 v) := by
  have q : WV (0, fun _ => 0, none) (0 + 1 + 1 + 1 + 1 + 1) 26 0 [some (.inr (.inr (some 2))), some (.inr (.inr (some 100039)))] [] 1 v (fun _ _ _ => XI (cl_word19 v)) := w_cl_word19 (X := (0, fun _ => 0, none)) (d := 0) hX hp_a (fun q _ => q)
  obtain ⟨_, _, _, _, _, _, _, q⟩ := q
  exact q

theorem n_cl_word19 {v : VS}  (hX : XI v) (hp_a : (v 2 7) ≤ (v 2 4)) : ((cl_word19 v) 2 7) ≤ ((cl_word19 v) 2 4) := by
  have q : WV (0, fun _ => 0, none) (0 + 1 + 1 + 1 + 1 + 1) 26 0 [some (.inr (.inr (some 2))), some (.inr (.inr (some 100039)))] [] 1 v (fun _ _ _ => ((cl_word19 v) 2 7) ≤ ((cl_word19 v) 2 4)) := w_cl_word19 (X := (0, fun _ => 0, none)) (d := 0) hX hp_a (fun _ q => q)
  obtain ⟨_, _, _, _, _, _, _, q⟩ := q
  exact q

theorem o_cl_word19 {rk : Nat} {v : VS}  (hk : (rk < 2 ∨ 2 < rk)) : (cl_word19 v ) rk = v rk := by
  unfold cl_word19
  by_cases hc_ : (v 2 1) = 0
  · rw [if_pos hc_]
    by_cases hc_ : (cl_isAt19 v) = 0
    · rw [if_pos hc_]
      all_goals (show (cl_fail v 1) rk = _)
      all_goals (rw [o_cl_fail (by omega)])
    · rw [if_neg hc_]
      all_goals (show (cl_advance v) rk = _)
      all_goals (rw [o_cl_advance (by omega)])
  · rw [if_neg hc_]
    all_goals (show (cl_fail v 1) rk = _)
    all_goals (rw [o_cl_fail (by omega)])

def cl_isAt20 (v : VS)  : Int :=
  (if (v 2 5) = 1 then (if 4 = ((v 2 7) - (v 2 6)) then (if (v 1 ((((v 2 6) + 0)).toNat)) = 100 then (if (v 1 ((((v 2 6) + 1)).toNat)) = 101 then (if (v 1 ((((v 2 6) + 2)).toNat)) = 97 then (if (v 1 ((((v 2 6) + 3)).toNat)) = 102 then 1 else 0) else 0) else 0) else 0) else 0) else 0)
theorem w_cl_isAt20 {X : PX} {d : Nat} {v : VS}  (hX : XI v) (hp_a : (v 2 7) ≤ (v 2 4)) {Q : Option PV → Nat → VS → Prop} (hQ : (0 ≤ (cl_isAt20 v) ∧ (cl_isAt20 v) ≤ 1) → Q (some (.inl (cl_isAt20 v))) 1 v) : WV X (d + 1 + 1 + 1 + 1) 27 0 [some (.inr (.inr (some 2))), some (.inr (.inr (some 100041))), none] [] 1 v Q := by
  rw [cl_isAt20] at hQ
  have hz6 : 0 ≤ v 2 6 ∧ v 2 6 ≤ 2000 := hX 2 6
  have hz7 : 0 ≤ v 2 7 ∧ v 2 7 ≤ 2001 := hX 2 7
  have hz4 : 0 ≤ v 2 4 ∧ v 2 4 ≤ 2000 := hX 2 4
  refine r_ex 3 (pc' := 5) (lo' := [some (.inr (.inr (some 2))), some (.inr (.inr (some 100041))), none]) (st' := [.inl 1, .inl (v 2 5)]) rfl ?_
  have hb_1 : 0 ≤ (v 2 5) ∧ (v 2 5) ≤ 4 := hX 2 5
  refine n_ic_ne (pc0 := 5) (len := 3) (t := 24) rfl (by first | assumption | omega | (unfold R32 at *; omega) | (unfold R64 at *; omega) | (simp only [R32, R64] at *; omega)) (by first | assumption | omega | (unfold R32 at *; omega) | (unfold R64 at *; omega) | (simp only [R32, R64] at *; omega)) (fun h_5 => ?_) (fun h_5 => ?_)
  · show WV _ _ _ 24 _ _ _ _ _
    rw [if_neg h_5] at hQ
    refine r_ex 1 (pc' := 25) (lo' := [some (.inr (.inr (some 2))), some (.inr (.inr (some 100041))), none]) (st' := [.inl 0]) rfl ?_
    refine r_ret (rr := some (.inl 0)) (I := .ireturn) (pc0 := 25) (len := 1) rfl rfl ?_
    exact hQ (by first | assumption | omega | (unfold R32 at *; omega) | (unfold R64 at *; omega) | (simp only [R32, R64] at *; omega))
  · show WV _ _ _ 8 _ _ _ _ _
    rw [if_pos h_5] at hQ
    refine r_ex 1 (pc' := 9) (lo' := [some (.inr (.inr (some 2))), some (.inr (.inr (some 100041))), none]) (st' := [.inr (.inr (some 100041))]) rfl ?_
    refine r_call (rr := some (.inl 4)) (b' := 1) (v' := v) (m := 28) (args := [.inr (.inr (some 100041))]) (n' := 27) (pc' := 12) (lo' := [some (.inr (.inr (some 2))), some (.inr (.inr (some 100041))), none]) (st' := []) (I := .invokevirtual 28) (pc0 := 9) (len := 3) rfl rfl rfl ⟨60, rfl⟩ ?_
    show WV _ _ _ 12 _ [.inl 4] _ _ _
    refine r_ex 5 (pc' := 21) (lo' := [some (.inr (.inr (some 2))), some (.inr (.inr (some 100041))), none]) (st' := [.inl ((v 2 7) - (v 2 6)), .inl 4]) rfl ?_
    have hb_2 : 0 ≤ (v 2 7) ∧ (v 2 7) ≤ 2001 := hX 2 7
    have hb_3 : 0 ≤ (v 2 6) ∧ (v 2 6) ≤ 2000 := hX 2 6
    refine n_ic_eq (pc0 := 21) (len := 3) (t := 26) rfl (by first | assumption | omega | (unfold R32 at *; omega) | (unfold R64 at *; omega) | (simp only [R32, R64] at *; omega)) (by first | assumption | omega | (unfold R32 at *; omega) | (unfold R64 at *; omega) | (simp only [R32, R64] at *; omega)) (fun h_21 => ?_) (fun h_21 => ?_)
    · show WV _ _ _ 26 _ _ _ _ _
      rw [if_pos h_21] at hQ
      refine r_ex 4 (pc' := 30) (lo' := [some (.inr (.inr (some 2))), some (.inr (.inr (some 100041))), some (.inl 0)]) (st' := [.inr (.inr (some 100041)), .inl 0]) rfl ?_
      refine r_call (rr := some (.inl 4)) (b' := 1) (v' := v) (m := 28) (args := [.inr (.inr (some 100041))]) (n' := 27) (pc' := 33) (lo' := [some (.inr (.inr (some 2))), some (.inr (.inr (some 100041))), some (.inl 0)]) (st' := [.inl 0]) (I := .invokevirtual 28) (pc0 := 30) (len := 3) rfl rfl rfl ⟨60, rfl⟩ ?_
      show WV _ _ _ 33 _ [.inl 4, .inl 0] _ _ _
      refine r_ex 7 (pc' := 46) (lo' := [some (.inr (.inr (some 2))), some (.inr (.inr (some 100041))), some (.inl 0)]) (st' := [.inl ((v 2 6) + 0), .inr (.inr (some 1))]) rfl ?_
      refine r_bald2 (x := (v 1 ((((v 2 6) + 0)).toNat))) (pc' := 47) (pc0 := 46) (len := 1) rfl (s_1 _) (Or.inl rfl) (by first | assumption | omega | (unfold R32 at *; omega) | (unfold R64 at *; omega) | (simp only [R32, R64] at *; omega)) (by decide) rfl rfl ?_
      have hb_4 : -128 ≤ (v 1 ((((v 2 6) + 0)).toNat)) ∧ (v 1 ((((v 2 6) + 0)).toNat)) ≤ 127 := hX 1 ((((v 2 6) + 0)).toNat)
      refine r_ex 2 (pc' := 49) (lo' := [some (.inr (.inr (some 2))), some (.inr (.inr (some 100041))), some (.inl 0)]) (st' := [.inl 0, .inr (.inr (some 100041)), .inl (v 1 ((((v 2 6) + 0)).toNat))]) rfl ?_
      refine r_call (rr := some (.inl 100)) (b' := 1) (v' := v) (m := 30) (args := [.inr (.inr (some 100041)), .inl 0]) (n' := 27) (pc' := 52) (lo' := [some (.inr (.inr (some 2))), some (.inr (.inr (some 100041))), some (.inl 0)]) (st' := [.inl (v 1 ((((v 2 6) + 0)).toNat))]) (I := .invokevirtual 30) (pc0 := 49) (len := 3) rfl rfl rfl ⟨60, rfl⟩ ?_
      show WV _ _ _ 52 _ [.inl 100, .inl (v 1 ((((v 2 6) + 0)).toNat))] _ _ _
      refine n_ic_eq (pc0 := 52) (len := 3) (t := 57) rfl (by first | assumption | omega | (unfold R32 at *; omega) | (unfold R64 at *; omega) | (simp only [R32, R64] at *; omega)) (by first | assumption | omega | (unfold R32 at *; omega) | (unfold R64 at *; omega) | (simp only [R32, R64] at *; omega)) (fun h_52 => ?_) (fun h_52 => ?_)
      · show WV _ _ _ 57 _ _ _ _ _
        rw [if_pos h_52] at hQ
        refine r_ex 4 (pc' := 30) (lo' := [some (.inr (.inr (some 2))), some (.inr (.inr (some 100041))), some (.inl 1)]) (st' := [.inr (.inr (some 100041)), .inl 1]) rfl ?_
        refine r_call (rr := some (.inl 4)) (b' := 1) (v' := v) (m := 28) (args := [.inr (.inr (some 100041))]) (n' := 27) (pc' := 33) (lo' := [some (.inr (.inr (some 2))), some (.inr (.inr (some 100041))), some (.inl 1)]) (st' := [.inl 1]) (I := .invokevirtual 28) (pc0 := 30) (len := 3) rfl rfl rfl ⟨60, rfl⟩ ?_
        show WV _ _ _ 33 _ [.inl 4, .inl 1] _ _ _
        refine r_ex 7 (pc' := 46) (lo' := [some (.inr (.inr (some 2))), some (.inr (.inr (some 100041))), some (.inl 1)]) (st' := [.inl ((v 2 6) + 1), .inr (.inr (some 1))]) rfl ?_
        refine r_bald2 (x := (v 1 ((((v 2 6) + 1)).toNat))) (pc' := 47) (pc0 := 46) (len := 1) rfl (s_1 _) (Or.inl rfl) (by first | assumption | omega | (unfold R32 at *; omega) | (unfold R64 at *; omega) | (simp only [R32, R64] at *; omega)) (by decide) rfl rfl ?_
        have hb_5 : -128 ≤ (v 1 ((((v 2 6) + 1)).toNat)) ∧ (v 1 ((((v 2 6) + 1)).toNat)) ≤ 127 := hX 1 ((((v 2 6) + 1)).toNat)
        refine r_ex 2 (pc' := 49) (lo' := [some (.inr (.inr (some 2))), some (.inr (.inr (some 100041))), some (.inl 1)]) (st' := [.inl 1, .inr (.inr (some 100041)), .inl (v 1 ((((v 2 6) + 1)).toNat))]) rfl ?_
        refine r_call (rr := some (.inl 101)) (b' := 1) (v' := v) (m := 30) (args := [.inr (.inr (some 100041)), .inl 1]) (n' := 27) (pc' := 52) (lo' := [some (.inr (.inr (some 2))), some (.inr (.inr (some 100041))), some (.inl 1)]) (st' := [.inl (v 1 ((((v 2 6) + 1)).toNat))]) (I := .invokevirtual 30) (pc0 := 49) (len := 3) rfl rfl rfl ⟨60, rfl⟩ ?_
        show WV _ _ _ 52 _ [.inl 101, .inl (v 1 ((((v 2 6) + 1)).toNat))] _ _ _
        refine n_ic_eq (pc0 := 52) (len := 3) (t := 57) rfl (by first | assumption | omega | (unfold R32 at *; omega) | (unfold R64 at *; omega) | (simp only [R32, R64] at *; omega)) (by first | assumption | omega | (unfold R32 at *; omega) | (unfold R64 at *; omega) | (simp only [R32, R64] at *; omega)) (fun h_52 => ?_) (fun h_52 => ?_)
        · show WV _ _ _ 57 _ _ _ _ _
          rw [if_pos h_52] at hQ
          refine r_ex 4 (pc' := 30) (lo' := [some (.inr (.inr (some 2))), some (.inr (.inr (some 100041))), some (.inl 2)]) (st' := [.inr (.inr (some 100041)), .inl 2]) rfl ?_
          refine r_call (rr := some (.inl 4)) (b' := 1) (v' := v) (m := 28) (args := [.inr (.inr (some 100041))]) (n' := 27) (pc' := 33) (lo' := [some (.inr (.inr (some 2))), some (.inr (.inr (some 100041))), some (.inl 2)]) (st' := [.inl 2]) (I := .invokevirtual 28) (pc0 := 30) (len := 3) rfl rfl rfl ⟨60, rfl⟩ ?_
          show WV _ _ _ 33 _ [.inl 4, .inl 2] _ _ _
          refine r_ex 7 (pc' := 46) (lo' := [some (.inr (.inr (some 2))), some (.inr (.inr (some 100041))), some (.inl 2)]) (st' := [.inl ((v 2 6) + 2), .inr (.inr (some 1))]) rfl ?_
          refine r_bald2 (x := (v 1 ((((v 2 6) + 2)).toNat))) (pc' := 47) (pc0 := 46) (len := 1) rfl (s_1 _) (Or.inl rfl) (by first | assumption | omega | (unfold R32 at *; omega) | (unfold R64 at *; omega) | (simp only [R32, R64] at *; omega)) (by decide) rfl rfl ?_
          have hb_6 : -128 ≤ (v 1 ((((v 2 6) + 2)).toNat)) ∧ (v 1 ((((v 2 6) + 2)).toNat)) ≤ 127 := hX 1 ((((v 2 6) + 2)).toNat)
          refine r_ex 2 (pc' := 49) (lo' := [some (.inr (.inr (some 2))), some (.inr (.inr (some 100041))), some (.inl 2)]) (st' := [.inl 2, .inr (.inr (some 100041)), .inl (v 1 ((((v 2 6) + 2)).toNat))]) rfl ?_
          refine r_call (rr := some (.inl 97)) (b' := 1) (v' := v) (m := 30) (args := [.inr (.inr (some 100041)), .inl 2]) (n' := 27) (pc' := 52) (lo' := [some (.inr (.inr (some 2))), some (.inr (.inr (some 100041))), some (.inl 2)]) (st' := [.inl (v 1 ((((v 2 6) + 2)).toNat))]) (I := .invokevirtual 30) (pc0 := 49) (len := 3) rfl rfl rfl ⟨60, rfl⟩ ?_
          show WV _ _ _ 52 _ [.inl 97, .inl (v 1 ((((v 2 6) + 2)).toNat))] _ _ _
          refine n_ic_eq (pc0 := 52) (len := 3) (t := 57) rfl (by first | assumption | omega | (unfold R32 at *; omega) | (unfold R64 at *; omega) | (simp only [R32, R64] at *; omega)) (by first | assumption | omega | (unfold R32 at *; omega) | (unfold R64 at *; omega) | (simp only [R32, R64] at *; omega)) (fun h_52 => ?_) (fun h_52 => ?_)
          · show WV _ _ _ 57 _ _ _ _ _
            rw [if_pos h_52] at hQ
            refine r_ex 4 (pc' := 30) (lo' := [some (.inr (.inr (some 2))), some (.inr (.inr (some 100041))), some (.inl 3)]) (st' := [.inr (.inr (some 100041)), .inl 3]) rfl ?_
            refine r_call (rr := some (.inl 4)) (b' := 1) (v' := v) (m := 28) (args := [.inr (.inr (some 100041))]) (n' := 27) (pc' := 33) (lo' := [some (.inr (.inr (some 2))), some (.inr (.inr (some 100041))), some (.inl 3)]) (st' := [.inl 3]) (I := .invokevirtual 28) (pc0 := 30) (len := 3) rfl rfl rfl ⟨60, rfl⟩ ?_
            show WV _ _ _ 33 _ [.inl 4, .inl 3] _ _ _
            refine r_ex 7 (pc' := 46) (lo' := [some (.inr (.inr (some 2))), some (.inr (.inr (some 100041))), some (.inl 3)]) (st' := [.inl ((v 2 6) + 3), .inr (.inr (some 1))]) rfl ?_
            refine r_bald2 (x := (v 1 ((((v 2 6) + 3)).toNat))) (pc' := 47) (pc0 := 46) (len := 1) rfl (s_1 _) (Or.inl rfl) (by first | assumption | omega | (unfold R32 at *; omega) | (unfold R64 at *; omega) | (simp only [R32, R64] at *; omega)) (by decide) rfl rfl ?_
            have hb_7 : -128 ≤ (v 1 ((((v 2 6) + 3)).toNat)) ∧ (v 1 ((((v 2 6) + 3)).toNat)) ≤ 127 := hX 1 ((((v 2 6) + 3)).toNat)
            refine r_ex 2 (pc' := 49) (lo' := [some (.inr (.inr (some 2))), some (.inr (.inr (some 100041))), some (.inl 3)]) (st' := [.inl 3, .inr (.inr (some 100041)), .inl (v 1 ((((v 2 6) + 3)).toNat))]) rfl ?_
            refine r_call (rr := some (.inl 102)) (b' := 1) (v' := v) (m := 30) (args := [.inr (.inr (some 100041)), .inl 3]) (n' := 27) (pc' := 52) (lo' := [some (.inr (.inr (some 2))), some (.inr (.inr (some 100041))), some (.inl 3)]) (st' := [.inl (v 1 ((((v 2 6) + 3)).toNat))]) (I := .invokevirtual 30) (pc0 := 49) (len := 3) rfl rfl rfl ⟨60, rfl⟩ ?_
            show WV _ _ _ 52 _ [.inl 102, .inl (v 1 ((((v 2 6) + 3)).toNat))] _ _ _
            refine n_ic_eq (pc0 := 52) (len := 3) (t := 57) rfl (by first | assumption | omega | (unfold R32 at *; omega) | (unfold R64 at *; omega) | (simp only [R32, R64] at *; omega)) (by first | assumption | omega | (unfold R32 at *; omega) | (unfold R64 at *; omega) | (simp only [R32, R64] at *; omega)) (fun h_52 => ?_) (fun h_52 => ?_)
            · show WV _ _ _ 57 _ _ _ _ _
              rw [if_pos h_52] at hQ
              refine r_ex 4 (pc' := 30) (lo' := [some (.inr (.inr (some 2))), some (.inr (.inr (some 100041))), some (.inl 4)]) (st' := [.inr (.inr (some 100041)), .inl 4]) rfl ?_
              refine r_call (rr := some (.inl 4)) (b' := 1) (v' := v) (m := 28) (args := [.inr (.inr (some 100041))]) (n' := 27) (pc' := 33) (lo' := [some (.inr (.inr (some 2))), some (.inr (.inr (some 100041))), some (.inl 4)]) (st' := [.inl 4]) (I := .invokevirtual 28) (pc0 := 30) (len := 3) rfl rfl rfl ⟨60, rfl⟩ ?_
              show WV _ _ _ 33 _ [.inl 4, .inl 4] _ _ _
              refine r_ex 2 (pc' := 64) (lo' := [some (.inr (.inr (some 2))), some (.inr (.inr (some 100041))), some (.inl 4)]) (st' := [.inl 1]) rfl ?_
              refine r_ret (rr := some (.inl 1)) (I := .ireturn) (pc0 := 64) (len := 1) rfl rfl ?_
              exact hQ (by first | assumption | omega | (unfold R32 at *; omega) | (unfold R64 at *; omega) | (simp only [R32, R64] at *; omega))
            · show WV _ _ _ 55 _ _ _ _ _
              rw [if_neg h_52] at hQ
              refine r_ex 1 (pc' := 56) (lo' := [some (.inr (.inr (some 2))), some (.inr (.inr (some 100041))), some (.inl 3)]) (st' := [.inl 0]) rfl ?_
              refine r_ret (rr := some (.inl 0)) (I := .ireturn) (pc0 := 56) (len := 1) rfl rfl ?_
              exact hQ (by first | assumption | omega | (unfold R32 at *; omega) | (unfold R64 at *; omega) | (simp only [R32, R64] at *; omega))
          · show WV _ _ _ 55 _ _ _ _ _
            rw [if_neg h_52] at hQ
            refine r_ex 1 (pc' := 56) (lo' := [some (.inr (.inr (some 2))), some (.inr (.inr (some 100041))), some (.inl 2)]) (st' := [.inl 0]) rfl ?_
            refine r_ret (rr := some (.inl 0)) (I := .ireturn) (pc0 := 56) (len := 1) rfl rfl ?_
            exact hQ (by first | assumption | omega | (unfold R32 at *; omega) | (unfold R64 at *; omega) | (simp only [R32, R64] at *; omega))
        · show WV _ _ _ 55 _ _ _ _ _
          rw [if_neg h_52] at hQ
          refine r_ex 1 (pc' := 56) (lo' := [some (.inr (.inr (some 2))), some (.inr (.inr (some 100041))), some (.inl 1)]) (st' := [.inl 0]) rfl ?_
          refine r_ret (rr := some (.inl 0)) (I := .ireturn) (pc0 := 56) (len := 1) rfl rfl ?_
          exact hQ (by first | assumption | omega | (unfold R32 at *; omega) | (unfold R64 at *; omega) | (simp only [R32, R64] at *; omega))
      · show WV _ _ _ 55 _ _ _ _ _
        rw [if_neg h_52] at hQ
        refine r_ex 1 (pc' := 56) (lo' := [some (.inr (.inr (some 2))), some (.inr (.inr (some 100041))), some (.inl 0)]) (st' := [.inl 0]) rfl ?_
        refine r_ret (rr := some (.inl 0)) (I := .ireturn) (pc0 := 56) (len := 1) rfl rfl ?_
        exact hQ (by first | assumption | omega | (unfold R32 at *; omega) | (unfold R64 at *; omega) | (simp only [R32, R64] at *; omega))
    · show WV _ _ _ 24 _ _ _ _ _
      rw [if_neg h_21] at hQ
      refine r_ex 1 (pc' := 25) (lo' := [some (.inr (.inr (some 2))), some (.inr (.inr (some 100041))), none]) (st' := [.inl 0]) rfl ?_
      refine r_ret (rr := some (.inl 0)) (I := .ireturn) (pc0 := 25) (len := 1) rfl rfl ?_
      exact hQ (by first | assumption | omega | (unfold R32 at *; omega) | (unfold R64 at *; omega) | (simp only [R32, R64] at *; omega))

theorem e_cl_isAt20 {X : PX} {d : Nat} {v : VS}  (hX : XI v) (hp_a : (v 2 7) ≤ (v 2 4)) : EvV X (d + 1 + 1 + 1 + 1) 27 [.inr (.inr (some 2)), .inr (.inr (some 100041))] 1 v (some (.inl (cl_isAt20 v))) 1 v := EvV.of (w_cl_isAt20 hX hp_a (fun _ => ⟨rfl, rfl, rfl⟩))

theorem n_cl_isAt20 {v : VS}  (hX : XI v) (hp_a : (v 2 7) ≤ (v 2 4)) : 0 ≤ (cl_isAt20 v) ∧ (cl_isAt20 v) ≤ 1 := by
  have q : WV (0, fun _ => 0, none) (0 + 1 + 1 + 1 + 1) 27 0 [some (.inr (.inr (some 2))), some (.inr (.inr (some 100041))), none] [] 1 v (fun _ _ _ => 0 ≤ (cl_isAt20 v) ∧ (cl_isAt20 v) ≤ 1) := w_cl_isAt20 (X := (0, fun _ => 0, none)) (d := 0) hX hp_a (fun q => q)
  obtain ⟨_, _, _, _, _, _, _, q⟩ := q
  exact q

def cl_isAt21 (v : VS)  : Int :=
  (if (v 2 5) = 1 then (if 7 = ((v 2 7) - (v 2 6)) then (if (v 1 ((((v 2 6) + 0)).toNat)) = 102 then (if (v 1 ((((v 2 6) + 1)).toNat)) = 117 then (if (v 1 ((((v 2 6) + 2)).toNat)) = 110 then (if (v 1 ((((v 2 6) + 3)).toNat)) = 101 then (if (v 1 ((((v 2 6) + 4)).toNat)) = 114 then (if (v 1 ((((v 2 6) + 5)).toNat)) = 97 then (if (v 1 ((((v 2 6) + 6)).toNat)) = 108 then 1 else 0) else 0) else 0) else 0) else 0) else 0) else 0) else 0) else 0)
theorem w_cl_isAt21 {X : PX} {d : Nat} {v : VS}  (hX : XI v) (hp_a : (v 2 7) ≤ (v 2 4)) {Q : Option PV → Nat → VS → Prop} (hQ : (0 ≤ (cl_isAt21 v) ∧ (cl_isAt21 v) ≤ 1) → Q (some (.inl (cl_isAt21 v))) 1 v) : WV X (d + 1 + 1 + 1 + 1) 27 0 [some (.inr (.inr (some 2))), some (.inr (.inr (some 100043))), none] [] 1 v Q := by
  rw [cl_isAt21] at hQ
  have hz6 : 0 ≤ v 2 6 ∧ v 2 6 ≤ 2000 := hX 2 6
  have hz7 : 0 ≤ v 2 7 ∧ v 2 7 ≤ 2001 := hX 2 7
  have hz4 : 0 ≤ v 2 4 ∧ v 2 4 ≤ 2000 := hX 2 4
  refine r_ex 3 (pc' := 5) (lo' := [some (.inr (.inr (some 2))), some (.inr (.inr (some 100043))), none]) (st' := [.inl 1, .inl (v 2 5)]) rfl ?_
  have hb_1 : 0 ≤ (v 2 5) ∧ (v 2 5) ≤ 4 := hX 2 5
  refine n_ic_ne (pc0 := 5) (len := 3) (t := 24) rfl (by first | assumption | omega | (unfold R32 at *; omega) | (unfold R64 at *; omega) | (simp only [R32, R64] at *; omega)) (by first | assumption | omega | (unfold R32 at *; omega) | (unfold R64 at *; omega) | (simp only [R32, R64] at *; omega)) (fun h_5 => ?_) (fun h_5 => ?_)
  · show WV _ _ _ 24 _ _ _ _ _
    rw [if_neg h_5] at hQ
    refine r_ex 1 (pc' := 25) (lo' := [some (.inr (.inr (some 2))), some (.inr (.inr (some 100043))), none]) (st' := [.inl 0]) rfl ?_
    refine r_ret (rr := some (.inl 0)) (I := .ireturn) (pc0 := 25) (len := 1) rfl rfl ?_
    exact hQ (by first | assumption | omega | (unfold R32 at *; omega) | (unfold R64 at *; omega) | (simp only [R32, R64] at *; omega))
  · show WV _ _ _ 8 _ _ _ _ _
    rw [if_pos h_5] at hQ
    refine r_ex 1 (pc' := 9) (lo' := [some (.inr (.inr (some 2))), some (.inr (.inr (some 100043))), none]) (st' := [.inr (.inr (some 100043))]) rfl ?_
    refine r_call (rr := some (.inl 7)) (b' := 1) (v' := v) (m := 28) (args := [.inr (.inr (some 100043))]) (n' := 27) (pc' := 12) (lo' := [some (.inr (.inr (some 2))), some (.inr (.inr (some 100043))), none]) (st' := []) (I := .invokevirtual 28) (pc0 := 9) (len := 3) rfl rfl rfl ⟨60, rfl⟩ ?_
    show WV _ _ _ 12 _ [.inl 7] _ _ _
    refine r_ex 5 (pc' := 21) (lo' := [some (.inr (.inr (some 2))), some (.inr (.inr (some 100043))), none]) (st' := [.inl ((v 2 7) - (v 2 6)), .inl 7]) rfl ?_
    have hb_2 : 0 ≤ (v 2 7) ∧ (v 2 7) ≤ 2001 := hX 2 7
    have hb_3 : 0 ≤ (v 2 6) ∧ (v 2 6) ≤ 2000 := hX 2 6
    refine n_ic_eq (pc0 := 21) (len := 3) (t := 26) rfl (by first | assumption | omega | (unfold R32 at *; omega) | (unfold R64 at *; omega) | (simp only [R32, R64] at *; omega)) (by first | assumption | omega | (unfold R32 at *; omega) | (unfold R64 at *; omega) | (simp only [R32, R64] at *; omega)) (fun h_21 => ?_) (fun h_21 => ?_)
    · show WV _ _ _ 26 _ _ _ _ _
      rw [if_pos h_21] at hQ
      refine r_ex 4 (pc' := 30) (lo' := [some (.inr (.inr (some 2))), some (.inr (.inr (some 100043))), some (.inl 0)]) (st' := [.inr (.inr (some 100043)), .inl 0]) rfl ?_
      refine r_call (rr := some (.inl 7)) (b' := 1) (v' := v) (m := 28) (args := [.inr (.inr (some 100043))]) (n' := 27) (pc' := 33) (lo' := [some (.inr (.inr (some 2))), some (.inr (.inr (some 100043))), some (.inl 0)]) (st' := [.inl 0]) (I := .invokevirtual 28) (pc0 := 30) (len := 3) rfl rfl rfl ⟨60, rfl⟩ ?_
      show WV _ _ _ 33 _ [.inl 7, .inl 0] _ _ _
      refine r_ex 7 (pc' := 46) (lo' := [some (.inr (.inr (some 2))), some (.inr (.inr (some 100043))), some (.inl 0)]) (st' := [.inl ((v 2 6) + 0), .inr (.inr (some 1))]) rfl ?_
      refine r_bald2 (x := (v 1 ((((v 2 6) + 0)).toNat))) (pc' := 47) (pc0 := 46) (len := 1) rfl (s_1 _) (Or.inl rfl) (by first | assumption | omega | (unfold R32 at *; omega) | (unfold R64 at *; omega) | (simp only [R32, R64] at *; omega)) (by decide) rfl rfl ?_
      have hb_4 : -128 ≤ (v 1 ((((v 2 6) + 0)).toNat)) ∧ (v 1 ((((v 2 6) + 0)).toNat)) ≤ 127 := hX 1 ((((v 2 6) + 0)).toNat)
      refine r_ex 2 (pc' := 49) (lo' := [some (.inr (.inr (some 2))), some (.inr (.inr (some 100043))), some (.inl 0)]) (st' := [.inl 0, .inr (.inr (some 100043)), .inl (v 1 ((((v 2 6) + 0)).toNat))]) rfl ?_
      refine r_call (rr := some (.inl 102)) (b' := 1) (v' := v) (m := 30) (args := [.inr (.inr (some 100043)), .inl 0]) (n' := 27) (pc' := 52) (lo' := [some (.inr (.inr (some 2))), some (.inr (.inr (some 100043))), some (.inl 0)]) (st' := [.inl (v 1 ((((v 2 6) + 0)).toNat))]) (I := .invokevirtual 30) (pc0 := 49) (len := 3) rfl rfl rfl ⟨60, rfl⟩ ?_
      show WV _ _ _ 52 _ [.inl 102, .inl (v 1 ((((v 2 6) + 0)).toNat))] _ _ _
      refine n_ic_eq (pc0 := 52) (len := 3) (t := 57) rfl (by first | assumption | omega | (unfold R32 at *; omega) | (unfold R64 at *; omega) | (simp only [R32, R64] at *; omega)) (by first | assumption | omega | (unfold R32 at *; omega) | (unfold R64 at *; omega) | (simp only [R32, R64] at *; omega)) (fun h_52 => ?_) (fun h_52 => ?_)
      · show WV _ _ _ 57 _ _ _ _ _
        rw [if_pos h_52] at hQ
        refine r_ex 4 (pc' := 30) (lo' := [some (.inr (.inr (some 2))), some (.inr (.inr (some 100043))), some (.inl 1)]) (st' := [.inr (.inr (some 100043)), .inl 1]) rfl ?_
        refine r_call (rr := some (.inl 7)) (b' := 1) (v' := v) (m := 28) (args := [.inr (.inr (some 100043))]) (n' := 27) (pc' := 33) (lo' := [some (.inr (.inr (some 2))), some (.inr (.inr (some 100043))), some (.inl 1)]) (st' := [.inl 1]) (I := .invokevirtual 28) (pc0 := 30) (len := 3) rfl rfl rfl ⟨60, rfl⟩ ?_
        show WV _ _ _ 33 _ [.inl 7, .inl 1] _ _ _
        refine r_ex 7 (pc' := 46) (lo' := [some (.inr (.inr (some 2))), some (.inr (.inr (some 100043))), some (.inl 1)]) (st' := [.inl ((v 2 6) + 1), .inr (.inr (some 1))]) rfl ?_
        refine r_bald2 (x := (v 1 ((((v 2 6) + 1)).toNat))) (pc' := 47) (pc0 := 46) (len := 1) rfl (s_1 _) (Or.inl rfl) (by first | assumption | omega | (unfold R32 at *; omega) | (unfold R64 at *; omega) | (simp only [R32, R64] at *; omega)) (by decide) rfl rfl ?_
        have hb_5 : -128 ≤ (v 1 ((((v 2 6) + 1)).toNat)) ∧ (v 1 ((((v 2 6) + 1)).toNat)) ≤ 127 := hX 1 ((((v 2 6) + 1)).toNat)
        refine r_ex 2 (pc' := 49) (lo' := [some (.inr (.inr (some 2))), some (.inr (.inr (some 100043))), some (.inl 1)]) (st' := [.inl 1, .inr (.inr (some 100043)), .inl (v 1 ((((v 2 6) + 1)).toNat))]) rfl ?_
        refine r_call (rr := some (.inl 117)) (b' := 1) (v' := v) (m := 30) (args := [.inr (.inr (some 100043)), .inl 1]) (n' := 27) (pc' := 52) (lo' := [some (.inr (.inr (some 2))), some (.inr (.inr (some 100043))), some (.inl 1)]) (st' := [.inl (v 1 ((((v 2 6) + 1)).toNat))]) (I := .invokevirtual 30) (pc0 := 49) (len := 3) rfl rfl rfl ⟨60, rfl⟩ ?_
        show WV _ _ _ 52 _ [.inl 117, .inl (v 1 ((((v 2 6) + 1)).toNat))] _ _ _
        refine n_ic_eq (pc0 := 52) (len := 3) (t := 57) rfl (by first | assumption | omega | (unfold R32 at *; omega) | (unfold R64 at *; omega) | (simp only [R32, R64] at *; omega)) (by first | assumption | omega | (unfold R32 at *; omega) | (unfold R64 at *; omega) | (simp only [R32, R64] at *; omega)) (fun h_52 => ?_) (fun h_52 => ?_)
        · show WV _ _ _ 57 _ _ _ _ _
          rw [if_pos h_52] at hQ
          refine r_ex 4 (pc' := 30) (lo' := [some (.inr (.inr (some 2))), some (.inr (.inr (some 100043))), some (.inl 2)]) (st' := [.inr (.inr (some 100043)), .inl 2]) rfl ?_
          refine r_call (rr := some (.inl 7)) (b' := 1) (v' := v) (m := 28) (args := [.inr (.inr (some 100043))]) (n' := 27) (pc' := 33) (lo' := [some (.inr (.inr (some 2))), some (.inr (.inr (some 100043))), some (.inl 2)]) (st' := [.inl 2]) (I := .invokevirtual 28) (pc0 := 30) (len := 3) rfl rfl rfl ⟨60, rfl⟩ ?_
          show WV _ _ _ 33 _ [.inl 7, .inl 2] _ _ _
          refine r_ex 7 (pc' := 46) (lo' := [some (.inr (.inr (some 2))), some (.inr (.inr (some 100043))), some (.inl 2)]) (st' := [.inl ((v 2 6) + 2), .inr (.inr (some 1))]) rfl ?_
          refine r_bald2 (x := (v 1 ((((v 2 6) + 2)).toNat))) (pc' := 47) (pc0 := 46) (len := 1) rfl (s_1 _) (Or.inl rfl) (by first | assumption | omega | (unfold R32 at *; omega) | (unfold R64 at *; omega) | (simp only [R32, R64] at *; omega)) (by decide) rfl rfl ?_
          have hb_6 : -128 ≤ (v 1 ((((v 2 6) + 2)).toNat)) ∧ (v 1 ((((v 2 6) + 2)).toNat)) ≤ 127 := hX 1 ((((v 2 6) + 2)).toNat)
          refine r_ex 2 (pc' := 49) (lo' := [some (.inr (.inr (some 2))), some (.inr (.inr (some 100043))), some (.inl 2)]) (st' := [.inl 2, .inr (.inr (some 100043)), .inl (v 1 ((((v 2 6) + 2)).toNat))]) rfl ?_
          refine r_call (rr := some (.inl 110)) (b' := 1) (v' := v) (m := 30) (args := [.inr (.inr (some 100043)), .inl 2]) (n' := 27) (pc' := 52) (lo' := [some (.inr (.inr (some 2))), some (.inr (.inr (some 100043))), some (.inl 2)]) (st' := [.inl (v 1 ((((v 2 6) + 2)).toNat))]) (I := .invokevirtual 30) (pc0 := 49) (len := 3) rfl rfl rfl ⟨60, rfl⟩ ?_
          show WV _ _ _ 52 _ [.inl 110, .inl (v 1 ((((v 2 6) + 2)).toNat))] _ _ _
          refine n_ic_eq (pc0 := 52) (len := 3) (t := 57) rfl (by first | assumption | omega | (unfold R32 at *; omega) | (unfold R64 at *; omega) | (simp only [R32, R64] at *; omega)) (by first | assumption | omega | (unfold R32 at *; omega) | (unfold R64 at *; omega) | (simp only [R32, R64] at *; omega)) (fun h_52 => ?_) (fun h_52 => ?_)
          · show WV _ _ _ 57 _ _ _ _ _
            rw [if_pos h_52] at hQ
            refine r_ex 4 (pc' := 30) (lo' := [some (.inr (.inr (some 2))), some (.inr (.inr (some 100043))), some (.inl 3)]) (st' := [.inr (.inr (some 100043)), .inl 3]) rfl ?_
            refine r_call (rr := some (.inl 7)) (b' := 1) (v' := v) (m := 28) (args := [.inr (.inr (some 100043))]) (n' := 27) (pc' := 33) (lo' := [some (.inr (.inr (some 2))), some (.inr (.inr (some 100043))), some (.inl 3)]) (st' := [.inl 3]) (I := .invokevirtual 28) (pc0 := 30) (len := 3) rfl rfl rfl ⟨60, rfl⟩ ?_
            show WV _ _ _ 33 _ [.inl 7, .inl 3] _ _ _
            refine r_ex 7 (pc' := 46) (lo' := [some (.inr (.inr (some 2))), some (.inr (.inr (some 100043))), some (.inl 3)]) (st' := [.inl ((v 2 6) + 3), .inr (.inr (some 1))]) rfl ?_
            refine r_bald2 (x := (v 1 ((((v 2 6) + 3)).toNat))) (pc' := 47) (pc0 := 46) (len := 1) rfl (s_1 _) (Or.inl rfl) (by first | assumption | omega | (unfold R32 at *; omega) | (unfold R64 at *; omega) | (simp only [R32, R64] at *; omega)) (by decide) rfl rfl ?_
            have hb_7 : -128 ≤ (v 1 ((((v 2 6) + 3)).toNat)) ∧ (v 1 ((((v 2 6) + 3)).toNat)) ≤ 127 := hX 1 ((((v 2 6) + 3)).toNat)
            refine r_ex 2 (pc' := 49) (lo' := [some (.inr (.inr (some 2))), some (.inr (.inr (some 100043))), some (.inl 3)]) (st' := [.inl 3, .inr (.inr (some 100043)), .inl (v 1 ((((v 2 6) + 3)).toNat))]) rfl ?_
            refine r_call (rr := some (.inl 101)) (b' := 1) (v' := v) (m := 30) (args := [.inr (.inr (some 100043)), .inl 3]) (n' := 27) (pc' := 52) (lo' := [some (.inr (.inr (some 2))), some (.inr (.inr (some 100043))), some (.inl 3)]) (st' := [.inl (v 1 ((((v 2 6) + 3)).toNat))]) (I := .invokevirtual 30) (pc0 := 49) (len := 3) rfl rfl rfl ⟨60, rfl⟩ ?_
            show WV _ _ _ 52 _ [.inl 101, .inl (v 1 ((((v 2 6) + 3)).toNat))] _ _ _
            refine n_ic_eq (pc0 := 52) (len := 3) (t := 57) rfl (by first | assumption | omega | (unfold R32 at *; omega) | (unfold R64 at *; omega) | (simp only [R32, R64] at *; omega)) (by first | assumption | omega | (unfold R32 at *; omega) | (unfold R64 at *; omega) | (simp only [R32, R64] at *; omega)) (fun h_52 => ?_) (fun h_52 => ?_)
            · show WV _ _ _ 57 _ _ _ _ _
              rw [if_pos h_52] at hQ
              refine r_ex 4 (pc' := 30) (lo' := [some (.inr (.inr (some 2))), some (.inr (.inr (some 100043))), some (.inl 4)]) (st' := [.inr (.inr (some 100043)), .inl 4]) rfl ?_
              refine r_call (rr := some (.inl 7)) (b' := 1) (v' := v) (m := 28) (args := [.inr (.inr (some 100043))]) (n' := 27) (pc' := 33) (lo' := [some (.inr (.inr (some 2))), some (.inr (.inr (some 100043))), some (.inl 4)]) (st' := [.inl 4]) (I := .invokevirtual 28) (pc0 := 30) (len := 3) rfl rfl rfl ⟨60, rfl⟩ ?_
              show WV _ _ _ 33 _ [.inl 7, .inl 4] _ _ _
              refine r_ex 7 (pc' := 46) (lo' := [some (.inr (.inr (some 2))), some (.inr (.inr (some 100043))), some (.inl 4)]) (st' := [.inl ((v 2 6) + 4), .inr (.inr (some 1))]) rfl ?_
              refine r_bald2 (x := (v 1 ((((v 2 6) + 4)).toNat))) (pc' := 47) (pc0 := 46) (len := 1) rfl (s_1 _) (Or.inl rfl) (by first | assumption | omega | (unfold R32 at *; omega) | (unfold R64 at *; omega) | (simp only [R32, R64] at *; omega)) (by decide) rfl rfl ?_
              have hb_8 : -128 ≤ (v 1 ((((v 2 6) + 4)).toNat)) ∧ (v 1 ((((v 2 6) + 4)).toNat)) ≤ 127 := hX 1 ((((v 2 6) + 4)).toNat)
              refine r_ex 2 (pc' := 49) (lo' := [some (.inr (.inr (some 2))), some (.inr (.inr (some 100043))), some (.inl 4)]) (st' := [.inl 4, .inr (.inr (some 100043)), .inl (v 1 ((((v 2 6) + 4)).toNat))]) rfl ?_
              refine r_call (rr := some (.inl 114)) (b' := 1) (v' := v) (m := 30) (args := [.inr (.inr (some 100043)), .inl 4]) (n' := 27) (pc' := 52) (lo' := [some (.inr (.inr (some 2))), some (.inr (.inr (some 100043))), some (.inl 4)]) (st' := [.inl (v 1 ((((v 2 6) + 4)).toNat))]) (I := .invokevirtual 30) (pc0 := 49) (len := 3) rfl rfl rfl ⟨60, rfl⟩ ?_
              show WV _ _ _ 52 _ [.inl 114, .inl (v 1 ((((v 2 6) + 4)).toNat))] _ _ _
              refine n_ic_eq (pc0 := 52) (len := 3) (t := 57) rfl (by first | assumption | omega | (unfold R32 at *; omega) | (unfold R64 at *; omega) | (simp only [R32, R64] at *; omega)) (by first | assumption | omega | (unfold R32 at *; omega) | (unfold R64 at *; omega) | (simp only [R32, R64] at *; omega)) (fun h_52 => ?_) (fun h_52 => ?_)
              · show WV _ _ _ 57 _ _ _ _ _
                rw [if_pos h_52] at hQ
                refine r_ex 4 (pc' := 30) (lo' := [some (.inr (.inr (some 2))), some (.inr (.inr (some 100043))), some (.inl 5)]) (st' := [.inr (.inr (some 100043)), .inl 5]) rfl ?_
                refine r_call (rr := some (.inl 7)) (b' := 1) (v' := v) (m := 28) (args := [.inr (.inr (some 100043))]) (n' := 27) (pc' := 33) (lo' := [some (.inr (.inr (some 2))), some (.inr (.inr (some 100043))), some (.inl 5)]) (st' := [.inl 5]) (I := .invokevirtual 28) (pc0 := 30) (len := 3) rfl rfl rfl ⟨60, rfl⟩ ?_
                show WV _ _ _ 33 _ [.inl 7, .inl 5] _ _ _
                refine r_ex 7 (pc' := 46) (lo' := [some (.inr (.inr (some 2))), some (.inr (.inr (some 100043))), some (.inl 5)]) (st' := [.inl ((v 2 6) + 5), .inr (.inr (some 1))]) rfl ?_
                refine r_bald2 (x := (v 1 ((((v 2 6) + 5)).toNat))) (pc' := 47) (pc0 := 46) (len := 1) rfl (s_1 _) (Or.inl rfl) (by first | assumption | omega | (unfold R32 at *; omega) | (unfold R64 at *; omega) | (simp only [R32, R64] at *; omega)) (by decide) rfl rfl ?_
                have hb_9 : -128 ≤ (v 1 ((((v 2 6) + 5)).toNat)) ∧ (v 1 ((((v 2 6) + 5)).toNat)) ≤ 127 := hX 1 ((((v 2 6) + 5)).toNat)
                refine r_ex 2 (pc' := 49) (lo' := [some (.inr (.inr (some 2))), some (.inr (.inr (some 100043))), some (.inl 5)]) (st' := [.inl 5, .inr (.inr (some 100043)), .inl (v 1 ((((v 2 6) + 5)).toNat))]) rfl ?_
                refine r_call (rr := some (.inl 97)) (b' := 1) (v' := v) (m := 30) (args := [.inr (.inr (some 100043)), .inl 5]) (n' := 27) (pc' := 52) (lo' := [some (.inr (.inr (some 2))), some (.inr (.inr (some 100043))), some (.inl 5)]) (st' := [.inl (v 1 ((((v 2 6) + 5)).toNat))]) (I := .invokevirtual 30) (pc0 := 49) (len := 3) rfl rfl rfl ⟨60, rfl⟩ ?_
                show WV _ _ _ 52 _ [.inl 97, .inl (v 1 ((((v 2 6) + 5)).toNat))] _ _ _
                refine n_ic_eq (pc0 := 52) (len := 3) (t := 57) rfl (by first | assumption | omega | (unfold R32 at *; omega) | (unfold R64 at *; omega) | (simp only [R32, R64] at *; omega)) (by first | assumption | omega | (unfold R32 at *; omega) | (unfold R64 at *; omega) | (simp only [R32, R64] at *; omega)) (fun h_52 => ?_) (fun h_52 => ?_)
                · show WV _ _ _ 57 _ _ _ _ _
                  rw [if_pos h_52] at hQ
                  refine r_ex 4 (pc' := 30) (lo' := [some (.inr (.inr (some 2))), some (.inr (.inr (some 100043))), some (.inl 6)]) (st' := [.inr (.inr (some 100043)), .inl 6]) rfl ?_
                  refine r_call (rr := some (.inl 7)) (b' := 1) (v' := v) (m := 28) (args := [.inr (.inr (some 100043))]) (n' := 27) (pc' := 33) (lo' := [some (.inr (.inr (some 2))), some (.inr (.inr (some 100043))), some (.inl 6)]) (st' := [.inl 6]) (I := .invokevirtual 28) (pc0 := 30) (len := 3) rfl rfl rfl ⟨60, rfl⟩ ?_
                  show WV _ _ _ 33 _ [.inl 7, .inl 6] _ _ _
                  refine r_ex 7 (pc' := 46) (lo' := [some (.inr (.inr (some 2))), some (.inr (.inr (some 100043))), some (.inl 6)]) (st' := [.inl ((v 2 6) + 6), .inr (.inr (some 1))]) rfl ?_
                  refine r_bald2 (x := (v 1 ((((v 2 6) + 6)).toNat))) (pc' := 47) (pc0 := 46) (len := 1) rfl (s_1 _) (Or.inl rfl) (by first | assumption | omega | (unfold R32 at *; omega) | (unfold R64 at *; omega) | (simp only [R32, R64] at *; omega)) (by decide) rfl rfl ?_
                  have hb_10 : -128 ≤ (v 1 ((((v 2 6) + 6)).toNat)) ∧ (v 1 ((((v 2 6) + 6)).toNat)) ≤ 127 := hX 1 ((((v 2 6) + 6)).toNat)
                  refine r_ex 2 (pc' := 49) (lo' := [some (.inr (.inr (some 2))), some (.inr (.inr (some 100043))), some (.inl 6)]) (st' := [.inl 6, .inr (.inr (some 100043)), .inl (v 1 ((((v 2 6) + 6)).toNat))]) rfl ?_
                  refine r_call (rr := some (.inl 108)) (b' := 1) (v' := v) (m := 30) (args := [.inr (.inr (some 100043)), .inl 6]) (n' := 27) (pc' := 52) (lo' := [some (.inr (.inr (some 2))), some (.inr (.inr (some 100043))), some (.inl 6)]) (st' := [.inl (v 1 ((((v 2 6) + 6)).toNat))]) (I := .invokevirtual 30) (pc0 := 49) (len := 3) rfl rfl rfl ⟨60, rfl⟩ ?_
                  show WV _ _ _ 52 _ [.inl 108, .inl (v 1 ((((v 2 6) + 6)).toNat))] _ _ _
                  refine n_ic_eq (pc0 := 52) (len := 3) (t := 57) rfl (by first | assumption | omega | (unfold R32 at *; omega) | (unfold R64 at *; omega) | (simp only [R32, R64] at *; omega)) (by first | assumption | omega | (unfold R32 at *; omega) | (unfold R64 at *; omega) | (simp only [R32, R64] at *; omega)) (fun h_52 => ?_) (fun h_52 => ?_)
                  · show WV _ _ _ 57 _ _ _ _ _
                    rw [if_pos h_52] at hQ
                    refine r_ex 4 (pc' := 30) (lo' := [some (.inr (.inr (some 2))), some (.inr (.inr (some 100043))), some (.inl 7)]) (st' := [.inr (.inr (some 100043)), .inl 7]) rfl ?_
                    refine r_call (rr := some (.inl 7)) (b' := 1) (v' := v) (m := 28) (args := [.inr (.inr (some 100043))]) (n' := 27) (pc' := 33) (lo' := [some (.inr (.inr (some 2))), some (.inr (.inr (some 100043))), some (.inl 7)]) (st' := [.inl 7]) (I := .invokevirtual 28) (pc0 := 30) (len := 3) rfl rfl rfl ⟨60, rfl⟩ ?_
                    show WV _ _ _ 33 _ [.inl 7, .inl 7] _ _ _
                    refine r_ex 2 (pc' := 64) (lo' := [some (.inr (.inr (some 2))), some (.inr (.inr (some 100043))), some (.inl 7)]) (st' := [.inl 1]) rfl ?_
                    refine r_ret (rr := some (.inl 1)) (I := .ireturn) (pc0 := 64) (len := 1) rfl rfl ?_
                    exact hQ (by first | assumption | omega | (unfold R32 at *; omega) | (unfold R64 at *; omega) | (simp only [R32, R64] at *; omega))
                  · show WV _ _ _ 55 _ _ _ _ _
                    rw [if_neg h_52] at hQ
                    refine r_ex 1 (pc' := 56) (lo' := [some (.inr (.inr (some 2))), some (.inr (.inr (some 100043))), some (.inl 6)]) (st' := [.inl 0]) rfl ?_
                    refine r_ret (rr := some (.inl 0)) (I := .ireturn) (pc0 := 56) (len := 1) rfl rfl ?_
                    exact hQ (by first | assumption | omega | (unfold R32 at *; omega) | (unfold R64 at *; omega) | (simp only [R32, R64] at *; omega))
                · show WV _ _ _ 55 _ _ _ _ _
                  rw [if_neg h_52] at hQ
                  refine r_ex 1 (pc' := 56) (lo' := [some (.inr (.inr (some 2))), some (.inr (.inr (some 100043))), some (.inl 5)]) (st' := [.inl 0]) rfl ?_
                  refine r_ret (rr := some (.inl 0)) (I := .ireturn) (pc0 := 56) (len := 1) rfl rfl ?_
                  exact hQ (by first | assumption | omega | (unfold R32 at *; omega) | (unfold R64 at *; omega) | (simp only [R32, R64] at *; omega))
              · show WV _ _ _ 55 _ _ _ _ _
                rw [if_neg h_52] at hQ
                refine r_ex 1 (pc' := 56) (lo' := [some (.inr (.inr (some 2))), some (.inr (.inr (some 100043))), some (.inl 4)]) (st' := [.inl 0]) rfl ?_
                refine r_ret (rr := some (.inl 0)) (I := .ireturn) (pc0 := 56) (len := 1) rfl rfl ?_
                exact hQ (by first | assumption | omega | (unfold R32 at *; omega) | (unfold R64 at *; omega) | (simp only [R32, R64] at *; omega))
            · show WV _ _ _ 55 _ _ _ _ _
              rw [if_neg h_52] at hQ
              refine r_ex 1 (pc' := 56) (lo' := [some (.inr (.inr (some 2))), some (.inr (.inr (some 100043))), some (.inl 3)]) (st' := [.inl 0]) rfl ?_
              refine r_ret (rr := some (.inl 0)) (I := .ireturn) (pc0 := 56) (len := 1) rfl rfl ?_
              exact hQ (by first | assumption | omega | (unfold R32 at *; omega) | (unfold R64 at *; omega) | (simp only [R32, R64] at *; omega))
          · show WV _ _ _ 55 _ _ _ _ _
            rw [if_neg h_52] at hQ
            refine r_ex 1 (pc' := 56) (lo' := [some (.inr (.inr (some 2))), some (.inr (.inr (some 100043))), some (.inl 2)]) (st' := [.inl 0]) rfl ?_
            refine r_ret (rr := some (.inl 0)) (I := .ireturn) (pc0 := 56) (len := 1) rfl rfl ?_
            exact hQ (by first | assumption | omega | (unfold R32 at *; omega) | (unfold R64 at *; omega) | (simp only [R32, R64] at *; omega))
        · show WV _ _ _ 55 _ _ _ _ _
          rw [if_neg h_52] at hQ
          refine r_ex 1 (pc' := 56) (lo' := [some (.inr (.inr (some 2))), some (.inr (.inr (some 100043))), some (.inl 1)]) (st' := [.inl 0]) rfl ?_
          refine r_ret (rr := some (.inl 0)) (I := .ireturn) (pc0 := 56) (len := 1) rfl rfl ?_
          exact hQ (by first | assumption | omega | (unfold R32 at *; omega) | (unfold R64 at *; omega) | (simp only [R32, R64] at *; omega))
      · show WV _ _ _ 55 _ _ _ _ _
        rw [if_neg h_52] at hQ
        refine r_ex 1 (pc' := 56) (lo' := [some (.inr (.inr (some 2))), some (.inr (.inr (some 100043))), some (.inl 0)]) (st' := [.inl 0]) rfl ?_
        refine r_ret (rr := some (.inl 0)) (I := .ireturn) (pc0 := 56) (len := 1) rfl rfl ?_
        exact hQ (by first | assumption | omega | (unfold R32 at *; omega) | (unfold R64 at *; omega) | (simp only [R32, R64] at *; omega))
    · show WV _ _ _ 24 _ _ _ _ _
      rw [if_neg h_21] at hQ
      refine r_ex 1 (pc' := 25) (lo' := [some (.inr (.inr (some 2))), some (.inr (.inr (some 100043))), none]) (st' := [.inl 0]) rfl ?_
      refine r_ret (rr := some (.inl 0)) (I := .ireturn) (pc0 := 25) (len := 1) rfl rfl ?_
      exact hQ (by first | assumption | omega | (unfold R32 at *; omega) | (unfold R64 at *; omega) | (simp only [R32, R64] at *; omega))

theorem e_cl_isAt21 {X : PX} {d : Nat} {v : VS}  (hX : XI v) (hp_a : (v 2 7) ≤ (v 2 4)) : EvV X (d + 1 + 1 + 1 + 1) 27 [.inr (.inr (some 2)), .inr (.inr (some 100043))] 1 v (some (.inl (cl_isAt21 v))) 1 v := EvV.of (w_cl_isAt21 hX hp_a (fun _ => ⟨rfl, rfl, rfl⟩))

theorem n_cl_isAt21 {v : VS}  (hX : XI v) (hp_a : (v 2 7) ≤ (v 2 4)) : 0 ≤ (cl_isAt21 v) ∧ (cl_isAt21 v) ≤ 1 := by
  have q : WV (0, fun _ => 0, none) (0 + 1 + 1 + 1 + 1) 27 0 [some (.inr (.inr (some 2))), some (.inr (.inr (some 100043))), none] [] 1 v (fun _ _ _ => 0 ≤ (cl_isAt21 v) ∧ (cl_isAt21 v) ≤ 1) := w_cl_isAt21 (X := (0, fun _ => 0, none)) (d := 0) hX hp_a (fun q => q)
  obtain ⟨_, _, _, _, _, _, _, q⟩ := q
  exact q

def cl_isAt22 (v : VS)  : Int :=
  (if (v 2 5) = 1 then (if 6 = ((v 2 7) - (v 2 6)) then (if (v 1 ((((v 2 6) + 0)).toNat)) = 115 then (if (v 1 ((((v 2 6) + 1)).toNat)) = 116 then (if (v 1 ((((v 2 6) + 2)).toNat)) = 97 then (if (v 1 ((((v 2 6) + 3)).toNat)) = 114 then (if (v 1 ((((v 2 6) + 4)).toNat)) = 116 then (if (v 1 ((((v 2 6) + 5)).toNat)) = 115 then 1 else 0) else 0) else 0) else 0) else 0) else 0) else 0) else 0)
theorem w_cl_isAt22 {X : PX} {d : Nat} {v : VS}  (hX : XI v) (hp_a : (v 2 7) ≤ (v 2 4)) {Q : Option PV → Nat → VS → Prop} (hQ : (0 ≤ (cl_isAt22 v) ∧ (cl_isAt22 v) ≤ 1) → Q (some (.inl (cl_isAt22 v))) 1 v) : WV X (d + 1 + 1 + 1 + 1) 27 0 [some (.inr (.inr (some 2))), some (.inr (.inr (some 100045))), none] [] 1 v Q := by
  rw [cl_isAt22] at hQ
  have hz6 : 0 ≤ v 2 6 ∧ v 2 6 ≤ 2000 := hX 2 6
  have hz7 : 0 ≤ v 2 7 ∧ v 2 7 ≤ 2001 := hX 2 7
  have hz4 : 0 ≤ v 2 4 ∧ v 2 4 ≤ 2000 := hX 2 4
  refine r_ex 3 (pc' := 5) (lo' := [some (.inr (.inr (some 2))), some (.inr (.inr (some 100045))), none]) (st' := [.inl 1, .inl (v 2 5)]) rfl ?_
  have hb_1 : 0 ≤ (v 2 5) ∧ (v 2 5) ≤ 4 := hX 2 5
  refine n_ic_ne (pc0 := 5) (len := 3) (t := 24) rfl (by first | assumption | omega | (unfold R32 at *; omega) | (unfold R64 at *; omega) | (simp only [R32, R64] at *; omega)) (by first | assumption | omega | (unfold R32 at *; omega) | (unfold R64 at *; omega) | (simp only [R32, R64] at *; omega)) (fun h_5 => ?_) (fun h_5 => ?_)
  · show WV _ _ _ 24 _ _ _ _ _
    rw [if_neg h_5] at hQ
    refine r_ex 1 (pc' := 25) (lo' := [some (.inr (.inr (some 2))), some (.inr (.inr (some 100045))), none]) (st' := [.inl 0]) rfl ?_
    refine r_ret (rr := some (.inl 0)) (I := .ireturn) (pc0 := 25) (len := 1) rfl rfl ?_
    exact hQ (by first | assumption | omega | (unfold R32 at *; omega) | (unfold R64 at *; omega) | (simp only [R32, R64] at *; omega))
  · show WV _ _ _ 8 _ _ _ _ _
    rw [if_pos h_5] at hQ
    refine r_ex 1 (pc' := 9) (lo' := [some (.inr (.inr (some 2))), some (.inr (.inr (some 100045))), none]) (st' := [.inr (.inr (some 100045))]) rfl ?_
    refine r_call (rr := some (.inl 6)) (b' := 1) (v' := v) (m := 28) (args := [.inr (.inr (some 100045))]) (n' := 27) (pc' := 12) (lo' := [some (.inr (.inr (some 2))), some (.inr (.inr (some 100045))), none]) (st' := []) (I := .invokevirtual 28) (pc0 := 9) (len := 3) rfl rfl rfl ⟨60, rfl⟩ ?_
    show WV _ _ _ 12 _ [.inl 6] _ _ _
    refine r_ex 5 (pc' := 21) (lo' := [some (.inr (.inr (some 2))), some (.inr (.inr (some 100045))), none]) (st' := [.inl ((v 2 7) - (v 2 6)), .inl 6]) rfl ?_
    have hb_2 : 0 ≤ (v 2 7) ∧ (v 2 7) ≤ 2001 := hX 2 7
    have hb_3 : 0 ≤ (v 2 6) ∧ (v 2 6) ≤ 2000 := hX 2 6
    refine n_ic_eq (pc0 := 21) (len := 3) (t := 26) rfl (by first | assumption | omega | (unfold R32 at *; omega) | (unfold R64 at *; omega) | (simp only [R32, R64] at *; omega)) (by first | assumption | omega | (unfold R32 at *; omega) | (unfold R64 at *; omega) | (simp only [R32, R64] at *; omega)) (fun h_21 => ?_) (fun h_21 => ?_)
    · show WV _ _ _ 26 _ _ _ _ _
      rw [if_pos h_21] at hQ
      refine r_ex 4 (pc' := 30) (lo' := [some (.inr (.inr (some 2))), some (.inr (.inr (some 100045))), some (.inl 0)]) (st' := [.inr (.inr (some 100045)), .inl 0]) rfl ?_
      refine r_call (rr := some (.inl 6)) (b' := 1) (v' := v) (m := 28) (args := [.inr (.inr (some 100045))]) (n' := 27) (pc' := 33) (lo' := [some (.inr (.inr (some 2))), some (.inr (.inr (some 100045))), some (.inl 0)]) (st' := [.inl 0]) (I := .invokevirtual 28) (pc0 := 30) (len := 3) rfl rfl rfl ⟨60, rfl⟩ ?_
      show WV _ _ _ 33 _ [.inl 6, .inl 0] _ _ _
      refine r_ex 7 (pc' := 46) (lo' := [some (.inr (.inr (some 2))), some (.inr (.inr (some 100045))), some (.inl 0)]) (st' := [.inl ((v 2 6) + 0), .inr (.inr (some 1))]) rfl ?_
      refine r_bald2 (x := (v 1 ((((v 2 6) + 0)).toNat))) (pc' := 47) (pc0 := 46) (len := 1) rfl (s_1 _) (Or.inl rfl) (by first | assumption | omega | (unfold R32 at *; omega) | (unfold R64 at *; omega) | (simp only [R32, R64] at *; omega)) (by decide) rfl rfl ?_
      have hb_4 : -128 ≤ (v 1 ((((v 2 6) + 0)).toNat)) ∧ (v 1 ((((v 2 6) + 0)).toNat)) ≤ 127 := hX 1 ((((v 2 6) + 0)).toNat)
      refine r_ex 2 (pc' := 49) (lo' := [some (.inr (.inr (some 2))), some (.inr (.inr (some 100045))), some (.inl 0)]) (st' := [.inl 0, .inr (.inr (some 100045)), .inl (v 1 ((((v 2 6) + 0)).toNat))]) rfl ?_
      refine r_call (rr := some (.inl 115)) (b' := 1) (v' := v) (m := 30) (args := [.inr (.inr (some 100045)), .inl 0]) (n' := 27) (pc' := 52) (lo' := [some (.inr (.inr (some 2))), some (.inr (.inr (some 100045))), some (.inl 0)]) (st' := [.inl (v 1 ((((v 2 6) + 0)).toNat))]) (I := .invokevirtual 30) (pc0 := 49) (len := 3) rfl rfl rfl ⟨60, rfl⟩ ?_
      show WV _ _ _ 52 _ [.inl 115, .inl (v 1 ((((v 2 6) + 0)).toNat))] _ _ _
      refine n_ic_eq (pc0 := 52) (len := 3) (t := 57) rfl (by first | assumption | omega | (unfold R32 at *; omega) | (unfold R64 at *; omega) | (simp only [R32, R64] at *; omega)) (by first | assumption | omega | (unfold R32 at *; omega) | (unfold R64 at *; omega) | (simp only [R32, R64] at *; omega)) (fun h_52 => ?_) (fun h_52 => ?_)
      · show WV _ _ _ 57 _ _ _ _ _
        rw [if_pos h_52] at hQ
        refine r_ex 4 (pc' := 30) (lo' := [some (.inr (.inr (some 2))), some (.inr (.inr (some 100045))), some (.inl 1)]) (st' := [.inr (.inr (some 100045)), .inl 1]) rfl ?_
        refine r_call (rr := some (.inl 6)) (b' := 1) (v' := v) (m := 28) (args := [.inr (.inr (some 100045))]) (n' := 27) (pc' := 33) (lo' := [some (.inr (.inr (some 2))), some (.inr (.inr (some 100045))), some (.inl 1)]) (st' := [.inl 1]) (I := .invokevirtual 28) (pc0 := 30) (len := 3) rfl rfl rfl ⟨60, rfl⟩ ?_
        show WV _ _ _ 33 _ [.inl 6, .inl 1] _ _ _
        refine r_ex 7 (pc' := 46) (lo' := [some (.inr (.inr (some 2))), some (.inr (.inr (some 100045))), some (.inl 1)]) (st' := [.inl ((v 2 6) + 1), .inr (.inr (some 1))]) rfl ?_
        refine r_bald2 (x := (v 1 ((((v 2 6) + 1)).toNat))) (pc' := 47) (pc0 := 46) (len := 1) rfl (s_1 _) (Or.inl rfl) (by first | assumption | omega | (unfold R32 at *; omega) | (unfold R64 at *; omega) | (simp only [R32, R64] at *; omega)) (by decide) rfl rfl ?_
        have hb_5 : -128 ≤ (v 1 ((((v 2 6) + 1)).toNat)) ∧ (v 1 ((((v 2 6) + 1)).toNat)) ≤ 127 := hX 1 ((((v 2 6) + 1)).toNat)
        refine r_ex 2 (pc' := 49) (lo' := [some (.inr (.inr (some 2))), some (.inr (.inr (some 100045))), some (.inl 1)]) (st' := [.inl 1, .inr (.inr (some 100045)), .inl (v 1 ((((v 2 6) + 1)).toNat))]) rfl ?_
        refine r_call (rr := some (.inl 116)) (b' := 1) (v' := v) (m := 30) (args := [.inr (.inr (some 100045)), .inl 1]) (n' := 27) (pc' := 52) (lo' := [some (.inr (.inr (some 2))), some (.inr (.inr (some 100045))), some (.inl 1)]) (st' := [.inl (v 1 ((((v 2 6) + 1)).toNat))]) (I := .invokevirtual 30) (pc0 := 49) (len := 3) rfl rfl rfl ⟨60, rfl⟩ ?_
        show WV _ _ _ 52 _ [.inl 116, .inl (v 1 ((((v 2 6) + 1)).toNat))] _ _ _
        refine n_ic_eq (pc0 := 52) (len := 3) (t := 57) rfl (by first | assumption | omega | (unfold R32 at *; omega) | (unfold R64 at *; omega) | (simp only [R32, R64] at *; omega)) (by first | assumption | omega | (unfold R32 at *; omega) | (unfold R64 at *; omega) | (simp only [R32, R64] at *; omega)) (fun h_52 => ?_) (fun h_52 => ?_)
        · show WV _ _ _ 57 _ _ _ _ _
          rw [if_pos h_52] at hQ
          refine r_ex 4 (pc' := 30) (lo' := [some (.inr (.inr (some 2))), some (.inr (.inr (some 100045))), some (.inl 2)]) (st' := [.inr (.inr (some 100045)), .inl 2]) rfl ?_
          refine r_call (rr := some (.inl 6)) (b' := 1) (v' := v) (m := 28) (args := [.inr (.inr (some 100045))]) (n' := 27) (pc' := 33) (lo' := [some (.inr (.inr (some 2))), some (.inr (.inr (some 100045))), some (.inl 2)]) (st' := [.inl 2]) (I := .invokevirtual 28) (pc0 := 30) (len := 3) rfl rfl rfl ⟨60, rfl⟩ ?_
          show WV _ _ _ 33 _ [.inl 6, .inl 2] _ _ _
          refine r_ex 7 (pc' := 46) (lo' := [some (.inr (.inr (some 2))), some (.inr (.inr (some 100045))), some (.inl 2)]) (st' := [.inl ((v 2 6) + 2), .inr (.inr (some 1))]) rfl ?_
          refine r_bald2 (x := (v 1 ((((v 2 6) + 2)).toNat))) (pc' := 47) (pc0 := 46) (len := 1) rfl (s_1 _) (Or.inl rfl) (by first | assumption | omega | (unfold R32 at *; omega) | (unfold R64 at *; omega) | (simp only [R32, R64] at *; omega)) (by decide) rfl rfl ?_
          have hb_6 : -128 ≤ (v 1 ((((v 2 6) + 2)).toNat)) ∧ (v 1 ((((v 2 6) + 2)).toNat)) ≤ 127 := hX 1 ((((v 2 6) + 2)).toNat)
          refine r_ex 2 (pc' := 49) (lo' := [some (.inr (.inr (some 2))), some (.inr (.inr (some 100045))), some (.inl 2)]) (st' := [.inl 2, .inr (.inr (some 100045)), .inl (v 1 ((((v 2 6) + 2)).toNat))]) rfl ?_
          refine r_call (rr := some (.inl 97)) (b' := 1) (v' := v) (m := 30) (args := [.inr (.inr (some 100045)), .inl 2]) (n' := 27) (pc' := 52) (lo' := [some (.inr (.inr (some 2))), some (.inr (.inr (some 100045))), some (.inl 2)]) (st' := [.inl (v 1 ((((v 2 6) + 2)).toNat))]) (I := .invokevirtual 30) (pc0 := 49) (len := 3) rfl rfl rfl ⟨60, rfl⟩ ?_
          show WV _ _ _ 52 _ [.inl 97, .inl (v 1 ((((v 2 6) + 2)).toNat))] _ _ _
          refine n_ic_eq (pc0 := 52) (len := 3) (t := 57) rfl (by first | assumption | omega | (unfold R32 at *; omega) | (unfold R64 at *; omega) | (simp only [R32, R64] at *; omega)) (by first | assumption | omega | (unfold R32 at *; omega) | (unfold R64 at *; omega) | (simp only [R32, R64] at *; omega)) (fun h_52 => ?_) (fun h_52 => ?_)
          · show WV _ _ _ 57 _ _ _ _ _
            rw [if_pos h_52] at hQ
            refine r_ex 4 (pc' := 30) (lo' := [some (.inr (.inr (some 2))), some (.inr (.inr (some 100045))), some (.inl 3)]) (st' := [.inr (.inr (some 100045)), .inl 3]) rfl ?_
            refine r_call (rr := some (.inl 6)) (b' := 1) (v' := v) (m := 28) (args := [.inr (.inr (some 100045))]) (n' := 27) (pc' := 33) (lo' := [some (.inr (.inr (some 2))), some (.inr (.inr (some 100045))), some (.inl 3)]) (st' := [.inl 3]) (I := .invokevirtual 28) (pc0 := 30) (len := 3) rfl rfl rfl ⟨60, rfl⟩ ?_
            show WV _ _ _ 33 _ [.inl 6, .inl 3] _ _ _
            refine r_ex 7 (pc' := 46) (lo' := [some (.inr (.inr (some 2))), some (.inr (.inr (some 100045))), some (.inl 3)]) (st' := [.inl ((v 2 6) + 3), .inr (.inr (some 1))]) rfl ?_
            refine r_bald2 (x := (v 1 ((((v 2 6) + 3)).toNat))) (pc' := 47) (pc0 := 46) (len := 1) rfl (s_1 _) (Or.inl rfl) (by first | assumption | omega | (unfold R32 at *; omega) | (unfold R64 at *; omega) | (simp only [R32, R64] at *; omega)) (by decide) rfl rfl ?_
            have hb_7 : -128 ≤ (v 1 ((((v 2 6) + 3)).toNat)) ∧ (v 1 ((((v 2 6) + 3)).toNat)) ≤ 127 := hX 1 ((((v 2 6) + 3)).toNat)
            refine r_ex 2 (pc' := 49) (lo' := [some (.inr (.inr (some 2))), some (.inr (.inr (some 100045))), some (.inl 3)]) (st' := [.inl 3, .inr (.inr (some 100045)), .inl (v 1 ((((v 2 6) + 3)).toNat))]) rfl ?_
            refine r_call (rr := some (.inl 114)) (b' := 1) (v' := v) (m := 30) (args := [.inr (.inr (some 100045)), .inl 3]) (n' := 27) (pc' := 52) (lo' := [some (.inr (.inr (some 2))), some (.inr (.inr (some 100045))), some (.inl 3)]) (st' := [.inl (v 1 ((((v 2 6) + 3)).toNat))]) (I := .invokevirtual 30) (pc0 := 49) (len := 3) rfl rfl rfl ⟨60, rfl⟩ ?_
            show WV _ _ _ 52 _ [.inl 114, .inl (v 1 ((((v 2 6) + 3)).toNat))] _ _ _
            refine n_ic_eq (pc0 := 52) (len := 3) (t := 57) rfl (by first | assumption | omega | (unfold R32 at *; omega) | (unfold R64 at *; omega) | (simp only [R32, R64] at *; omega)) (by first | assumption | omega | (unfold R32 at *; omega) | (unfold R64 at *; omega) | (simp only [R32, R64] at *; omega)) (fun h_52 => ?_) (fun h_52 => ?_)
            · show WV _ _ _ 57 _ _ _ _ _
              rw [if_pos h_52] at hQ
              refine r_ex 4 (pc' := 30) (lo' := [some (.inr (.inr (some 2))), some (.inr (.inr (some 100045))), some (.inl 4)]) (st' := [.inr (.inr (some 100045)), .inl 4]) rfl ?_
              refine r_call (rr := some (.inl 6)) (b' := 1) (v' := v) (m := 28) (args := [.inr (.inr (some 100045))]) (n' := 27) (pc' := 33) (lo' := [some (.inr (.inr (some 2))), some (.inr (.inr (some 100045))), some (.inl 4)]) (st' := [.inl 4]) (I := .invokevirtual 28) (pc0 := 30) (len := 3) rfl rfl rfl ⟨60, rfl⟩ ?_
              show WV _ _ _ 33 _ [.inl 6, .inl 4] _ _ _
              refine r_ex 7 (pc' := 46) (lo' := [some (.inr (.inr (some 2))), some (.inr (.inr (some 100045))), some (.inl 4)]) (st' := [.inl ((v 2 6) + 4), .inr (.inr (some 1))]) rfl ?_
              refine r_bald2 (x := (v 1 ((((v 2 6) + 4)).toNat))) (pc' := 47) (pc0 := 46) (len := 1) rfl (s_1 _) (Or.inl rfl) (by first | assumption | omega | (unfold R32 at *; omega) | (unfold R64 at *; omega) | (simp only [R32, R64] at *; omega)) (by decide) rfl rfl ?_
              have hb_8 : -128 ≤ (v 1 ((((v 2 6) + 4)).toNat)) ∧ (v 1 ((((v 2 6) + 4)).toNat)) ≤ 127 := hX 1 ((((v 2 6) + 4)).toNat)
              refine r_ex 2 (pc' := 49) (lo' := [some (.inr (.inr (some 2))), some (.inr (.inr (some 100045))), some (.inl 4)]) (st' := [.inl 4, .inr (.inr (some 100045)), .inl (v 1 ((((v 2 6) + 4)).toNat))]) rfl ?_
              refine r_call (rr := some (.inl 116)) (b' := 1) (v' := v) (m := 30) (args := [.inr (.inr (some 100045)), .inl 4]) (n' := 27) (pc' := 52) (lo' := [some (.inr (.inr (some 2))), some (.inr (.inr (some 100045))), some (.inl 4)]) (st' := [.inl (v 1 ((((v 2 6) + 4)).toNat))]) (I := .invokevirtual 30) (pc0 := 49) (len := 3) rfl rfl rfl ⟨60, rfl⟩ ?_
              show WV _ _ _ 52 _ [.inl 116, .inl (v 1 ((((v 2 6) + 4)).toNat))] _ _ _
              refine n_ic_eq (pc0 := 52) (len := 3) (t := 57) rfl (by first | assumption | omega | (unfold R32 at *; omega) | (unfold R64 at *; omega) | (simp only [R32, R64] at *; omega)) (by first | assumption | omega | (unfold R32 at *; omega) | (unfold R64 at *; omega) | (simp only [R32, R64] at *; omega)) (fun h_52 => ?_) (fun h_52 => ?_)
              · show WV _ _ _ 57 _ _ _ _ _
                rw [if_pos h_52] at hQ
                refine r_ex 4 (pc' := 30) (lo' := [some (.inr (.inr (some 2))), some (.inr (.inr (some 100045))), some (.inl 5)]) (st' := [.inr (.inr (some 100045)), .inl 5]) rfl ?_
                refine r_call (rr := some (.inl 6)) (b' := 1) (v' := v) (m := 28) (args := [.inr (.inr (some 100045))]) (n' := 27) (pc' := 33) (lo' := [some (.inr (.inr (some 2))), some (.inr (.inr (some 100045))), some (.inl 5)]) (st' := [.inl 5]) (I := .invokevirtual 28) (pc0 := 30) (len := 3) rfl rfl rfl ⟨60, rfl⟩ ?_
                show WV _ _ _ 33 _ [.inl 6, .inl 5] _ _ _
                refine r_ex 7 (pc' := 46) (lo' := [some (.inr (.inr (some 2))), some (.inr (.inr (some 100045))), some (.inl 5)]) (st' := [.inl ((v 2 6) + 5), .inr (.inr (some 1))]) rfl ?_
                refine r_bald2 (x := (v 1 ((((v 2 6) + 5)).toNat))) (pc' := 47) (pc0 := 46) (len := 1) rfl (s_1 _) (Or.inl rfl) (by first | assumption | omega | (unfold R32 at *; omega) | (unfold R64 at *; omega) | (simp only [R32, R64] at *; omega)) (by decide) rfl rfl ?_
                have hb_9 : -128 ≤ (v 1 ((((v 2 6) + 5)).toNat)) ∧ (v 1 ((((v 2 6) + 5)).toNat)) ≤ 127 := hX 1 ((((v 2 6) + 5)).toNat)
                refine r_ex 2 (pc' := 49) (lo' := [some (.inr (.inr (some 2))), some (.inr (.inr (some 100045))), some (.inl 5)]) (st' := [.inl 5, .inr (.inr (some 100045)), .inl (v 1 ((((v 2 6) + 5)).toNat))]) rfl ?_
                refine r_call (rr := some (.inl 115)) (b' := 1) (v' := v) (m := 30) (args := [.inr (.inr (some 100045)), .inl 5]) (n' := 27) (pc' := 52) (lo' := [some (.inr (.inr (some 2))), some (.inr (.inr (some 100045))), some (.inl 5)]) (st' := [.inl (v 1 ((((v 2 6) + 5)).toNat))]) (I := .invokevirtual 30) (pc0 := 49) (len := 3) rfl rfl rfl ⟨60, rfl⟩ ?_
                show WV _ _ _ 52 _ [.inl 115, .inl (v 1 ((((v 2 6) + 5)).toNat))] _ _ _
                refine n_ic_eq (pc0 := 52) (len := 3) (t := 57) rfl (by first | assumption | omega | (unfold R32 at *; omega) | (unfold R64 at *; omega) | (simp only [R32, R64] at *; omega)) (by first | assumption | omega | (unfold R32 at *; omega) | (unfold R64 at *; omega) | (simp only [R32, R64] at *; omega)) (fun h_52 => ?_) (fun h_52 => ?_)
                · show WV _ _ _ 57 _ _ _ _ _
                  rw [if_pos h_52] at hQ
                  refine r_ex 4 (pc' := 30) (lo' := [some (.inr (.inr (some 2))), some (.inr (.inr (some 100045))), some (.inl 6)]) (st' := [.inr (.inr (some 100045)), .inl 6]) rfl ?_
                  refine r_call (rr := some (.inl 6)) (b' := 1) (v' := v) (m := 28) (args := [.inr (.inr (some 100045))]) (n' := 27) (pc' := 33) (lo' := [some (.inr (.inr (some 2))), some (.inr (.inr (some 100045))), some (.inl 6)]) (st' := [.inl 6]) (I := .invokevirtual 28) (pc0 := 30) (len := 3) rfl rfl rfl ⟨60, rfl⟩ ?_
                  show WV _ _ _ 33 _ [.inl 6, .inl 6] _ _ _
                  refine r_ex 2 (pc' := 64) (lo' := [some (.inr (.inr (some 2))), some (.inr (.inr (some 100045))), some (.inl 6)]) (st' := [.inl 1]) rfl ?_
                  refine r_ret (rr := some (.inl 1)) (I := .ireturn) (pc0 := 64) (len := 1) rfl rfl ?_
                  exact hQ (by first | assumption | omega | (unfold R32 at *; omega) | (unfold R64 at *; omega) | (simp only [R32, R64] at *; omega))
                · show WV _ _ _ 55 _ _ _ _ _
                  rw [if_neg h_52] at hQ
                  refine r_ex 1 (pc' := 56) (lo' := [some (.inr (.inr (some 2))), some (.inr (.inr (some 100045))), some (.inl 5)]) (st' := [.inl 0]) rfl ?_
                  refine r_ret (rr := some (.inl 0)) (I := .ireturn) (pc0 := 56) (len := 1) rfl rfl ?_
                  exact hQ (by first | assumption | omega | (unfold R32 at *; omega) | (unfold R64 at *; omega) | (simp only [R32, R64] at *; omega))
              · show WV _ _ _ 55 _ _ _ _ _
                rw [if_neg h_52] at hQ
                refine r_ex 1 (pc' := 56) (lo' := [some (.inr (.inr (some 2))), some (.inr (.inr (some 100045))), some (.inl 4)]) (st' := [.inl 0]) rfl ?_
                refine r_ret (rr := some (.inl 0)) (I := .ireturn) (pc0 := 56) (len := 1) rfl rfl ?_
                exact hQ (by first | assumption | omega | (unfold R32 at *; omega) | (unfold R64 at *; omega) | (simp only [R32, R64] at *; omega))
            · show WV _ _ _ 55 _ _ _ _ _
              rw [if_neg h_52] at hQ
              refine r_ex 1 (pc' := 56) (lo' := [some (.inr (.inr (some 2))), some (.inr (.inr (some 100045))), some (.inl 3)]) (st' := [.inl 0]) rfl ?_
              refine r_ret (rr := some (.inl 0)) (I := .ireturn) (pc0 := 56) (len := 1) rfl rfl ?_
              exact hQ (by first | assumption | omega | (unfold R32 at *; omega) | (unfold R64 at *; omega) | (simp only [R32, R64] at *; omega))
          · show WV _ _ _ 55 _ _ _ _ _
            rw [if_neg h_52] at hQ
            refine r_ex 1 (pc' := 56) (lo' := [some (.inr (.inr (some 2))), some (.inr (.inr (some 100045))), some (.inl 2)]) (st' := [.inl 0]) rfl ?_
            refine r_ret (rr := some (.inl 0)) (I := .ireturn) (pc0 := 56) (len := 1) rfl rfl ?_
            exact hQ (by first | assumption | omega | (unfold R32 at *; omega) | (unfold R64 at *; omega) | (simp only [R32, R64] at *; omega))
        · show WV _ _ _ 55 _ _ _ _ _
          rw [if_neg h_52] at hQ
          refine r_ex 1 (pc' := 56) (lo' := [some (.inr (.inr (some 2))), some (.inr (.inr (some 100045))), some (.inl 1)]) (st' := [.inl 0]) rfl ?_
          refine r_ret (rr := some (.inl 0)) (I := .ireturn) (pc0 := 56) (len := 1) rfl rfl ?_
          exact hQ (by first | assumption | omega | (unfold R32 at *; omega) | (unfold R64 at *; omega) | (simp only [R32, R64] at *; omega))
      · show WV _ _ _ 55 _ _ _ _ _
        rw [if_neg h_52] at hQ
        refine r_ex 1 (pc' := 56) (lo' := [some (.inr (.inr (some 2))), some (.inr (.inr (some 100045))), some (.inl 0)]) (st' := [.inl 0]) rfl ?_
        refine r_ret (rr := some (.inl 0)) (I := .ireturn) (pc0 := 56) (len := 1) rfl rfl ?_
        exact hQ (by first | assumption | omega | (unfold R32 at *; omega) | (unfold R64 at *; omega) | (simp only [R32, R64] at *; omega))
    · show WV _ _ _ 24 _ _ _ _ _
      rw [if_neg h_21] at hQ
      refine r_ex 1 (pc' := 25) (lo' := [some (.inr (.inr (some 2))), some (.inr (.inr (some 100045))), none]) (st' := [.inl 0]) rfl ?_
      refine r_ret (rr := some (.inl 0)) (I := .ireturn) (pc0 := 25) (len := 1) rfl rfl ?_
      exact hQ (by first | assumption | omega | (unfold R32 at *; omega) | (unfold R64 at *; omega) | (simp only [R32, R64] at *; omega))

theorem e_cl_isAt22 {X : PX} {d : Nat} {v : VS}  (hX : XI v) (hp_a : (v 2 7) ≤ (v 2 4)) : EvV X (d + 1 + 1 + 1 + 1) 27 [.inr (.inr (some 2)), .inr (.inr (some 100045))] 1 v (some (.inl (cl_isAt22 v))) 1 v := EvV.of (w_cl_isAt22 hX hp_a (fun _ => ⟨rfl, rfl, rfl⟩))

theorem n_cl_isAt22 {v : VS}  (hX : XI v) (hp_a : (v 2 7) ≤ (v 2 4)) : 0 ≤ (cl_isAt22 v) ∧ (cl_isAt22 v) ≤ 1 := by
  have q : WV (0, fun _ => 0, none) (0 + 1 + 1 + 1 + 1) 27 0 [some (.inr (.inr (some 2))), some (.inr (.inr (some 100045))), none] [] 1 v (fun _ _ _ => 0 ≤ (cl_isAt22 v) ∧ (cl_isAt22 v) ≤ 1) := w_cl_isAt22 (X := (0, fun _ => 0, none)) (d := 0) hX hp_a (fun q => q)
  obtain ⟨_, _, _, _, _, _, _, q⟩ := q
  exact q

def cl_isAt23 (v : VS)  : Int :=
  (if (v 2 5) = 1 then (if 4 = ((v 2 7) - (v 2 6)) then (if (v 1 ((((v 2 6) + 0)).toNat)) = 104 then (if (v 1 ((((v 2 6) + 1)).toNat)) = 111 then (if (v 1 ((((v 2 6) + 2)).toNat)) = 117 then (if (v 1 ((((v 2 6) + 3)).toNat)) = 114 then 1 else 0) else 0) else 0) else 0) else 0) else 0)
theorem w_cl_isAt23 {X : PX} {d : Nat} {v : VS}  (hX : XI v) (hp_a : (v 2 7) ≤ (v 2 4)) {Q : Option PV → Nat → VS → Prop} (hQ : (0 ≤ (cl_isAt23 v) ∧ (cl_isAt23 v) ≤ 1) → Q (some (.inl (cl_isAt23 v))) 1 v) : WV X (d + 1 + 1 + 1 + 1) 27 0 [some (.inr (.inr (some 2))), some (.inr (.inr (some 100047))), none] [] 1 v Q := by
  rw [cl_isAt23] at hQ
  have hz6 : 0 ≤ v 2 6 ∧ v 2 6 ≤ 2000 := hX 2 6
  have hz7 : 0 ≤ v 2 7 ∧ v 2 7 ≤ 2001 := hX 2 7
  have hz4 : 0 ≤ v 2 4 ∧ v 2 4 ≤ 2000 := hX 2 4
  refine r_ex 3 (pc' := 5) (lo' := [some (.inr (.inr (some 2))), some (.inr (.inr (some 100047))), none]) (st' := [.inl 1, .inl (v 2 5)]) rfl ?_
  have hb_1 : 0 ≤ (v 2 5) ∧ (v 2 5) ≤ 4 := hX 2 5
  refine n_ic_ne (pc0 := 5) (len := 3) (t := 24) rfl (by first | assumption | omega | (unfold R32 at *; omega) | (unfold R64 at *; omega) | (simp only [R32, R64] at *; omega)) (by first | assumption | omega | (unfold R32 at *; omega) | (unfold R64 at *; omega) | (simp only [R32, R64] at *; omega)) (fun h_5 => ?_) (fun h_5 => ?_)
  · show WV _ _ _ 24 _ _ _ _ _
    rw [if_neg h_5] at hQ
    refine r_ex 1 (pc' := 25) (lo' := [some (.inr (.inr (some 2))), some (.inr (.inr (some 100047))), none]) (st' := [.inl 0]) rfl ?_
    refine r_ret (rr := some (.inl 0)) (I := .ireturn) (pc0 := 25) (len := 1) rfl rfl ?_
    exact hQ (by first | assumption | omega | (unfold R32 at *; omega) | (unfold R64 at *; omega) | (simp only [R32, R64] at *; omega))
  · show WV _ _ _ 8 _ _ _ _ _
    rw [if_pos h_5] at hQ
    refine r_ex 1 (pc' := 9) (lo' := [some (.inr (.inr (some 2))), some (.inr (.inr (some 100047))), none]) (st' := [.inr (.inr (some 100047))]) rfl ?_
    refine r_call (rr := some (.inl 4)) (b' := 1) (v' := v) (m := 28) (args := [.inr (.inr (some 100047))]) (n' := 27) (pc' := 12) (lo' := [some (.inr (.inr (some 2))), some (.inr (.inr (some 100047))), none]) (st' := []) (I := .invokevirtual 28) (pc0 := 9) (len := 3) rfl rfl rfl ⟨60, rfl⟩ ?_
    show WV _ _ _ 12 _ [.inl 4] _ _ _
    refine r_ex 5 (pc' := 21) (lo' := [some (.inr (.inr (some 2))), some (.inr (.inr (some 100047))), none]) (st' := [.inl ((v 2 7) - (v 2 6)), .inl 4]) rfl ?_
    have hb_2 : 0 ≤ (v 2 7) ∧ (v 2 7) ≤ 2001 := hX 2 7
    have hb_3 : 0 ≤ (v 2 6) ∧ (v 2 6) ≤ 2000 := hX 2 6
    refine n_ic_eq (pc0 := 21) (len := 3) (t := 26) rfl (by first | assumption | omega | (unfold R32 at *; omega) | (unfold R64 at *; omega) | (simp only [R32, R64] at *; omega)) (by first | assumption | omega | (unfold R32 at *; omega) | (unfold R64 at *; omega) | (simp only [R32, R64] at *; omega)) (fun h_21 => ?_) (fun h_21 => ?_)
    · show WV _ _ _ 26 _ _ _ _ _
      rw [if_pos h_21] at hQ
      refine r_ex 4 (pc' := 30) (lo' := [some (.inr (.inr (some 2))), some (.inr (.inr (some 100047))), some (.inl 0)]) (st' := [.inr (.inr (some 100047)), .inl 0]) rfl ?_
      refine r_call (rr := some (.inl 4)) (b' := 1) (v' := v) (m := 28) (args := [.inr (.inr (some 100047))]) (n' := 27) (pc' := 33) (lo' := [some (.inr (.inr (some 2))), some (.inr (.inr (some 100047))), some (.inl 0)]) (st' := [.inl 0]) (I := .invokevirtual 28) (pc0 := 30) (len := 3) rfl rfl rfl ⟨60, rfl⟩ ?_
      show WV _ _ _ 33 _ [.inl 4, .inl 0] _ _ _
      refine r_ex 7 (pc' := 46) (lo' := [some (.inr (.inr (some 2))), some (.inr (.inr (some 100047))), some (.inl 0)]) (st' := [.inl ((v 2 6) + 0), .inr (.inr (some 1))]) rfl ?_
      refine r_bald2 (x := (v 1 ((((v 2 6) + 0)).toNat))) (pc' := 47) (pc0 := 46) (len := 1) rfl (s_1 _) (Or.inl rfl) (by first | assumption | omega | (unfold R32 at *; omega) | (unfold R64 at *; omega) | (simp only [R32, R64] at *; omega)) (by decide) rfl rfl ?_
      have hb_4 : -128 ≤ (v 1 ((((v 2 6) + 0)).toNat)) ∧ (v 1 ((((v 2 6) + 0)).toNat)) ≤ 127 := hX 1 ((((v 2 6) + 0)).toNat)
      refine r_ex 2 (pc' := 49) (lo' := [some (.inr (.inr (some 2))), some (.inr (.inr (some 100047))), some (.inl 0)]) (st' := [.inl 0, .inr (.inr (some 100047)), .inl (v 1 ((((v 2 6) + 0)).toNat))]) rfl ?_
      refine r_call (rr := some (.inl 104)) (b' := 1) (v' := v) (m := 30) (args := [.inr (.inr (some 100047)), .inl 0]) (n' := 27) (pc' := 52) (lo' := [some (.inr (.inr (some 2))), some (.inr (.inr (some 100047))), some (.inl 0)]) (st' := [.inl (v 1 ((((v 2 6) + 0)).toNat))]) (I := .invokevirtual 30) (pc0 := 49) (len := 3) rfl rfl rfl ⟨60, rfl⟩ ?_
      show WV _ _ _ 52 _ [.inl 104, .inl (v 1 ((((v 2 6) + 0)).toNat))] _ _ _
      refine n_ic_eq (pc0 := 52) (len := 3) (t := 57) rfl (by first | assumption | omega | (unfold R32 at *; omega) | (unfold R64 at *; omega) | (simp only [R32, R64] at *; omega)) (by first | assumption | omega | (unfold R32 at *; omega) | (unfold R64 at *; omega) | (simp only [R32, R64] at *; omega)) (fun h_52 => ?_) (fun h_52 => ?_)
      · show WV _ _ _ 57 _ _ _ _ _
        rw [if_pos h_52] at hQ
        refine r_ex 4 (pc' := 30) (lo' := [some (.inr (.inr (some 2))), some (.inr (.inr (some 100047))), some (.inl 1)]) (st' := [.inr (.inr (some 100047)), .inl 1]) rfl ?_
        refine r_call (rr := some (.inl 4)) (b' := 1) (v' := v) (m := 28) (args := [.inr (.inr (some 100047))]) (n' := 27) (pc' := 33) (lo' := [some (.inr (.inr (some 2))), some (.inr (.inr (some 100047))), some (.inl 1)]) (st' := [.inl 1]) (I := .invokevirtual 28) (pc0 := 30) (len := 3) rfl rfl rfl ⟨60, rfl⟩ ?_
        show WV _ _ _ 33 _ [.inl 4, .inl 1] _ _ _
        refine r_ex 7 (pc' := 46) (lo' := [some (.inr (.inr (some 2))), some (.inr (.inr (some 100047))), some (.inl 1)]) (st' := [.inl ((v 2 6) + 1), .inr (.inr (some 1))]) rfl ?_
        refine r_bald2 (x := (v 1 ((((v 2 6) + 1)).toNat))) (pc' := 47) (pc0 := 46) (len := 1) rfl (s_1 _) (Or.inl rfl) (by first | assumption | omega | (unfold R32 at *; omega) | (unfold R64 at *; omega) | (simp only [R32, R64] at *; omega)) (by decide) rfl rfl ?_
        have hb_5 : -128 ≤ (v 1 ((((v 2 6) + 1)).toNat)) ∧ (v 1 ((((v 2 6) + 1)).toNat)) ≤ 127 := hX 1 ((((v 2 6) + 1)).toNat)
        refine r_ex 2 (pc' := 49) (lo' := [some (.inr (.inr (some 2))), some (.inr (.inr (some 100047))), some (.inl 1)]) (st' := [.inl 1, .inr (.inr (some 100047)), .inl (v 1 ((((v 2 6) + 1)).toNat))]) rfl ?_
        refine r_call (rr := some (.inl 111)) (b' := 1) (v' := v) (m := 30) (args := [.inr (.inr (some 100047)), .inl 1]) (n' := 27) (pc' := 52) (lo' := [some (.inr (.inr (some 2))), some (.inr (.inr (some 100047))), some (.inl 1)]) (st' := [.inl (v 1 ((((v 2 6) + 1)).toNat))]) (I := .invokevirtual 30) (pc0 := 49) (len := 3) rfl rfl rfl ⟨60, rfl⟩ ?_
        show WV _ _ _ 52 _ [.inl 111, .inl (v 1 ((((v 2 6) + 1)).toNat))] _ _ _
        refine n_ic_eq (pc0 := 52) (len := 3) (t := 57) rfl (by first | assumption | omega | (unfold R32 at *; omega) | (unfold R64 at *; omega) | (simp only [R32, R64] at *; omega)) (by first | assumption | omega | (unfold R32 at *; omega) | (unfold R64 at *; omega) | (simp only [R32, R64] at *; omega)) (fun h_52 => ?_) (fun h_52 => ?_)
        · show WV _ _ _ 57 _ _ _ _ _
          rw [if_pos h_52] at hQ
          refine r_ex 4 (pc' := 30) (lo' := [some (.inr (.inr (some 2))), some (.inr (.inr (some 100047))), some (.inl 2)]) (st' := [.inr (.inr (some 100047)), .inl 2]) rfl ?_
          refine r_call (rr := some (.inl 4)) (b' := 1) (v' := v) (m := 28) (args := [.inr (.inr (some 100047))]) (n' := 27) (pc' := 33) (lo' := [some (.inr (.inr (some 2))), some (.inr (.inr (some 100047))), some (.inl 2)]) (st' := [.inl 2]) (I := .invokevirtual 28) (pc0 := 30) (len := 3) rfl rfl rfl ⟨60, rfl⟩ ?_
          show WV _ _ _ 33 _ [.inl 4, .inl 2] _ _ _
          refine r_ex 7 (pc' := 46) (lo' := [some (.inr (.inr (some 2))), some (.inr (.inr (some 100047))), some (.inl 2)]) (st' := [.inl ((v 2 6) + 2), .inr (.inr (some 1))]) rfl ?_
          refine r_bald2 (x := (v 1 ((((v 2 6) + 2)).toNat))) (pc' := 47) (pc0 := 46) (len := 1) rfl (s_1 _) (Or.inl rfl) (by first | assumption | omega | (unfold R32 at *; omega) | (unfold R64 at *; omega) | (simp only [R32, R64] at *; omega)) (by decide) rfl rfl ?_
          have hb_6 : -128 ≤ (v 1 ((((v 2 6) + 2)).toNat)) ∧ (v 1 ((((v 2 6) + 2)).toNat)) ≤ 127 := hX 1 ((((v 2 6) + 2)).toNat)
          refine r_ex 2 (pc' := 49) (lo' := [some (.inr (.inr (some 2))), some (.inr (.inr (some 100047))), some (.inl 2)]) (st' := [.inl 2, .inr (.inr (some 100047)), .inl (v 1 ((((v 2 6) + 2)).toNat))]) rfl ?_
          refine r_call (rr := some (.inl 117)) (b' := 1) (v' := v) (m := 30) (args := [.inr (.inr (some 100047)), .inl 2]) (n' := 27) (pc' := 52) (lo' := [some (.inr (.inr (some 2))), some (.inr (.inr (some 100047))), some (.inl 2)]) (st' := [.inl (v 1 ((((v 2 6) + 2)).toNat))]) (I := .invokevirtual 30) (pc0 := 49) (len := 3) rfl rfl rfl ⟨60, rfl⟩ ?_
          show WV _ _ _ 52 _ [.inl 117, .inl (v 1 ((((v 2 6) + 2)).toNat))] _ _ _
          refine n_ic_eq (pc0 := 52) (len := 3) (t := 57) rfl (by first | assumption | omega | (unfold R32 at *; omega) | (unfold R64 at *; omega) | (simp only [R32, R64] at *; omega)) (by first | assumption | omega | (unfold R32 at *; omega) | (unfold R64 at *; omega) | (simp only [R32, R64] at *; omega)) (fun h_52 => ?_) (fun h_52 => ?_)
          · show WV _ _ _ 57 _ _ _ _ _
            rw [if_pos h_52] at hQ
            refine r_ex 4 (pc' := 30) (lo' := [some (.inr (.inr (some 2))), some (.inr (.inr (some 100047))), some (.inl 3)]) (st' := [.inr (.inr (some 100047)), .inl 3]) rfl ?_
            refine r_call (rr := some (.inl 4)) (b' := 1) (v' := v) (m := 28) (args := [.inr (.inr (some 100047))]) (n' := 27) (pc' := 33) (lo' := [some (.inr (.inr (some 2))), some (.inr (.inr (some 100047))), some (.inl 3)]) (st' := [.inl 3]) (I := .invokevirtual 28) (pc0 := 30) (len := 3) rfl rfl rfl ⟨60, rfl⟩ ?_
            show WV _ _ _ 33 _ [.inl 4, .inl 3] _ _ _
            refine r_ex 7 (pc' := 46) (lo' := [some (.inr (.inr (some 2))), some (.inr (.inr (some 100047))), some (.inl 3)]) (st' := [.inl ((v 2 6) + 3), .inr (.inr (some 1))]) rfl ?_
            refine r_bald2 (x := (v 1 ((((v 2 6) + 3)).toNat))) (pc' := 47) (pc0 := 46) (len := 1) rfl (s_1 _) (Or.inl rfl) (by first | assumption | omega | (unfold R32 at *; omega) | (unfold R64 at *; omega) | (simp only [R32, R64] at *; omega)) (by decide) rfl rfl ?_
            have hb_7 : -128 ≤ (v 1 ((((v 2 6) + 3)).toNat)) ∧ (v 1 ((((v 2 6) + 3)).toNat)) ≤ 127 := hX 1 ((((v 2 6) + 3)).toNat)
            refine r_ex 2 (pc' := 49) (lo' := [some (.inr (.inr (some 2))), some (.inr (.inr (some 100047))), some (.inl 3)]) (st' := [.inl 3, .inr (.inr (some 100047)), .inl (v 1 ((((v 2 6) + 3)).toNat))]) rfl ?_
            refine r_call (rr := some (.inl 114)) (b' := 1) (v' := v) (m := 30) (args := [.inr (.inr (some 100047)), .inl 3]) (n' := 27) (pc' := 52) (lo' := [some (.inr (.inr (some 2))), some (.inr (.inr (some 100047))), some (.inl 3)]) (st' := [.inl (v 1 ((((v 2 6) + 3)).toNat))]) (I := .invokevirtual 30) (pc0 := 49) (len := 3) rfl rfl rfl ⟨60, rfl⟩ ?_
            show WV _ _ _ 52 _ [.inl 114, .inl (v 1 ((((v 2 6) + 3)).toNat))] _ _ _
            refine n_ic_eq (pc0 := 52) (len := 3) (t := 57) rfl (by first | assumption | omega | (unfold R32 at *; omega) | (unfold R64 at *; omega) | (simp only [R32, R64] at *; omega)) (by first | assumption | omega | (unfold R32 at *; omega) | (unfold R64 at *; omega) | (simp only [R32, R64] at *; omega)) (fun h_52 => ?_) (fun h_52 => ?_)
            · show WV _ _ _ 57 _ _ _ _ _
              rw [if_pos h_52] at hQ
              refine r_ex 4 (pc' := 30) (lo' := [some (.inr (.inr (some 2))), some (.inr (.inr (some 100047))), some (.inl 4)]) (st' := [.inr (.inr (some 100047)), .inl 4]) rfl ?_
              refine r_call (rr := some (.inl 4)) (b' := 1) (v' := v) (m := 28) (args := [.inr (.inr (some 100047))]) (n' := 27) (pc' := 33) (lo' := [some (.inr (.inr (some 2))), some (.inr (.inr (some 100047))), some (.inl 4)]) (st' := [.inl 4]) (I := .invokevirtual 28) (pc0 := 30) (len := 3) rfl rfl rfl ⟨60, rfl⟩ ?_
              show WV _ _ _ 33 _ [.inl 4, .inl 4] _ _ _
              refine r_ex 2 (pc' := 64) (lo' := [some (.inr (.inr (some 2))), some (.inr (.inr (some 100047))), some (.inl 4)]) (st' := [.inl 1]) rfl ?_
              refine r_ret (rr := some (.inl 1)) (I := .ireturn) (pc0 := 64) (len := 1) rfl rfl ?_
              exact hQ (by first | assumption | omega | (unfold R32 at *; omega) | (unfold R64 at *; omega) | (simp only [R32, R64] at *; omega))
            · show WV _ _ _ 55 _ _ _ _ _
              rw [if_neg h_52] at hQ
              refine r_ex 1 (pc' := 56) (lo' := [some (.inr (.inr (some 2))), some (.inr (.inr (some 100047))), some (.inl 3)]) (st' := [.inl 0]) rfl ?_
              refine r_ret (rr := some (.inl 0)) (I := .ireturn) (pc0 := 56) (len := 1) rfl rfl ?_
              exact hQ (by first | assumption | omega | (unfold R32 at *; omega) | (unfold R64 at *; omega) | (simp only [R32, R64] at *; omega))
          · show WV _ _ _ 55 _ _ _ _ _
            rw [if_neg h_52] at hQ
            refine r_ex 1 (pc' := 56) (lo' := [some (.inr (.inr (some 2))), some (.inr (.inr (some 100047))), some (.inl 2)]) (st' := [.inl 0]) rfl ?_
            refine r_ret (rr := some (.inl 0)) (I := .ireturn) (pc0 := 56) (len := 1) rfl rfl ?_
            exact hQ (by first | assumption | omega | (unfold R32 at *; omega) | (unfold R64 at *; omega) | (simp only [R32, R64] at *; omega))
        · show WV _ _ _ 55 _ _ _ _ _
          rw [if_neg h_52] at hQ
          refine r_ex 1 (pc' := 56) (lo' := [some (.inr (.inr (some 2))), some (.inr (.inr (some 100047))), some (.inl 1)]) (st' := [.inl 0]) rfl ?_
          refine r_ret (rr := some (.inl 0)) (I := .ireturn) (pc0 := 56) (len := 1) rfl rfl ?_
          exact hQ (by first | assumption | omega | (unfold R32 at *; omega) | (unfold R64 at *; omega) | (simp only [R32, R64] at *; omega))
      · show WV _ _ _ 55 _ _ _ _ _
        rw [if_neg h_52] at hQ
        refine r_ex 1 (pc' := 56) (lo' := [some (.inr (.inr (some 2))), some (.inr (.inr (some 100047))), some (.inl 0)]) (st' := [.inl 0]) rfl ?_
        refine r_ret (rr := some (.inl 0)) (I := .ireturn) (pc0 := 56) (len := 1) rfl rfl ?_
        exact hQ (by first | assumption | omega | (unfold R32 at *; omega) | (unfold R64 at *; omega) | (simp only [R32, R64] at *; omega))
    · show WV _ _ _ 24 _ _ _ _ _
      rw [if_neg h_21] at hQ
      refine r_ex 1 (pc' := 25) (lo' := [some (.inr (.inr (some 2))), some (.inr (.inr (some 100047))), none]) (st' := [.inl 0]) rfl ?_
      refine r_ret (rr := some (.inl 0)) (I := .ireturn) (pc0 := 25) (len := 1) rfl rfl ?_
      exact hQ (by first | assumption | omega | (unfold R32 at *; omega) | (unfold R64 at *; omega) | (simp only [R32, R64] at *; omega))

theorem e_cl_isAt23 {X : PX} {d : Nat} {v : VS}  (hX : XI v) (hp_a : (v 2 7) ≤ (v 2 4)) : EvV X (d + 1 + 1 + 1 + 1) 27 [.inr (.inr (some 2)), .inr (.inr (some 100047))] 1 v (some (.inl (cl_isAt23 v))) 1 v := EvV.of (w_cl_isAt23 hX hp_a (fun _ => ⟨rfl, rfl, rfl⟩))

theorem n_cl_isAt23 {v : VS}  (hX : XI v) (hp_a : (v 2 7) ≤ (v 2 4)) : 0 ≤ (cl_isAt23 v) ∧ (cl_isAt23 v) ≤ 1 := by
  have q : WV (0, fun _ => 0, none) (0 + 1 + 1 + 1 + 1) 27 0 [some (.inr (.inr (some 2))), some (.inr (.inr (some 100047))), none] [] 1 v (fun _ _ _ => 0 ≤ (cl_isAt23 v) ∧ (cl_isAt23 v) ≤ 1) := w_cl_isAt23 (X := (0, fun _ => 0, none)) (d := 0) hX hp_a (fun q => q)
  obtain ⟨_, _, _, _, _, _, _, q⟩ := q
  exact q

def cl_word23 (v : VS)  : VS :=
  (if (v 2 1) = 0 then (if (cl_isAt23 v) = 0 then (cl_fail v 1) else (cl_advance v)) else (cl_fail v 1))
theorem w_cl_word23 {X : PX} {d : Nat} {v : VS}  (hX : XI v) (hp_a : (v 2 7) ≤ (v 2 4)) {Q : Option PV → Nat → VS → Prop} (hQ : XI (cl_word23 v) → (((cl_word23 v) 2 7) ≤ ((cl_word23 v) 2 4)) → Q none 1 (cl_word23 v)) : WV X (d + 1 + 1 + 1 + 1 + 1) 26 0 [some (.inr (.inr (some 2))), some (.inr (.inr (some 100047)))] [] 1 v Q := by
  rw [cl_word23] at hQ
  refine r_ex 2 (pc' := 4) (lo' := [some (.inr (.inr (some 2))), some (.inr (.inr (some 100047)))]) (st' := [.inl (v 2 1)]) rfl ?_
  have hb_1 : 0 ≤ (v 2 1) ∧ (v 2 1) ≤ 3 := hX 2 1
  refine n_if_ne (pc0 := 4) (len := 3) (t := 22) rfl (by first | assumption | omega | (unfold R32 at *; omega) | (unfold R64 at *; omega) | (simp only [R32, R64] at *; omega)) (fun h_4 => ?_) (fun h_4 => ?_)
  · show WV _ _ _ 22 _ _ _ _ _
    rw [if_neg h_4] at hQ
    refine r_ex 2 (pc' := 24) (lo' := [some (.inr (.inr (some 2))), some (.inr (.inr (some 100047)))]) (st' := [.inl 1, .inr (.inr (some 2))]) rfl ?_
    have hp_2 : 1 ≤ (1 : Int) ∧ (1 : Int) ≤ 3 := (by first | assumption | omega | (unfold R32 at *; omega) | (unfold R64 at *; omega) | (simp only [R32, R64] at *; omega))
    have hp_3 : (v 2 7) ≤ (v 2 4) := (show (v 2 7) ≤ (v 2 4) from (by first | assumption | omega | (unfold R32 at *; omega) | (unfold R64 at *; omega) | (simp only [R32, R64] at *; omega)))
    refine r_call (m := 39) (args := [.inr (.inr (some 2)), .inl 1]) (n' := 26) (pc' := 27) (lo' := [some (.inr (.inr (some 2))), some (.inr (.inr (some 100047)))]) (st' := []) (I := .invokevirtual 39) (pc0 := 24) (len := 3) rfl rfl rfl (e_cl_fail hX hp_2 hp_3) ?_
    show WV _ _ _ 27 _ [] _ (cl_fail v 1) _
    have hX_4 : XI (cl_fail v 1) := i_cl_fail (v := v) (k := 1) hX hp_2 hp_3
    have hb_5 : ((cl_fail v 1) 2 7) ≤ ((cl_fail v 1) 2 4) := n_cl_fail (v := v) (k := 1) hX hp_2 hp_3
    refine r_ret (rr := none) (I := .return_) (pc0 := 27) (len := 1) rfl rfl ?_
    exact hQ hX_4 (show ((cl_fail v 1) 2 7) ≤ ((cl_fail v 1) 2 4) from (by first | assumption | omega | (unfold R32 at *; omega) | (unfold R64 at *; omega) | (simp only [R32, R64] at *; omega)))
  · show WV _ _ _ 7 _ _ _ _ _
    rw [if_pos h_4] at hQ
    refine r_ex 2 (pc' := 9) (lo' := [some (.inr (.inr (some 2))), some (.inr (.inr (some 100047)))]) (st' := [.inr (.inr (some 100047)), .inr (.inr (some 2))]) rfl ?_
    have hp_6 : (v 2 7) ≤ (v 2 4) := (show (v 2 7) ≤ (v 2 4) from (by first | assumption | omega | (unfold R32 at *; omega) | (unfold R64 at *; omega) | (simp only [R32, R64] at *; omega)))
    refine r_call (m := 27) (args := [.inr (.inr (some 2)), .inr (.inr (some 100047))]) (n' := 26) (pc' := 12) (lo' := [some (.inr (.inr (some 2))), some (.inr (.inr (some 100047)))]) (st' := []) (I := .invokevirtual 27) (pc0 := 9) (len := 3) rfl rfl rfl (e_cl_isAt23 hX hp_6) ?_
    show WV _ _ _ 12 _ [.inl (cl_isAt23 v)] _ _ _
    have hb_7 := n_cl_isAt23 (v := v) hX hp_6
    refine n_if_eq (pc0 := 12) (len := 3) (t := 22) rfl (by first | assumption | omega | (unfold R32 at *; omega) | (unfold R64 at *; omega) | (simp only [R32, R64] at *; omega)) (fun h_12 => ?_) (fun h_12 => ?_)
    · show WV _ _ _ 22 _ _ _ _ _
      rw [if_pos h_12] at hQ
      refine r_ex 2 (pc' := 24) (lo' := [some (.inr (.inr (some 2))), some (.inr (.inr (some 100047)))]) (st' := [.inl 1, .inr (.inr (some 2))]) rfl ?_
      have hp_8 : 1 ≤ (1 : Int) ∧ (1 : Int) ≤ 3 := (by first | assumption | omega | (unfold R32 at *; omega) | (unfold R64 at *; omega) | (simp only [R32, R64] at *; omega))
      have hp_9 : (v 2 7) ≤ (v 2 4) := (show (v 2 7) ≤ (v 2 4) from (by first | assumption | omega | (unfold R32 at *; omega) | (unfold R64 at *; omega) | (simp only [R32, R64] at *; omega)))
      refine r_call (m := 39) (args := [.inr (.inr (some 2)), .inl 1]) (n' := 26) (pc' := 27) (lo' := [some (.inr (.inr (some 2))), some (.inr (.inr (some 100047)))]) (st' := []) (I := .invokevirtual 39) (pc0 := 24) (len := 3) rfl rfl rfl (e_cl_fail hX hp_8 hp_9) ?_
      show WV _ _ _ 27 _ [] _ (cl_fail v 1) _
      have hX_10 : XI (cl_fail v 1) := i_cl_fail (v := v) (k := 1) hX hp_8 hp_9
      have hb_11 : ((cl_fail v 1) 2 7) ≤ ((cl_fail v 1) 2 4) := n_cl_fail (v := v) (k := 1) hX hp_8 hp_9
      refine r_ret (rr := none) (I := .return_) (pc0 := 27) (len := 1) rfl rfl ?_
      exact hQ hX_10 (show ((cl_fail v 1) 2 7) ≤ ((cl_fail v 1) 2 4) from (by first | assumption | omega | (unfold R32 at *; omega) | (unfold R64 at *; omega) | (simp only [R32, R64] at *; omega)))
    · show WV _ _ _ 15 _ _ _ _ _
      rw [if_neg h_12] at hQ
      refine r_ex 1 (pc' := 16) (lo' := [some (.inr (.inr (some 2))), some (.inr (.inr (some 100047)))]) (st' := [.inr (.inr (some 2))]) rfl ?_
      have hp_12 : (v 2 7) ≤ (v 2 4) := (show (v 2 7) ≤ (v 2 4) from (by first | assumption | omega | (unfold R32 at *; omega) | (unfold R64 at *; omega) | (simp only [R32, R64] at *; omega)))
      refine r_call (m := 21) (args := [.inr (.inr (some 2))]) (n' := 26) (pc' := 19) (lo' := [some (.inr (.inr (some 2))), some (.inr (.inr (some 100047)))]) (st' := []) (I := .invokevirtual 21) (pc0 := 16) (len := 3) rfl rfl rfl (e_cl_advance hX hp_12) ?_
      show WV _ _ _ 19 _ [] _ (cl_advance v) _
      have hX_13 : XI (cl_advance v) := i_cl_advance (v := v) hX hp_12
      have hb_14 : ((cl_advance v) 2 7) ≤ ((cl_advance v) 2 4) := n_cl_advance (v := v) hX hp_12
      refine r_ex 1 (pc' := 27) (lo' := [some (.inr (.inr (some 2))), some (.inr (.inr (some 100047)))]) (st' := []) rfl ?_
      refine r_ret (rr := none) (I := .return_) (pc0 := 27) (len := 1) rfl rfl ?_
      exact hQ hX_13 (show ((cl_advance v) 2 7) ≤ ((cl_advance v) 2 4) from (by first | assumption | omega | (unfold R32 at *; omega) | (unfold R64 at *; omega) | (simp only [R32, R64] at *; omega)))

theorem e_cl_word23 {X : PX} {d : Nat} {v : VS}  (hX : XI v) (hp_a : (v 2 7) ≤ (v 2 4)) : EvV X (d + 1 + 1 + 1 + 1 + 1) 26 [.inr (.inr (some 2)), .inr (.inr (some 100047))] 1 v none 1 (cl_word23 v) := EvV.of (w_cl_word23 hX hp_a (fun _ _ => ⟨rfl, rfl, rfl⟩))

theorem i_cl_word23 {v : VS}  (hX : XI v) (hp_a : (v 2 7) ≤ (v 2 4)) : XI (cl_word23 v) := by
  have q : WV (0, fun _ => 0, none) (0 + 1 + 1 + 1 + 1 + 1) 26 0 [some (.inr (.inr (some 2))), some (.inr (.inr (some 100047)))] [] 1 v (fun _ _ _ => XI (cl_word23 v)) := w_cl_word23 (X := (0, fun _ => 0, none)) (d := 0) hX hp_a (fun q _ => q)
  obtain ⟨_, _, _, _, _, _, _, q⟩ := q
  exact q

theorem n_cl_word23 {v : VS}  (hX : XI v) (hp_a : (v 2 7) ≤ (v 2 4)) : ((cl_word23 v) 2 7) ≤ ((cl_word23 v) 2 4) := by
  have q : WV (0, fun _ => 0, none) (0 + 1 + 1 + 1 + 1 + 1) 26 0 [some (.inr (.inr (some 2))), some (.inr (.inr (some 100047)))] [] 1 v (fun _ _ _ => ((cl_word23 v) 2 7) ≤ ((cl_word23 v) 2 4)) := w_cl_word23 (X := (0, fun _ => 0, none)) (d := 0) hX hp_a (fun _ q => q)
  obtain ⟨_, _, _, _, _, _, _, q⟩ := q
  exact q

theorem o_cl_word23 {rk : Nat} {v : VS}  (hk : (rk < 2 ∨ 2 < rk)) : (cl_word23 v ) rk = v rk := by
  unfold cl_word23
  by_cases hc_ : (v 2 1) = 0
  · rw [if_pos hc_]
    by_cases hc_ : (cl_isAt23 v) = 0
    · rw [if_pos hc_]
      all_goals (show (cl_fail v 1) rk = _)
      all_goals (rw [o_cl_fail (by omega)])
    · rw [if_neg hc_]
      all_goals (show (cl_advance v) rk = _)
      all_goals (rw [o_cl_advance (by omega)])
  · rw [if_neg hc_]
    all_goals (show (cl_fail v 1) rk = _)
    all_goals (rw [o_cl_fail (by omega)])
