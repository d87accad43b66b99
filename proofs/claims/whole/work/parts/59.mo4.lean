/-! the reference: words and numbers -/
def mo_hr0 (v : VS)  : Int :=
  (v 210 44)
theorem w_mo_hr0 {X : PX} {d b : Nat} {v : VS}  (hX : XI v)  {Q : Option PV → Nat → VS → Prop} (hQ : Q (some (.inl (mo_hr0 v))) b v) : WV X d 223 0 [some (.inr (.inr (some 203))), some (.inl 0)] [] b v Q := by
  rw [mo_hr0] at hQ
  refine r_ex 5 (pc' := 8) (lo' := [some (.inr (.inr (some 203))), some (.inl 0)]) (st' := [.inl 44, .inr (.inr (some 210))]) rfl ?_
  refine r_iald2 (j := 0) (x := (v 210 44)) (pc' := 9) (pc0 := 8) (len := 1) rfl (s_210 _) (by first | assumption | omega | (unfold R32 at *; omega) | (unfold R64 at *; omega) | (simp only [R32, R64] at *; omega)) (by decide) rfl rfl ?_
  have hb_1 : 0 ≤ (v 210 44) ∧ (v 210 44) ≤ 9 := hX 210 44
  refine r_ret (rr := some (.inl (v 210 44))) (I := .ireturn) (pc0 := 9) (len := 1) rfl rfl ?_
  exact hQ 

theorem e_mo_hr0 {X : PX} {d b : Nat} {v : VS}  (hX : XI v)  : EvV X d 223 [.inr (.inr (some 203)), .inl 0] b v (some (.inl (mo_hr0 v))) b v := EvV.of (w_mo_hr0 hX  (⟨rfl, rfl, rfl⟩))

def mo_hr1 (v : VS)  : Int :=
  (v 210 45)
theorem w_mo_hr1 {X : PX} {d b : Nat} {v : VS}  (hX : XI v)  {Q : Option PV → Nat → VS → Prop} (hQ : Q (some (.inl (mo_hr1 v))) b v) : WV X d 223 0 [some (.inr (.inr (some 203))), some (.inl 1)] [] b v Q := by
  rw [mo_hr1] at hQ
  refine r_ex 5 (pc' := 8) (lo' := [some (.inr (.inr (some 203))), some (.inl 1)]) (st' := [.inl 45, .inr (.inr (some 210))]) rfl ?_
  refine r_iald2 (j := 0) (x := (v 210 45)) (pc' := 9) (pc0 := 8) (len := 1) rfl (s_210 _) (by first | assumption | omega | (unfold R32 at *; omega) | (unfold R64 at *; omega) | (simp only [R32, R64] at *; omega)) (by decide) rfl rfl ?_
  have hb_1 : 0 ≤ (v 210 45) ∧ (v 210 45) ≤ 300 := hX 210 45
  refine r_ret (rr := some (.inl (v 210 45))) (I := .ireturn) (pc0 := 9) (len := 1) rfl rfl ?_
  exact hQ 

theorem e_mo_hr1 {X : PX} {d b : Nat} {v : VS}  (hX : XI v)  : EvV X d 223 [.inr (.inr (some 203)), .inl 1] b v (some (.inl (mo_hr1 v))) b v := EvV.of (w_mo_hr1 hX  (⟨rfl, rfl, rfl⟩))

def mo_hr2 (v : VS)  : Int :=
  (v 210 46)
theorem w_mo_hr2 {X : PX} {d b : Nat} {v : VS}  (hX : XI v)  {Q : Option PV → Nat → VS → Prop} (hQ : Q (some (.inl (mo_hr2 v))) b v) : WV X d 223 0 [some (.inr (.inr (some 203))), some (.inl 2)] [] b v Q := by
  rw [mo_hr2] at hQ
  refine r_ex 5 (pc' := 8) (lo' := [some (.inr (.inr (some 203))), some (.inl 2)]) (st' := [.inl 46, .inr (.inr (some 210))]) rfl ?_
  refine r_iald2 (j := 0) (x := (v 210 46)) (pc' := 9) (pc0 := 8) (len := 1) rfl (s_210 _) (by first | assumption | omega | (unfold R32 at *; omega) | (unfold R64 at *; omega) | (simp only [R32, R64] at *; omega)) (by decide) rfl rfl ?_
  have hb_1 : 0 ≤ (v 210 46) ∧ (v 210 46) ≤ 9 := hX 210 46
  refine r_ret (rr := some (.inl (v 210 46))) (I := .ireturn) (pc0 := 9) (len := 1) rfl rfl ?_
  exact hQ 

theorem e_mo_hr2 {X : PX} {d b : Nat} {v : VS}  (hX : XI v)  : EvV X d 223 [.inr (.inr (some 203)), .inl 2] b v (some (.inl (mo_hr2 v))) b v := EvV.of (w_mo_hr2 hX  (⟨rfl, rfl, rfl⟩))

def mo_hr3 (v : VS)  : Int :=
  (v 210 47)
theorem w_mo_hr3 {X : PX} {d b : Nat} {v : VS}  (hX : XI v)  {Q : Option PV → Nat → VS → Prop} (hQ : Q (some (.inl (mo_hr3 v))) b v) : WV X d 223 0 [some (.inr (.inr (some 203))), some (.inl 3)] [] b v Q := by
  rw [mo_hr3] at hQ
  refine r_ex 5 (pc' := 8) (lo' := [some (.inr (.inr (some 203))), some (.inl 3)]) (st' := [.inl 47, .inr (.inr (some 210))]) rfl ?_
  refine r_iald2 (j := 0) (x := (v 210 47)) (pc' := 9) (pc0 := 8) (len := 1) rfl (s_210 _) (by first | assumption | omega | (unfold R32 at *; omega) | (unfold R64 at *; omega) | (simp only [R32, R64] at *; omega)) (by decide) rfl rfl ?_
  have hb_1 : 0 ≤ (v 210 47) ∧ (v 210 47) ≤ 12 := hX 210 47
  refine r_ret (rr := some (.inl (v 210 47))) (I := .ireturn) (pc0 := 9) (len := 1) rfl rfl ?_
  exact hQ 

theorem e_mo_hr3 {X : PX} {d b : Nat} {v : VS}  (hX : XI v)  : EvV X d 223 [.inr (.inr (some 203)), .inl 3] b v (some (.inl (mo_hr3 v))) b v := EvV.of (w_mo_hr3 hX  (⟨rfl, rfl, rfl⟩))

def mo_hr4 (v : VS)  : Int :=
  (v 210 48)
theorem w_mo_hr4 {X : PX} {d b : Nat} {v : VS}  (hX : XI v)  {Q : Option PV → Nat → VS → Prop} (hQ : Q (some (.inl (mo_hr4 v))) b v) : WV X d 223 0 [some (.inr (.inr (some 203))), some (.inl 4)] [] b v Q := by
  rw [mo_hr4] at hQ
  refine r_ex 5 (pc' := 8) (lo' := [some (.inr (.inr (some 203))), some (.inl 4)]) (st' := [.inl 48, .inr (.inr (some 210))]) rfl ?_
  refine r_iald2 (j := 0) (x := (v 210 48)) (pc' := 9) (pc0 := 8) (len := 1) rfl (s_210 _) (by first | assumption | omega | (unfold R32 at *; omega) | (unfold R64 at *; omega) | (simp only [R32, R64] at *; omega)) (by decide) rfl rfl ?_
  have hb_1 : 0 ≤ (v 210 48) ∧ (v 210 48) ≤ 4 := hX 210 48
  refine r_ret (rr := some (.inl (v 210 48))) (I := .ireturn) (pc0 := 9) (len := 1) rfl rfl ?_
  exact hQ 

theorem e_mo_hr4 {X : PX} {d b : Nat} {v : VS}  (hX : XI v)  : EvV X d 223 [.inr (.inr (some 203)), .inl 4] b v (some (.inl (mo_hr4 v))) b v := EvV.of (w_mo_hr4 hX  (⟨rfl, rfl, rfl⟩))

def mo_hr5 (v : VS)  : Int :=
  (v 210 49)
theorem w_mo_hr5 {X : PX} {d b : Nat} {v : VS}  (hX : XI v)  {Q : Option PV → Nat → VS → Prop} (hQ : Q (some (.inl (mo_hr5 v))) b v) : WV X d 223 0 [some (.inr (.inr (some 203))), some (.inl 5)] [] b v Q := by
  rw [mo_hr5] at hQ
  refine r_ex 5 (pc' := 8) (lo' := [some (.inr (.inr (some 203))), some (.inl 5)]) (st' := [.inl 49, .inr (.inr (some 210))]) rfl ?_
  refine r_iald2 (j := 0) (x := (v 210 49)) (pc' := 9) (pc0 := 8) (len := 1) rfl (s_210 _) (by first | assumption | omega | (unfold R32 at *; omega) | (unfold R64 at *; omega) | (simp only [R32, R64] at *; omega)) (by decide) rfl rfl ?_
  have hb_1 : 0 ≤ (v 210 49) ∧ (v 210 49) ≤ 6 := hX 210 49
  refine r_ret (rr := some (.inl (v 210 49))) (I := .ireturn) (pc0 := 9) (len := 1) rfl rfl ?_
  exact hQ 

theorem e_mo_hr5 {X : PX} {d b : Nat} {v : VS}  (hX : XI v)  : EvV X d 223 [.inr (.inr (some 203)), .inl 5] b v (some (.inl (mo_hr5 v))) b v := EvV.of (w_mo_hr5 hX  (⟨rfl, rfl, rfl⟩))

def mo_hr6 (v : VS)  : Int :=
  (v 210 50)
theorem w_mo_hr6 {X : PX} {d b : Nat} {v : VS}  (hX : XI v)  {Q : Option PV → Nat → VS → Prop} (hQ : Q (some (.inl (mo_hr6 v))) b v) : WV X d 223 0 [some (.inr (.inr (some 203))), some (.inl 6)] [] b v Q := by
  rw [mo_hr6] at hQ
  refine r_ex 5 (pc' := 8) (lo' := [some (.inr (.inr (some 203))), some (.inl 6)]) (st' := [.inl 50, .inr (.inr (some 210))]) rfl ?_
  refine r_iald2 (j := 0) (x := (v 210 50)) (pc' := 9) (pc0 := 8) (len := 1) rfl (s_210 _) (by first | assumption | omega | (unfold R32 at *; omega) | (unfold R64 at *; omega) | (simp only [R32, R64] at *; omega)) (by decide) rfl rfl ?_
  have hb_1 : 0 ≤ (v 210 50) ∧ (v 210 50) ≤ 6 := hX 210 50
  refine r_ret (rr := some (.inl (v 210 50))) (I := .ireturn) (pc0 := 9) (len := 1) rfl rfl ?_
  exact hQ 

theorem e_mo_hr6 {X : PX} {d b : Nat} {v : VS}  (hX : XI v)  : EvV X d 223 [.inr (.inr (some 203)), .inl 6] b v (some (.inl (mo_hr6 v))) b v := EvV.of (w_mo_hr6 hX  (⟨rfl, rfl, rfl⟩))

def mo_hr7 (v : VS)  : Int :=
  (v 210 51)
theorem w_mo_hr7 {X : PX} {d b : Nat} {v : VS}  (hX : XI v)  {Q : Option PV → Nat → VS → Prop} (hQ : Q (some (.inl (mo_hr7 v))) b v) : WV X d 223 0 [some (.inr (.inr (some 203))), some (.inl 7)] [] b v Q := by
  rw [mo_hr7] at hQ
  refine r_ex 5 (pc' := 8) (lo' := [some (.inr (.inr (some 203))), some (.inl 7)]) (st' := [.inl 51, .inr (.inr (some 210))]) rfl ?_
  refine r_iald2 (j := 0) (x := (v 210 51)) (pc' := 9) (pc0 := 8) (len := 1) rfl (s_210 _) (by first | assumption | omega | (unfold R32 at *; omega) | (unfold R64 at *; omega) | (simp only [R32, R64] at *; omega)) (by decide) rfl rfl ?_
  have hb_1 : 0 ≤ (v 210 51) ∧ (v 210 51) ≤ 6 := hX 210 51
  refine r_ret (rr := some (.inl (v 210 51))) (I := .ireturn) (pc0 := 9) (len := 1) rfl rfl ?_
  exact hQ 

theorem e_mo_hr7 {X : PX} {d b : Nat} {v : VS}  (hX : XI v)  : EvV X d 223 [.inr (.inr (some 203)), .inl 7] b v (some (.inl (mo_hr7 v))) b v := EvV.of (w_mo_hr7 hX  (⟨rfl, rfl, rfl⟩))

def mo_hr8 (v : VS)  : Int :=
  (v 210 52)
theorem w_mo_hr8 {X : PX} {d b : Nat} {v : VS}  (hX : XI v)  {Q : Option PV → Nat → VS → Prop} (hQ : Q (some (.inl (mo_hr8 v))) b v) : WV X d 223 0 [some (.inr (.inr (some 203))), some (.inl 8)] [] b v Q := by
  rw [mo_hr8] at hQ
  refine r_ex 5 (pc' := 8) (lo' := [some (.inr (.inr (some 203))), some (.inl 8)]) (st' := [.inl 52, .inr (.inr (some 210))]) rfl ?_
  refine r_iald2 (j := 0) (x := (v 210 52)) (pc' := 9) (pc0 := 8) (len := 1) rfl (s_210 _) (by first | assumption | omega | (unfold R32 at *; omega) | (unfold R64 at *; omega) | (simp only [R32, R64] at *; omega)) (by decide) rfl rfl ?_
  have hb_1 : 0 ≤ (v 210 52) ∧ (v 210 52) ≤ 6 := hX 210 52
  refine r_ret (rr := some (.inl (v 210 52))) (I := .ireturn) (pc0 := 9) (len := 1) rfl rfl ?_
  exact hQ 

theorem e_mo_hr8 {X : PX} {d b : Nat} {v : VS}  (hX : XI v)  : EvV X d 223 [.inr (.inr (some 203)), .inl 8] b v (some (.inl (mo_hr8 v))) b v := EvV.of (w_mo_hr8 hX  (⟨rfl, rfl, rfl⟩))

def mo_hr9 (v : VS)  : Int :=
  (v 210 53)
theorem w_mo_hr9 {X : PX} {d b : Nat} {v : VS}  (hX : XI v)  {Q : Option PV → Nat → VS → Prop} (hQ : Q (some (.inl (mo_hr9 v))) b v) : WV X d 223 0 [some (.inr (.inr (some 203))), some (.inl 9)] [] b v Q := by
  rw [mo_hr9] at hQ
  refine r_ex 5 (pc' := 8) (lo' := [some (.inr (.inr (some 203))), some (.inl 9)]) (st' := [.inl 53, .inr (.inr (some 210))]) rfl ?_
  refine r_iald2 (j := 0) (x := (v 210 53)) (pc' := 9) (pc0 := 8) (len := 1) rfl (s_210 _) (by first | assumption | omega | (unfold R32 at *; omega) | (unfold R64 at *; omega) | (simp only [R32, R64] at *; omega)) (by decide) rfl rfl ?_
  have hb_1 : 0 ≤ (v 210 53) ∧ (v 210 53) ≤ 511 := hX 210 53
  refine r_ret (rr := some (.inl (v 210 53))) (I := .ireturn) (pc0 := 9) (len := 1) rfl rfl ?_
  exact hQ 

theorem e_mo_hr9 {X : PX} {d b : Nat} {v : VS}  (hX : XI v)  : EvV X d 223 [.inr (.inr (some 203)), .inl 9] b v (some (.inl (mo_hr9 v))) b v := EvV.of (w_mo_hr9 hX  (⟨rfl, rfl, rfl⟩))

def mo_hr10 (v : VS)  : Int :=
  (v 210 54)
theorem w_mo_hr10 {X : PX} {d b : Nat} {v : VS}  (hX : XI v)  {Q : Option PV → Nat → VS → Prop} (hQ : Q (some (.inl (mo_hr10 v))) b v) : WV X d 223 0 [some (.inr (.inr (some 203))), some (.inl 10)] [] b v Q := by
  rw [mo_hr10] at hQ
  refine r_ex 5 (pc' := 8) (lo' := [some (.inr (.inr (some 203))), some (.inl 10)]) (st' := [.inl 54, .inr (.inr (some 210))]) rfl ?_
  refine r_iald2 (j := 0) (x := (v 210 54)) (pc' := 9) (pc0 := 8) (len := 1) rfl (s_210 _) (by first | assumption | omega | (unfold R32 at *; omega) | (unfold R64 at *; omega) | (simp only [R32, R64] at *; omega)) (by decide) rfl rfl ?_
  have hb_1 : 0 ≤ (v 210 54) ∧ (v 210 54) ≤ 4095 := hX 210 54
  refine r_ret (rr := some (.inl (v 210 54))) (I := .ireturn) (pc0 := 9) (len := 1) rfl rfl ?_
  exact hQ 

theorem e_mo_hr10 {X : PX} {d b : Nat} {v : VS}  (hX : XI v)  : EvV X d 223 [.inr (.inr (some 203)), .inl 10] b v (some (.inl (mo_hr10 v))) b v := EvV.of (w_mo_hr10 hX  (⟨rfl, rfl, rfl⟩))

def mo_most2 (v : VS)  : Int :=
  (v 210 44)
theorem w_mo_most2 {X : PX} {d b : Nat} {v : VS}  (hX : XI v)  {Q : Option PV → Nat → VS → Prop} (hQ : Q (some (.inl (mo_most2 v))) b v) : WV X (d + 1) 224 0 [some (.inr (.inr (some 203))), some (.inl 2)] [] b v Q := by
  rw [mo_most2] at hQ
  refine r_ex 5 (pc' := 7) (lo' := [some (.inr (.inr (some 203))), some (.inl 2)]) (st' := [.inl 0, .inr (.inr (some 203))]) rfl ?_
  refine r_call (m := 223) (args := [.inr (.inr (some 203)), .inl 0]) (n' := 224) (pc' := 10) (lo' := [some (.inr (.inr (some 203))), some (.inl 2)]) (st' := []) (I := .invokevirtual 223) (pc0 := 7) (len := 3) rfl rfl rfl (e_mo_hr0 hX) ?_
  show WV _ _ _ 10 _ [.inl (v 210 44)] _ _ _
  have hb_1 : 0 ≤ (v 210 44) ∧ (v 210 44) ≤ 9 := hX 210 44
  refine r_ex 1 (pc' := 34) (lo' := [some (.inr (.inr (some 203))), some (.inl 2)]) (st' := [.inl (v 210 44)]) rfl ?_
  refine r_ret (rr := some (.inl (v 210 44))) (I := .ireturn) (pc0 := 34) (len := 1) rfl rfl ?_
  exact hQ 

theorem e_mo_most2 {X : PX} {d b : Nat} {v : VS}  (hX : XI v)  : EvV X (d + 1) 224 [.inr (.inr (some 203)), .inl 2] b v (some (.inl (mo_most2 v))) b v := EvV.of (w_mo_most2 hX  (⟨rfl, rfl, rfl⟩))

def mo_most3 (v : VS)  : Int :=
  12
theorem w_mo_most3 {X : PX} {d b : Nat} {v : VS}  (hX : XI v)  {Q : Option PV → Nat → VS → Prop} (hQ : Q (some (.inl (mo_most3 v))) b v) : WV X d 224 0 [some (.inr (.inr (some 203))), some (.inl 3)] [] b v Q := by
  rw [mo_most3] at hQ
  refine r_ex 8 (pc' := 34) (lo' := [some (.inr (.inr (some 203))), some (.inl 3)]) (st' := [.inl 12]) rfl ?_
  refine r_ret (rr := some (.inl 12)) (I := .ireturn) (pc0 := 34) (len := 1) rfl rfl ?_
  exact hQ 

theorem e_mo_most3 {X : PX} {d b : Nat} {v : VS}  (hX : XI v)  : EvV X d 224 [.inr (.inr (some 203)), .inl 3] b v (some (.inl (mo_most3 v))) b v := EvV.of (w_mo_most3 hX  (⟨rfl, rfl, rfl⟩))

def mo_most4 (v : VS)  : Int :=
  4
theorem w_mo_most4 {X : PX} {d b : Nat} {v : VS}  (hX : XI v)  {Q : Option PV → Nat → VS → Prop} (hQ : Q (some (.inl (mo_most4 v))) b v) : WV X d 224 0 [some (.inr (.inr (some 203))), some (.inl 4)] [] b v Q := by
  rw [mo_most4] at hQ
  refine r_ex 11 (pc' := 34) (lo' := [some (.inr (.inr (some 203))), some (.inl 4)]) (st' := [.inl 4]) rfl ?_
  refine r_ret (rr := some (.inl 4)) (I := .ireturn) (pc0 := 34) (len := 1) rfl rfl ?_
  exact hQ 

theorem e_mo_most4 {X : PX} {d b : Nat} {v : VS}  (hX : XI v)  : EvV X d 224 [.inr (.inr (some 203)), .inl 4] b v (some (.inl (mo_most4 v))) b v := EvV.of (w_mo_most4 hX  (⟨rfl, rfl, rfl⟩))

def mo_most5 (v : VS)  : Int :=
  6
theorem w_mo_most5 {X : PX} {d b : Nat} {v : VS}  (hX : XI v)  {Q : Option PV → Nat → VS → Prop} (hQ : Q (some (.inl (mo_most5 v))) b v) : WV X d 224 0 [some (.inr (.inr (some 203))), some (.inl 5)] [] b v Q := by
  rw [mo_most5] at hQ
  refine r_ex 10 (pc' := 34) (lo' := [some (.inr (.inr (some 203))), some (.inl 5)]) (st' := [.inl 6]) rfl ?_
  refine r_ret (rr := some (.inl 6)) (I := .ireturn) (pc0 := 34) (len := 1) rfl rfl ?_
  exact hQ 

theorem e_mo_most5 {X : PX} {d b : Nat} {v : VS}  (hX : XI v)  : EvV X d 224 [.inr (.inr (some 203)), .inl 5] b v (some (.inl (mo_most5 v))) b v := EvV.of (w_mo_most5 hX  (⟨rfl, rfl, rfl⟩))

def mo_most6 (v : VS)  : Int :=
  6
theorem w_mo_most6 {X : PX} {d b : Nat} {v : VS}  (hX : XI v)  {Q : Option PV → Nat → VS → Prop} (hQ : Q (some (.inl (mo_most6 v))) b v) : WV X d 224 0 [some (.inr (.inr (some 203))), some (.inl 6)] [] b v Q := by
  rw [mo_most6] at hQ
  refine r_ex 10 (pc' := 34) (lo' := [some (.inr (.inr (some 203))), some (.inl 6)]) (st' := [.inl 6]) rfl ?_
  refine r_ret (rr := some (.inl 6)) (I := .ireturn) (pc0 := 34) (len := 1) rfl rfl ?_
  exact hQ 

theorem e_mo_most6 {X : PX} {d b : Nat} {v : VS}  (hX : XI v)  : EvV X d 224 [.inr (.inr (some 203)), .inl 6] b v (some (.inl (mo_most6 v))) b v := EvV.of (w_mo_most6 hX  (⟨rfl, rfl, rfl⟩))

def mo_most7 (v : VS)  : Int :=
  6
theorem w_mo_most7 {X : PX} {d b : Nat} {v : VS}  (hX : XI v)  {Q : Option PV → Nat → VS → Prop} (hQ : Q (some (.inl (mo_most7 v))) b v) : WV X d 224 0 [some (.inr (.inr (some 203))), some (.inl 7)] [] b v Q := by
  rw [mo_most7] at hQ
  refine r_ex 10 (pc' := 34) (lo' := [some (.inr (.inr (some 203))), some (.inl 7)]) (st' := [.inl 6]) rfl ?_
  refine r_ret (rr := some (.inl 6)) (I := .ireturn) (pc0 := 34) (len := 1) rfl rfl ?_
  exact hQ 

theorem e_mo_most7 {X : PX} {d b : Nat} {v : VS}  (hX : XI v)  : EvV X d 224 [.inr (.inr (some 203)), .inl 7] b v (some (.inl (mo_most7 v))) b v := EvV.of (w_mo_most7 hX  (⟨rfl, rfl, rfl⟩))

def mo_most8 (v : VS)  : Int :=
  6
theorem w_mo_most8 {X : PX} {d b : Nat} {v : VS}  (hX : XI v)  {Q : Option PV → Nat → VS → Prop} (hQ : Q (some (.inl (mo_most8 v))) b v) : WV X d 224 0 [some (.inr (.inr (some 203))), some (.inl 8)] [] b v Q := by
  rw [mo_most8] at hQ
  refine r_ex 10 (pc' := 34) (lo' := [some (.inr (.inr (some 203))), some (.inl 8)]) (st' := [.inl 6]) rfl ?_
  refine r_ret (rr := some (.inl 6)) (I := .ireturn) (pc0 := 34) (len := 1) rfl rfl ?_
  exact hQ 

theorem e_mo_most8 {X : PX} {d b : Nat} {v : VS}  (hX : XI v)  : EvV X d 224 [.inr (.inr (some 203)), .inl 8] b v (some (.inl (mo_most8 v))) b v := EvV.of (w_mo_most8 hX  (⟨rfl, rfl, rfl⟩))

theorem next0_f {j : Nat} (hj : j ≠ 7) : ∀ (f : Nat) (v : VS), (mo_next_0 f v) 203 j = v 203 j := by
  intro f
  induction f with
  | zero => intro v; rfl
  | succ f ih =>
    intro v
    rw [mo_next_0]
    split
    · rw [ih, v2_eq, if_neg (by omega)]
    · split
      · rw [ih, v2_eq, if_neg (by omega)]
      · rfl
theorem next0_7 : ∀ (f : Nat) (v : VS), v 203 7 ≤ (mo_next_0 f v) 203 7 := by
  intro f
  induction f with
  | zero => intro v; exact Int.le_refl _
  | succ f ih =>
    intro v
    have e : ∀ x, (v2 v 203 7 x) 203 7 = x := fun x => by rw [v2_eq, if_pos ⟨rfl, rfl⟩]
    rw [mo_next_0]
    split
    · have := ih (v2 v 203 7 (v 203 7 + 1)); rw [e] at this; omega
    · split
      · have := ih (v2 v 203 7 (v 203 7 + 1)); rw [e] at this; omega
      · exact Int.le_refl _
theorem next102_f {j : Nat} (hj : j ≠ 7 ∧ j ≠ 11) : ∀ (f : Nat) (v : VS) (n : Int), (mo_next_102 f v n) 203 j = v 203 j := by
  intro f
  induction f with
  | zero => intro v n; rfl
  | succ f ih =>
    intro v n
    rw [mo_next_102]
    split
    · split <;> (rw [ih]; simp only [v2_eq]; simp [hj.1, hj.2])
    · rfl
theorem next208_f {j : Nat} (hj : j ≠ 7 ∧ j ≠ 10) : ∀ (f : Nat) (v : VS), (mo_next_208 f v) 203 j = v 203 j := by
  intro f
  induction f with
  | zero => intro v; rfl
  | succ f ih =>
    intro v
    rw [mo_next_208]
    split
    · split <;> (rw [ih]; simp only [v2_eq]; simp [hj.1, hj.2])
    · rfl
theorem next43_9 {v : VS} : (mo_next_43 v) 203 9 = v 203 7 := by
  unfold mo_next_43
  split
  · rfl
  · split
    · rw [next102_f (by omega)]; rfl
    · split
      · rw [next208_f (by omega)]; rfl
      · split <;> rfl
theorem next43_f {v : VS} {j : Nat} (hj : j < 7 ∨ 11 < j) : (mo_next_43 v) 203 j = v 203 j := by
  have h7 : j ≠ 7 := by omega
  have h8 : j ≠ 8 := by omega
  have h9 : j ≠ 9 := by omega
  have h10 : j ≠ 10 := by omega
  have h11 : j ≠ 11 := by omega
  unfold mo_next_43
  split
  · simp only [v2_eq]; simp [h8, h9, h10, h11]
  · split
    · rw [next102_f (by omega)]; simp only [v2_eq]; simp [h8, h9, h10, h11]
    · split
      · rw [next208_f (by omega)]; simp only [v2_eq]; simp [h8, h9, h10, h11]
      · split <;> (simp only [v2_eq]; simp [h7, h8, h9, h10, h11])
theorem next_f {v : VS} {j : Nat} (hj : j < 7 ∨ 11 < j) : (mo_next v) 203 j = v 203 j := by
  unfold mo_next
  rw [next43_f hj, next0_f (by omega)]
theorem n0_mo_next {v : VS} (hX : XI v) (hp_a : (v 203 7) ≤ (v 203 6)) : ((mo_next v) 203 7) ≤ ((mo_next v) 203 6) ∧ (((mo_next v) 203 8) = 0 ∨ ((mo_next v) 203 9) < ((mo_next v) 203 7)) ∧ ((mo_next v) 203 9) ≤ ((mo_next v) 203 7) := n_mo_next hX hp_a
theorem n1_mo_next {v : VS} (hX : XI v) (hp_a : (v 203 7) ≤ (v 203 6)) : (v 203 7) ≤ ((mo_next v) 203 9) := by
  unfold mo_next
  rw [next43_9]
  exact next0_7 _ _
theorem n2_mo_next {v : VS} (hX : XI v) (hp_a : (v 203 7) ≤ (v 203 6)) : ((mo_next v) 203 12) = (v 203 12) := next_f (by omega)

def mo_fails (v : VS) (k : Int) : VS :=
  (if (v 203 12) = 0 then (v2 (v2 v 203 12 k) 203 13 (v 203 9)) else v)
theorem w_mo_fails {X : PX} {d b : Nat} {v : VS} {k : Int} (hX : XI v) (hp_a : 1 ≤ k ∧ k ≤ 3) (hp_b : (v 203 7) ≤ (v 203 6) ∧ ((v 203 8) = 0 ∨ (v 203 9) < (v 203 7)) ∧ (v 203 9) ≤ (v 203 7)) {Q : Option PV → Nat → VS → Prop} (hQ : XI (mo_fails v k) → (((mo_fails v k) 203 7) ≤ ((mo_fails v k) 203 6) ∧ (((mo_fails v k) 203 8) = 0 ∨ ((mo_fails v k) 203 9) < ((mo_fails v k) 203 7)) ∧ ((mo_fails v k) 203 9) ≤ ((mo_fails v k) 203 7)) → ((v 203 9) ≤ ((mo_fails v k) 203 9)) → (((mo_fails v k) 203 12) ≠ 0) → Q none b (mo_fails v k)) : WV X d 219 0 [some (.inr (.inr (some 203))), some (.inl k)] [] b v Q := by
  rw [mo_fails] at hQ
  refine r_ex 2 (pc' := 4) (lo' := [some (.inr (.inr (some 203))), some (.inl k)]) (st' := [.inl (v 203 12)]) rfl ?_
  have hb_1 : 0 ≤ (v 203 12) ∧ (v 203 12) ≤ 3 := hX 203 12
  refine n_if_eq (pc0 := 4) (len := 3) (t := 8) rfl (by first | assumption | omega | (unfold R32 at *; omega) | (unfold R64 at *; omega) | (simp only [R32, R64] at *; omega)) (fun h_4 => ?_) (fun h_4 => ?_)
  · show WV _ _ _ 8 _ _ _ _ _
    rw [if_pos h_4] at hQ
    refine r_ex 2 (pc' := 10) (lo' := [some (.inr (.inr (some 203))), some (.inl k)]) (st' := [.inl k, .inr (.inr (some 203))]) rfl ?_
    refine r_puti2 (j := 12) (pc' := 13) (pc0 := 10) (len := 3) rfl (s_203 _) rfl rfl rfl (Or.inl rfl) rfl rfl ?_
    have hX_2 : XI (v2 v 203 12 k) := XI.put hX (show 0 ≤ k ∧ k ≤ 3 from (by first | assumption | omega | (unfold R32 at *; omega) | (unfold R64 at *; omega) | (simp only [R32, R64] at *; omega)))
    refine r_ex 3 (pc' := 18) (lo' := [some (.inr (.inr (some 203))), some (.inl k)]) (st' := [.inl (v 203 9), .inr (.inr (some 203))]) rfl ?_
    have hb_3 : 0 ≤ (v 203 9) ∧ (v 203 9) ≤ 2000 := hX_2 203 9
    refine r_puti2 (j := 13) (pc' := 21) (pc0 := 18) (len := 3) rfl (s_203 _) rfl rfl rfl (Or.inl rfl) rfl rfl ?_
    have hX_4 : XI (v2 (v2 v 203 12 k) 203 13 (v 203 9)) := XI.put hX_2 (show -1 ≤ (v 203 9) ∧ (v 203 9) ≤ 2000 from (by first | assumption | omega | (unfold R32 at *; omega) | (unfold R64 at *; omega) | (simp only [R32, R64] at *; omega)))
    refine r_ret (rr := none) (I := .return_) (pc0 := 21) (len := 1) rfl rfl ?_
    exact hQ hX_4 (show (v 203 7) ≤ (v 203 6) ∧ ((v 203 8) = 0 ∨ (v 203 9) < (v 203 7)) ∧ (v 203 9) ≤ (v 203 7) from (by first | assumption | omega | (unfold R32 at *; omega) | (unfold R64 at *; omega) | (simp only [R32, R64] at *; omega))) (show (v 203 9) ≤ (v 203 9) from (by first | assumption | omega | (unfold R32 at *; omega) | (unfold R64 at *; omega) | (simp only [R32, R64] at *; omega))) (show k ≠ 0 from (by first | assumption | omega | (unfold R32 at *; omega) | (unfold R64 at *; omega) | (simp only [R32, R64] at *; omega)))
  · show WV _ _ _ 7 _ _ _ _ _
    rw [if_neg h_4] at hQ
    refine r_ret (rr := none) (I := .return_) (pc0 := 7) (len := 1) rfl rfl ?_
    exact hQ hX (show (v 203 7) ≤ (v 203 6) ∧ ((v 203 8) = 0 ∨ (v 203 9) < (v 203 7)) ∧ (v 203 9) ≤ (v 203 7) from (by first | assumption | omega | (unfold R32 at *; omega) | (unfold R64 at *; omega) | (simp only [R32, R64] at *; omega))) (show (v 203 9) ≤ (v 203 9) from (by first | assumption | omega | (unfold R32 at *; omega) | (unfold R64 at *; omega) | (simp only [R32, R64] at *; omega))) (show (v 203 12) ≠ 0 from (by first | assumption | omega | (unfold R32 at *; omega) | (unfold R64 at *; omega) | (simp only [R32, R64] at *; omega)))

theorem e_mo_fails {X : PX} {d b : Nat} {v : VS} {k : Int} (hX : XI v) (hp_a : 1 ≤ k ∧ k ≤ 3) (hp_b : (v 203 7) ≤ (v 203 6) ∧ ((v 203 8) = 0 ∨ (v 203 9) < (v 203 7)) ∧ (v 203 9) ≤ (v 203 7)) : EvV X d 219 [.inr (.inr (some 203)), .inl k] b v none b (mo_fails v k) := EvV.of (w_mo_fails hX hp_a hp_b (fun _ _ _ _ => ⟨rfl, rfl, rfl⟩))

theorem i_mo_fails {v : VS} {k : Int} (hX : XI v) (hp_a : 1 ≤ k ∧ k ≤ 3) (hp_b : (v 203 7) ≤ (v 203 6) ∧ ((v 203 8) = 0 ∨ (v 203 9) < (v 203 7)) ∧ (v 203 9) ≤ (v 203 7)) : XI (mo_fails v k) := by
  have q : WV (0, fun _ => 0, none) 0 219 0 [some (.inr (.inr (some 203))), some (.inl k)] [] 1 v (fun _ _ _ => XI (mo_fails v k)) := w_mo_fails (X := (0, fun _ => 0, none)) (d := 0) (b := 1) hX hp_a hp_b (fun q _ _ _ => q)
  obtain ⟨_, _, _, _, _, _, _, q⟩ := q
  exact q

theorem n0_mo_fails {v : VS} {k : Int} (hX : XI v) (hp_a : 1 ≤ k ∧ k ≤ 3) (hp_b : (v 203 7) ≤ (v 203 6) ∧ ((v 203 8) = 0 ∨ (v 203 9) < (v 203 7)) ∧ (v 203 9) ≤ (v 203 7)) : ((mo_fails v k) 203 7) ≤ ((mo_fails v k) 203 6) ∧ (((mo_fails v k) 203 8) = 0 ∨ ((mo_fails v k) 203 9) < ((mo_fails v k) 203 7)) ∧ ((mo_fails v k) 203 9) ≤ ((mo_fails v k) 203 7) := by
  have q : WV (0, fun _ => 0, none) 0 219 0 [some (.inr (.inr (some 203))), some (.inl k)] [] 1 v (fun _ _ _ => ((mo_fails v k) 203 7) ≤ ((mo_fails v k) 203 6) ∧ (((mo_fails v k) 203 8) = 0 ∨ ((mo_fails v k) 203 9) < ((mo_fails v k) 203 7)) ∧ ((mo_fails v k) 203 9) ≤ ((mo_fails v k) 203 7)) := w_mo_fails (X := (0, fun _ => 0, none)) (d := 0) (b := 1) hX hp_a hp_b (fun _ q _ _ => q)
  obtain ⟨_, _, _, _, _, _, _, q⟩ := q
  exact q

theorem n1_mo_fails {v : VS} {k : Int} (hX : XI v) (hp_a : 1 ≤ k ∧ k ≤ 3) (hp_b : (v 203 7) ≤ (v 203 6) ∧ ((v 203 8) = 0 ∨ (v 203 9) < (v 203 7)) ∧ (v 203 9) ≤ (v 203 7)) : (v 203 9) ≤ ((mo_fails v k) 203 9) := by
  have q : WV (0, fun _ => 0, none) 0 219 0 [some (.inr (.inr (some 203))), some (.inl k)] [] 1 v (fun _ _ _ => (v 203 9) ≤ ((mo_fails v k) 203 9)) := w_mo_fails (X := (0, fun _ => 0, none)) (d := 0) (b := 1) hX hp_a hp_b (fun _ _ q _ => q)
  obtain ⟨_, _, _, _, _, _, _, q⟩ := q
  exact q

theorem n2_mo_fails {v : VS} {k : Int} (hX : XI v) (hp_a : 1 ≤ k ∧ k ≤ 3) (hp_b : (v 203 7) ≤ (v 203 6) ∧ ((v 203 8) = 0 ∨ (v 203 9) < (v 203 7)) ∧ (v 203 9) ≤ (v 203 7)) : ((mo_fails v k) 203 12) ≠ 0 := by
  have q : WV (0, fun _ => 0, none) 0 219 0 [some (.inr (.inr (some 203))), some (.inl k)] [] 1 v (fun _ _ _ => ((mo_fails v k) 203 12) ≠ 0) := w_mo_fails (X := (0, fun _ => 0, none)) (d := 0) (b := 1) hX hp_a hp_b (fun _ _ _ q => q)
  obtain ⟨_, _, _, _, _, _, _, q⟩ := q
  exact q

theorem o_mo_fails {rk : Nat} {v : VS} {k : Int} (hk : (rk < 203 ∨ 203 < rk)) : (mo_fails v k) rk = v rk := by
  unfold mo_fails
  by_cases hc_ : (v 203 12) = 0
  · rw [if_pos hc_]
    all_goals (show (v2 (v2 v 203 12 k) 203 13 (v 203 9)) rk = _)
    all_goals (rw [v2_row (by omega), v2_row (by omega)])
  · rw [if_neg hc_]
    all_goals (show v rk = _)
    all_goals rfl

def mo_isGood (v : VS)  : Int :=
  (if (v 203 12) = 0 then 1 else 0)
theorem w_mo_isGood {X : PX} {d b : Nat} {v : VS}  (hX : XI v)  {Q : Option PV → Nat → VS → Prop} (hQ : Q (some (.inl (mo_isGood v))) b v) : WV X d 215 0 [some (.inr (.inr (some 203)))] [] b v Q := by
  rw [mo_isGood] at hQ
  refine r_ex 2 (pc' := 4) (lo' := [some (.inr (.inr (some 203)))]) (st' := [.inl (v 203 12)]) rfl ?_
  have hb_1 : 0 ≤ (v 203 12) ∧ (v 203 12) ≤ 3 := hX 203 12
  refine n_if_ne (pc0 := 4) (len := 3) (t := 11) rfl (by first | assumption | omega | (unfold R32 at *; omega) | (unfold R64 at *; omega) | (simp only [R32, R64] at *; omega)) (fun h_4 => ?_) (fun h_4 => ?_)
  · show WV _ _ _ 11 _ _ _ _ _
    rw [if_neg h_4] at hQ
    refine r_ex 1 (pc' := 12) (lo' := [some (.inr (.inr (some 203)))]) (st' := [.inl 0]) rfl ?_
    refine r_ret (rr := some (.inl 0)) (I := .ireturn) (pc0 := 12) (len := 1) rfl rfl ?_
    exact hQ 
  · show WV _ _ _ 7 _ _ _ _ _
    rw [if_pos h_4] at hQ
    refine r_ex 2 (pc' := 12) (lo' := [some (.inr (.inr (some 203)))]) (st' := [.inl 1]) rfl ?_
    refine r_ret (rr := some (.inl 1)) (I := .ireturn) (pc0 := 12) (len := 1) rfl rfl ?_
    exact hQ 

theorem q_mo_isGood {X : PX} {d b : Nat} {v : VS}  (hX : XI v)  : EvV X d 215 [.inr (.inr (some 203))] b v (some (.inl (mo_isGood v))) b v := EvV.of (w_mo_isGood hX  (⟨rfl, rfl, rfl⟩))

theorem p_mo_isGood {v : VS}  : (mo_isGood v) = (if v 203 12 = 0 then 1 else 0) := by
  unfold mo_isGood
  repeat' split
  all_goals omega

theorem e_mo_isGood {X : PX} {d b : Nat} {v : VS}  (hX : XI v)  : EvV X d 215 [.inr (.inr (some 203))] b v (some (.inl (if v 203 12 = 0 then 1 else 0))) b v := by
  rw [← p_mo_isGood]
  exact q_mo_isGood hX 

def mo_is (v : VS) (y : Int) : Int :=
  (if (v 203 12) = 0 then (if (v 203 8) = 1 then (if (v 203 11) = y then 1 else 0) else 0) else 0)
theorem w_mo_is {X : PX} {d b : Nat} {v : VS} {y : Int} (hX : XI v) (hp_a : R64 y) {Q : Option PV → Nat → VS → Prop} (hQ : Q (some (.inl (mo_is v y))) b v) : WV X d 218 0 [some (.inr (.inr (some 203))), some (.inr (.inl y)), none] [] b v Q := by
  rw [mo_is] at hQ
  refine r_ex 2 (pc' := 4) (lo' := [some (.inr (.inr (some 203))), some (.inr (.inl y)), none]) (st' := [.inl (v 203 12)]) rfl ?_
  have hb_1 : 0 ≤ (v 203 12) ∧ (v 203 12) ≤ 3 := hX 203 12
  refine n_if_ne (pc0 := 4) (len := 3) (t := 28) rfl (by first | assumption | omega | (unfold R32 at *; omega) | (unfold R64 at *; omega) | (simp only [R32, R64] at *; omega)) (fun h_4 => ?_) (fun h_4 => ?_)
  · show WV _ _ _ 28 _ _ _ _ _
    rw [if_neg h_4] at hQ
    refine r_ex 1 (pc' := 29) (lo' := [some (.inr (.inr (some 203))), some (.inr (.inl y)), none]) (st' := [.inl 0]) rfl ?_
    refine r_ret (rr := some (.inl 0)) (I := .ireturn) (pc0 := 29) (len := 1) rfl rfl ?_
    exact hQ 
  · show WV _ _ _ 7 _ _ _ _ _
    rw [if_pos h_4] at hQ
    refine r_ex 3 (pc' := 12) (lo' := [some (.inr (.inr (some 203))), some (.inr (.inl y)), none]) (st' := [.inl 1, .inl (v 203 8)]) rfl ?_
    have hb_2 : 0 ≤ (v 203 8) ∧ (v 203 8) ≤ 4 := hX 203 8
    refine n_ic_ne (pc0 := 12) (len := 3) (t := 28) rfl (by first | assumption | omega | (unfold R32 at *; omega) | (unfold R64 at *; omega) | (simp only [R32, R64] at *; omega)) (by first | assumption | omega | (unfold R32 at *; omega) | (unfold R64 at *; omega) | (simp only [R32, R64] at *; omega)) (fun h_12 => ?_) (fun h_12 => ?_)
    · show WV _ _ _ 28 _ _ _ _ _
      rw [if_neg h_12] at hQ
      refine r_ex 1 (pc' := 29) (lo' := [some (.inr (.inr (some 203))), some (.inr (.inl y)), none]) (st' := [.inl 0]) rfl ?_
      refine r_ret (rr := some (.inl 0)) (I := .ireturn) (pc0 := 29) (len := 1) rfl rfl ?_
      exact hQ 
    · show WV _ _ _ 15 _ _ _ _ _
      rw [if_pos h_12] at hQ
      refine r_ex 3 (pc' := 20) (lo' := [some (.inr (.inr (some 203))), some (.inr (.inl y)), none]) (st' := [.inr (.inl y), .inr (.inl (v 203 11))]) rfl ?_
      have hb_3 : -9223372036854775808 ≤ (v 203 11) ∧ (v 203 11) ≤ 9223372036854775807 := hX 203 11
      refine n_lc_ne (pc0 := 20) (len := 1) (pc1 := 21) (pc2 := 21) (len2 := 3) (t := 28) rfl rfl rfl (by first | assumption | omega | (unfold R32 at *; omega) | (unfold R64 at *; omega) | (simp only [R32, R64] at *; omega)) (by first | assumption | omega | (unfold R32 at *; omega) | (unfold R64 at *; omega) | (simp only [R32, R64] at *; omega)) (fun h_20 => ?_) (fun h_20 => ?_)
      · show WV _ _ _ 28 _ _ _ _ _
        rw [if_neg h_20] at hQ
        refine r_ex 1 (pc' := 29) (lo' := [some (.inr (.inr (some 203))), some (.inr (.inl y)), none]) (st' := [.inl 0]) rfl ?_
        refine r_ret (rr := some (.inl 0)) (I := .ireturn) (pc0 := 29) (len := 1) rfl rfl ?_
        exact hQ 
      · show WV _ _ _ 24 _ _ _ _ _
        rw [if_pos h_20] at hQ
        refine r_ex 2 (pc' := 29) (lo' := [some (.inr (.inr (some 203))), some (.inr (.inl y)), none]) (st' := [.inl 1]) rfl ?_
        refine r_ret (rr := some (.inl 1)) (I := .ireturn) (pc0 := 29) (len := 1) rfl rfl ?_
        exact hQ 

theorem q_mo_is {X : PX} {d b : Nat} {v : VS} {y : Int} (hX : XI v) (hp_a : R64 y) : EvV X d 218 [.inr (.inr (some 203)), .inr (.inl y)] b v (some (.inl (mo_is v y))) b v := EvV.of (w_mo_is hX hp_a (⟨rfl, rfl, rfl⟩))

theorem p_mo_is {v : VS} {y : Int} : (mo_is v y) = (if v 203 12 = 0 ∧ v 203 8 = 1 ∧ v 203 11 = y then 1 else 0) := by
  unfold mo_is
  repeat' split
  all_goals omega

theorem e_mo_is {X : PX} {d b : Nat} {v : VS} {y : Int} (hX : XI v) (hp_a : R64 y) : EvV X d 218 [.inr (.inr (some 203)), .inr (.inl y)] b v (some (.inl (if v 203 12 = 0 ∧ v 203 8 = 1 ∧ v 203 11 = y then 1 else 0))) b v := by
  rw [← p_mo_is]
  exact q_mo_is hX hp_a

def mo_takesW (v : VS) (y : Int) : Int × VS :=
  (if (v 203 12) = 0 ∧ (v 203 8) = 1 ∧ (v 203 11) = y then (1, (mo_next v)) else (0, v))
theorem w_mo_takesW {X : PX} {d b : Nat} {v : VS} {y : Int} (hX : XI v) (hp_a : R64 y) (hp_b : (v 203 7) ≤ (v 203 6) ∧ ((v 203 8) = 0 ∨ (v 203 9) < (v 203 7)) ∧ (v 203 9) ≤ (v 203 7)) {Q : Option PV → Nat → VS → Prop} (hQ : XI (mo_takesW v y).2 → (0 ≤ (mo_takesW v y).1 ∧ (mo_takesW v y).1 ≤ 1) → (((mo_takesW v y).2 203 7) ≤ ((mo_takesW v y).2 203 6) ∧ (((mo_takesW v y).2 203 8) = 0 ∨ ((mo_takesW v y).2 203 9) < ((mo_takesW v y).2 203 7)) ∧ ((mo_takesW v y).2 203 9) ≤ ((mo_takesW v y).2 203 7)) → ((v 203 9) ≤ ((mo_takesW v y).2 203 9)) → Q (some (.inl (mo_takesW v y).1)) b (mo_takesW v y).2) : WV X (d + 1 + 1) 217 0 [some (.inr (.inr (some 203))), some (.inr (.inl y)), none] [] b v Q := by
  rw [mo_takesW] at hQ
  refine r_ex 2 (pc' := 2) (lo' := [some (.inr (.inr (some 203))), some (.inr (.inl y)), none]) (st' := [.inr (.inl y), .inr (.inr (some 203))]) rfl ?_
  have hp_1 : R64 y := (by first | assumption | omega | (unfold R32 at *; omega) | (unfold R64 at *; omega) | (simp only [R32, R64] at *; omega))
  have hb_2 : 0 ≤ v 203 12 ∧ v 203 12 ≤ 3 := hX 203 12
  have hb_3 : 0 ≤ v 203 8 ∧ v 203 8 ≤ 4 := hX 203 8
  have hb_4 : -9223372036854775808 ≤ v 203 11 ∧ v 203 11 ≤ 9223372036854775807 := hX 203 11
  refine r_callb (P := (v 203 12) = 0 ∧ (v 203 8) = 1 ∧ (v 203 11) = y) (m := 218) (args := [.inr (.inr (some 203)), .inr (.inl y)]) (n' := 217) (pc' := 5) (lo' := [some (.inr (.inr (some 203))), some (.inr (.inl y)), none]) (st' := []) (I := .invokevirtual 218) (pc0 := 2) (len := 3) rfl rfl rfl (e_mo_is hX hp_1) (fun h_2 => ?_) (fun h_2 => ?_)
  · show WV _ _ _ 5 _ _ _ _ _
    rw [if_pos h_2] at hQ
    refine r_ex 2 (pc' := 11) (lo' := [some (.inr (.inr (some 203))), some (.inr (.inl y)), none]) (st' := [.inr (.inr (some 203))]) rfl ?_
    have hp_5 : (v 203 7) ≤ (v 203 6) := (show (v 203 7) ≤ (v 203 6) from (by first | assumption | omega | (unfold R32 at *; omega) | (unfold R64 at *; omega) | (simp only [R32, R64] at *; omega)))
    refine r_call (m := 213) (args := [.inr (.inr (some 203))]) (n' := 217) (pc' := 14) (lo' := [some (.inr (.inr (some 203))), some (.inr (.inl y)), none]) (st' := []) (I := .invokevirtual 213) (pc0 := 11) (len := 3) rfl rfl rfl (e_mo_next hX hp_5) ?_
    show WV _ _ _ 14 _ [] _ (mo_next v) _
    have hX_6 : XI (mo_next v) := i_mo_next (v := v) hX hp_5
    have hb_7 : ((mo_next v) 203 7) ≤ ((mo_next v) 203 6) ∧ (((mo_next v) 203 8) = 0 ∨ ((mo_next v) 203 9) < ((mo_next v) 203 7)) ∧ ((mo_next v) 203 9) ≤ ((mo_next v) 203 7) := n0_mo_next (v := v) hX hp_5
    have hb_8 : (v 203 7) ≤ ((mo_next v) 203 9) := n1_mo_next (v := v) hX hp_5
    have hb_9 : ((mo_next v) 203 12) = (v 203 12) := n2_mo_next (v := v) hX hp_5
    refine r_ex 1 (pc' := 15) (lo' := [some (.inr (.inr (some 203))), some (.inr (.inl y)), none]) (st' := [.inl 1]) rfl ?_
    refine r_ret (rr := some (.inl 1)) (I := .ireturn) (pc0 := 15) (len := 1) rfl rfl ?_
    exact hQ hX_6 (by first | assumption | omega | (unfold R32 at *; omega) | (unfold R64 at *; omega) | (simp only [R32, R64] at *; omega)) (show ((mo_next v) 203 7) ≤ ((mo_next v) 203 6) ∧ (((mo_next v) 203 8) = 0 ∨ ((mo_next v) 203 9) < ((mo_next v) 203 7)) ∧ ((mo_next v) 203 9) ≤ ((mo_next v) 203 7) from (by first | assumption | omega | (unfold R32 at *; omega) | (unfold R64 at *; omega) | (simp only [R32, R64] at *; omega))) (show (v 203 9) ≤ ((mo_next v) 203 9) from (by first | assumption | omega | (unfold R32 at *; omega) | (unfold R64 at *; omega) | (simp only [R32, R64] at *; omega)))
  · show WV _ _ _ 5 _ _ _ _ _
    rw [if_neg h_2] at hQ
    refine r_ex 2 (pc' := 9) (lo' := [some (.inr (.inr (some 203))), some (.inr (.inl y)), none]) (st' := [.inl 0]) rfl ?_
    refine r_ret (rr := some (.inl 0)) (I := .ireturn) (pc0 := 9) (len := 1) rfl rfl ?_
    exact hQ hX (by first | assumption | omega | (unfold R32 at *; omega) | (unfold R64 at *; omega) | (simp only [R32, R64] at *; omega)) (show (v 203 7) ≤ (v 203 6) ∧ ((v 203 8) = 0 ∨ (v 203 9) < (v 203 7)) ∧ (v 203 9) ≤ (v 203 7) from (by first | assumption | omega | (unfold R32 at *; omega) | (unfold R64 at *; omega) | (simp only [R32, R64] at *; omega))) (show (v 203 9) ≤ (v 203 9) from (by first | assumption | omega | (unfold R32 at *; omega) | (unfold R64 at *; omega) | (simp only [R32, R64] at *; omega)))

theorem e_mo_takesW {X : PX} {d b : Nat} {v : VS} {y : Int} (hX : XI v) (hp_a : R64 y) (hp_b : (v 203 7) ≤ (v 203 6) ∧ ((v 203 8) = 0 ∨ (v 203 9) < (v 203 7)) ∧ (v 203 9) ≤ (v 203 7)) : EvV X (d + 1 + 1) 217 [.inr (.inr (some 203)), .inr (.inl y)] b v (some (.inl (mo_takesW v y).1)) b ((mo_takesW v y).2) := EvV.of (w_mo_takesW hX hp_a hp_b (fun _ _ _ _ => ⟨rfl, rfl, rfl⟩))

theorem i_mo_takesW {v : VS} {y : Int} (hX : XI v) (hp_a : R64 y) (hp_b : (v 203 7) ≤ (v 203 6) ∧ ((v 203 8) = 0 ∨ (v 203 9) < (v 203 7)) ∧ (v 203 9) ≤ (v 203 7)) : XI ((mo_takesW v y).2) := by
  have q : WV (0, fun _ => 0, none) (0 + 1 + 1) 217 0 [some (.inr (.inr (some 203))), some (.inr (.inl y)), none] [] 1 v (fun _ _ _ => XI ((mo_takesW v y).2)) := w_mo_takesW (X := (0, fun _ => 0, none)) (d := 0) (b := 1) hX hp_a hp_b (fun q _ _ _ => q)
  obtain ⟨_, _, _, _, _, _, _, q⟩ := q
  exact q

theorem n0_mo_takesW {v : VS} {y : Int} (hX : XI v) (hp_a : R64 y) (hp_b : (v 203 7) ≤ (v 203 6) ∧ ((v 203 8) = 0 ∨ (v 203 9) < (v 203 7)) ∧ (v 203 9) ≤ (v 203 7)) : 0 ≤ (mo_takesW v y).1 ∧ (mo_takesW v y).1 ≤ 1 := by
  have q : WV (0, fun _ => 0, none) (0 + 1 + 1) 217 0 [some (.inr (.inr (some 203))), some (.inr (.inl y)), none] [] 1 v (fun _ _ _ => 0 ≤ (mo_takesW v y).1 ∧ (mo_takesW v y).1 ≤ 1) := w_mo_takesW (X := (0, fun _ => 0, none)) (d := 0) (b := 1) hX hp_a hp_b (fun _ q _ _ => q)
  obtain ⟨_, _, _, _, _, _, _, q⟩ := q
  exact q

theorem n1_mo_takesW {v : VS} {y : Int} (hX : XI v) (hp_a : R64 y) (hp_b : (v 203 7) ≤ (v 203 6) ∧ ((v 203 8) = 0 ∨ (v 203 9) < (v 203 7)) ∧ (v 203 9) ≤ (v 203 7)) : ((mo_takesW v y).2 203 7) ≤ ((mo_takesW v y).2 203 6) ∧ (((mo_takesW v y).2 203 8) = 0 ∨ ((mo_takesW v y).2 203 9) < ((mo_takesW v y).2 203 7)) ∧ ((mo_takesW v y).2 203 9) ≤ ((mo_takesW v y).2 203 7) := by
  have q : WV (0, fun _ => 0, none) (0 + 1 + 1) 217 0 [some (.inr (.inr (some 203))), some (.inr (.inl y)), none] [] 1 v (fun _ _ _ => ((mo_takesW v y).2 203 7) ≤ ((mo_takesW v y).2 203 6) ∧ (((mo_takesW v y).2 203 8) = 0 ∨ ((mo_takesW v y).2 203 9) < ((mo_takesW v y).2 203 7)) ∧ ((mo_takesW v y).2 203 9) ≤ ((mo_takesW v y).2 203 7)) := w_mo_takesW (X := (0, fun _ => 0, none)) (d := 0) (b := 1) hX hp_a hp_b (fun _ _ q _ => q)
  obtain ⟨_, _, _, _, _, _, _, q⟩ := q
  exact q

theorem n2_mo_takesW {v : VS} {y : Int} (hX : XI v) (hp_a : R64 y) (hp_b : (v 203 7) ≤ (v 203 6) ∧ ((v 203 8) = 0 ∨ (v 203 9) < (v 203 7)) ∧ (v 203 9) ≤ (v 203 7)) : (v 203 9) ≤ ((mo_takesW v y).2 203 9) := by
  have q : WV (0, fun _ => 0, none) (0 + 1 + 1) 217 0 [some (.inr (.inr (some 203))), some (.inr (.inl y)), none] [] 1 v (fun _ _ _ => (v 203 9) ≤ ((mo_takesW v y).2 203 9)) := w_mo_takesW (X := (0, fun _ => 0, none)) (d := 0) (b := 1) hX hp_a hp_b (fun _ _ _ q => q)
  obtain ⟨_, _, _, _, _, _, _, q⟩ := q
  exact q

theorem o_mo_takesW {rk : Nat} {v : VS} {y : Int} (hk : (rk < 203 ∨ 203 < rk)) : (mo_takesW v y).2 rk = v rk := by
  unfold mo_takesW
  by_cases hc_ : (v 203 12) = 0 ∧ (v 203 8) = 1 ∧ (v 203 11) = y
  · rw [if_pos hc_]
    all_goals (show (mo_next v) rk = _)
    all_goals (rw [o_mo_next (by omega)])
  · rw [if_neg hc_]
    all_goals (show v rk = _)
    all_goals rfl

def mo_asks (v : VS) (y : Int) : VS :=
  (if (mo_takesW v y).1 = 0 then (mo_fails ((mo_takesW v y).2) 1) else (mo_takesW v y).2)
theorem w_mo_asks {X : PX} {d b : Nat} {v : VS} {y : Int} (hX : XI v) (hp_a : R64 y) (hp_b : (v 203 7) ≤ (v 203 6) ∧ ((v 203 8) = 0 ∨ (v 203 9) < (v 203 7)) ∧ (v 203 9) ≤ (v 203 7)) {Q : Option PV → Nat → VS → Prop} (hQ : XI (mo_asks v y) → (((mo_asks v y) 203 7) ≤ ((mo_asks v y) 203 6) ∧ (((mo_asks v y) 203 8) = 0 ∨ ((mo_asks v y) 203 9) < ((mo_asks v y) 203 7)) ∧ ((mo_asks v y) 203 9) ≤ ((mo_asks v y) 203 7)) → ((v 203 9) ≤ ((mo_asks v y) 203 9)) → Q none b (mo_asks v y)) : WV X (d + 1 + 1 + 1) 216 0 [some (.inr (.inr (some 203))), some (.inr (.inl y)), none] [] b v Q := by
  rw [mo_asks] at hQ
  refine r_ex 2 (pc' := 2) (lo' := [some (.inr (.inr (some 203))), some (.inr (.inl y)), none]) (st' := [.inr (.inl y), .inr (.inr (some 203))]) rfl ?_
  have hp_1 : R64 y := (by first | assumption | omega | (unfold R32 at *; omega) | (unfold R64 at *; omega) | (simp only [R32, R64] at *; omega))
  have hp_2 : (v 203 7) ≤ (v 203 6) ∧ ((v 203 8) = 0 ∨ (v 203 9) < (v 203 7)) ∧ (v 203 9) ≤ (v 203 7) := (show (v 203 7) ≤ (v 203 6) ∧ ((v 203 8) = 0 ∨ (v 203 9) < (v 203 7)) ∧ (v 203 9) ≤ (v 203 7) from (by first | assumption | omega | (unfold R32 at *; omega) | (unfold R64 at *; omega) | (simp only [R32, R64] at *; omega)))
  refine r_call (m := 217) (args := [.inr (.inr (some 203)), .inr (.inl y)]) (n' := 216) (pc' := 5) (lo' := [some (.inr (.inr (some 203))), some (.inr (.inl y)), none]) (st' := []) (I := .invokevirtual 217) (pc0 := 2) (len := 3) rfl rfl rfl (e_mo_takesW hX hp_1 hp_2) ?_
  show WV _ _ _ 5 _ [.inl ((mo_takesW v y).1)] _ (mo_takesW v y).2 _
  have hX_3 : XI (mo_takesW v y).2 := i_mo_takesW (v := v) (y := y) hX hp_1 hp_2
  have hb_4 := n0_mo_takesW (v := v) (y := y) hX hp_1 hp_2
  have hb_5 : ((mo_takesW v y).2 203 7) ≤ ((mo_takesW v y).2 203 6) ∧ (((mo_takesW v y).2 203 8) = 0 ∨ ((mo_takesW v y).2 203 9) < ((mo_takesW v y).2 203 7)) ∧ ((mo_takesW v y).2 203 9) ≤ ((mo_takesW v y).2 203 7) := n1_mo_takesW (v := v) (y := y) hX hp_1 hp_2
  have hb_6 : (v 203 9) ≤ ((mo_takesW v y).2 203 9) := n2_mo_takesW (v := v) (y := y) hX hp_1 hp_2
  refine n_if_ne (pc0 := 5) (len := 3) (t := 13) rfl (by first | assumption | omega | (unfold R32 at *; omega) | (unfold R64 at *; omega) | (simp only [R32, R64] at *; omega)) (fun h_5 => ?_) (fun h_5 => ?_)
  · show WV _ _ _ 13 _ _ _ _ _
    rw [if_neg h_5] at hQ
    refine r_ret (rr := none) (I := .return_) (pc0 := 13) (len := 1) rfl rfl ?_
    exact hQ hX_3 (show ((mo_takesW v y).2 203 7) ≤ ((mo_takesW v y).2 203 6) ∧ (((mo_takesW v y).2 203 8) = 0 ∨ ((mo_takesW v y).2 203 9) < ((mo_takesW v y).2 203 7)) ∧ ((mo_takesW v y).2 203 9) ≤ ((mo_takesW v y).2 203 7) from (by first | assumption | omega | (unfold R32 at *; omega) | (unfold R64 at *; omega) | (simp only [R32, R64] at *; omega))) (show (v 203 9) ≤ ((mo_takesW v y).2 203 9) from (by first | assumption | omega | (unfold R32 at *; omega) | (unfold R64 at *; omega) | (simp only [R32, R64] at *; omega)))
  · show WV _ _ _ 8 _ _ _ _ _
    rw [if_pos h_5] at hQ
    refine r_ex 2 (pc' := 10) (lo' := [some (.inr (.inr (some 203))), some (.inr (.inl y)), none]) (st' := [.inl 1, .inr (.inr (some 203))]) rfl ?_
    have hp_7 : 1 ≤ (1 : Int) ∧ (1 : Int) ≤ 3 := (by first | assumption | omega | (unfold R32 at *; omega) | (unfold R64 at *; omega) | (simp only [R32, R64] at *; omega))
    have hp_8 : (((mo_takesW v y).2) 203 7) ≤ (((mo_takesW v y).2) 203 6) ∧ ((((mo_takesW v y).2) 203 8) = 0 ∨ (((mo_takesW v y).2) 203 9) < (((mo_takesW v y).2) 203 7)) ∧ (((mo_takesW v y).2) 203 9) ≤ (((mo_takesW v y).2) 203 7) := (show ((mo_takesW v y).2 203 7) ≤ ((mo_takesW v y).2 203 6) ∧ (((mo_takesW v y).2 203 8) = 0 ∨ ((mo_takesW v y).2 203 9) < ((mo_takesW v y).2 203 7)) ∧ ((mo_takesW v y).2 203 9) ≤ ((mo_takesW v y).2 203 7) from (by first | assumption | omega | (unfold R32 at *; omega) | (unfold R64 at *; omega) | (simp only [R32, R64] at *; omega)))
    refine r_call (m := 219) (args := [.inr (.inr (some 203)), .inl 1]) (n' := 216) (pc' := 13) (lo' := [some (.inr (.inr (some 203))), some (.inr (.inl y)), none]) (st' := []) (I := .invokevirtual 219) (pc0 := 10) (len := 3) rfl rfl rfl (e_mo_fails hX_3 hp_7 hp_8) ?_
    show WV _ _ _ 13 _ [] _ (mo_fails ((mo_takesW v y).2) 1) _
    have hX_9 : XI (mo_fails ((mo_takesW v y).2) 1) := i_mo_fails (v := (mo_takesW v y).2) (k := 1) hX_3 hp_7 hp_8
    have hb_10 : ((mo_fails ((mo_takesW v y).2) 1) 203 7) ≤ ((mo_fails ((mo_takesW v y).2) 1) 203 6) ∧ (((mo_fails ((mo_takesW v y).2) 1) 203 8) = 0 ∨ ((mo_fails ((mo_takesW v y).2) 1) 203 9) < ((mo_fails ((mo_takesW v y).2) 1) 203 7)) ∧ ((mo_fails ((mo_takesW v y).2) 1) 203 9) ≤ ((mo_fails ((mo_takesW v y).2) 1) 203 7) := n0_mo_fails (v := (mo_takesW v y).2) (k := 1) hX_3 hp_7 hp_8
    have hb_11 : ((mo_takesW v y).2 203 9) ≤ ((mo_fails ((mo_takesW v y).2) 1) 203 9) := n1_mo_fails (v := (mo_takesW v y).2) (k := 1) hX_3 hp_7 hp_8
    have hb_12 : ((mo_fails ((mo_takesW v y).2) 1) 203 12) ≠ 0 := n2_mo_fails (v := (mo_takesW v y).2) (k := 1) hX_3 hp_7 hp_8
    refine r_ret (rr := none) (I := .return_) (pc0 := 13) (len := 1) rfl rfl ?_
    exact hQ hX_9 (show ((mo_fails ((mo_takesW v y).2) 1) 203 7) ≤ ((mo_fails ((mo_takesW v y).2) 1) 203 6) ∧ (((mo_fails ((mo_takesW v y).2) 1) 203 8) = 0 ∨ ((mo_fails ((mo_takesW v y).2) 1) 203 9) < ((mo_fails ((mo_takesW v y).2) 1) 203 7)) ∧ ((mo_fails ((mo_takesW v y).2) 1) 203 9) ≤ ((mo_fails ((mo_takesW v y).2) 1) 203 7) from (by first | assumption | omega | (unfold R32 at *; omega) | (unfold R64 at *; omega) | (simp only [R32, R64] at *; omega))) (show (v 203 9) ≤ ((mo_fails ((mo_takesW v y).2) 1) 203 9) from (by first | assumption | omega | (unfold R32 at *; omega) | (unfold R64 at *; omega) | (simp only [R32, R64] at *; omega)))

theorem e_mo_asks {X : PX} {d b : Nat} {v : VS} {y : Int} (hX : XI v) (hp_a : R64 y) (hp_b : (v 203 7) ≤ (v 203 6) ∧ ((v 203 8) = 0 ∨ (v 203 9) < (v 203 7)) ∧ (v 203 9) ≤ (v 203 7)) : EvV X (d + 1 + 1 + 1) 216 [.inr (.inr (some 203)), .inr (.inl y)] b v none b (mo_asks v y) := EvV.of (w_mo_asks hX hp_a hp_b (fun _ _ _ => ⟨rfl, rfl, rfl⟩))

theorem i_mo_asks {v : VS} {y : Int} (hX : XI v) (hp_a : R64 y) (hp_b : (v 203 7) ≤ (v 203 6) ∧ ((v 203 8) = 0 ∨ (v 203 9) < (v 203 7)) ∧ (v 203 9) ≤ (v 203 7)) : XI (mo_asks v y) := by
  have q : WV (0, fun _ => 0, none) (0 + 1 + 1 + 1) 216 0 [some (.inr (.inr (some 203))), some (.inr (.inl y)), none] [] 1 v (fun _ _ _ => XI (mo_asks v y)) := w_mo_asks (X := (0, fun _ => 0, none)) (d := 0) (b := 1) hX hp_a hp_b (fun q _ _ => q)
  obtain ⟨_, _, _, _, _, _, _, q⟩ := q
  exact q

theorem n0_mo_asks {v : VS} {y : Int} (hX : XI v) (hp_a : R64 y) (hp_b : (v 203 7) ≤ (v 203 6) ∧ ((v 203 8) = 0 ∨ (v 203 9) < (v 203 7)) ∧ (v 203 9) ≤ (v 203 7)) : ((mo_asks v y) 203 7) ≤ ((mo_asks v y) 203 6) ∧ (((mo_asks v y) 203 8) = 0 ∨ ((mo_asks v y) 203 9) < ((mo_asks v y) 203 7)) ∧ ((mo_asks v y) 203 9) ≤ ((mo_asks v y) 203 7) := by
  have q : WV (0, fun _ => 0, none) (0 + 1 + 1 + 1) 216 0 [some (.inr (.inr (some 203))), some (.inr (.inl y)), none] [] 1 v (fun _ _ _ => ((mo_asks v y) 203 7) ≤ ((mo_asks v y) 203 6) ∧ (((mo_asks v y) 203 8) = 0 ∨ ((mo_asks v y) 203 9) < ((mo_asks v y) 203 7)) ∧ ((mo_asks v y) 203 9) ≤ ((mo_asks v y) 203 7)) := w_mo_asks (X := (0, fun _ => 0, none)) (d := 0) (b := 1) hX hp_a hp_b (fun _ q _ => q)
  obtain ⟨_, _, _, _, _, _, _, q⟩ := q
  exact q

theorem n1_mo_asks {v : VS} {y : Int} (hX : XI v) (hp_a : R64 y) (hp_b : (v 203 7) ≤ (v 203 6) ∧ ((v 203 8) = 0 ∨ (v 203 9) < (v 203 7)) ∧ (v 203 9) ≤ (v 203 7)) : (v 203 9) ≤ ((mo_asks v y) 203 9) := by
  have q : WV (0, fun _ => 0, none) (0 + 1 + 1 + 1) 216 0 [some (.inr (.inr (some 203))), some (.inr (.inl y)), none] [] 1 v (fun _ _ _ => (v 203 9) ≤ ((mo_asks v y) 203 9)) := w_mo_asks (X := (0, fun _ => 0, none)) (d := 0) (b := 1) hX hp_a hp_b (fun _ _ q => q)
  obtain ⟨_, _, _, _, _, _, _, q⟩ := q
  exact q

theorem o_mo_asks {rk : Nat} {v : VS} {y : Int} (hk : (rk < 203 ∨ 203 < rk)) : (mo_asks v y) rk = v rk := by
  unfold mo_asks
  by_cases hc_ : (mo_takesW v y).1 = 0
  · rw [if_pos hc_]
    all_goals (show (mo_fails ((mo_takesW v y).2) 1) rk = _)
    all_goals (rw [o_mo_fails (by omega), o_mo_takesW (by omega)])
  · rw [if_neg hc_]
    all_goals (show ((mo_takesW v y).2) rk = _)
    all_goals (rw [o_mo_takesW (by omega)])

def mo_number (v : VS) (l : Int) (g : Int) : Int × VS :=
  (if (v 203 12) = 0 then (if (v 203 8) = 2 then (if l ≤ (v 203 10) ∧ (v 203 10) ≤ g then ((v 203 10), (mo_next v)) else (l, (mo_fails v 2))) else (l, (mo_fails v 1))) else (l, v))
theorem w_mo_number {X : PX} {d b : Nat} {v : VS} {l : Int} {g : Int} (hX : XI v) (hp_a : 0 ≤ l ∧ l ≤ 300) (hp_b : -1 ≤ g ∧ g ≤ 300) (hp_c : (v 203 7) ≤ (v 203 6) ∧ ((v 203 8) = 0 ∨ (v 203 9) < (v 203 7)) ∧ (v 203 9) ≤ (v 203 7)) {Q : Option PV → Nat → VS → Prop} (hQ : XI (mo_number v l g).2 → (l ≤ (mo_number v l g).1 ∧ ((mo_number v l g).1 ≤ g ∨ (mo_number v l g).1 = l)) → (((mo_number v l g).2 203 7) ≤ ((mo_number v l g).2 203 6) ∧ (((mo_number v l g).2 203 8) = 0 ∨ ((mo_number v l g).2 203 9) < ((mo_number v l g).2 203 7)) ∧ ((mo_number v l g).2 203 9) ≤ ((mo_number v l g).2 203 7)) → ((v 203 9) ≤ ((mo_number v l g).2 203 9)) → Q (some (.inl (mo_number v l g).1)) b (mo_number v l g).2) : WV X (d + 1 + 1) 221 0 [some (.inr (.inr (some 203))), some (.inl l), some (.inl g), none] [] b v Q := by
  rw [mo_number] at hQ
  refine r_ex 2 (pc' := 4) (lo' := [some (.inr (.inr (some 203))), some (.inl l), some (.inl g), none]) (st' := [.inl (v 203 12)]) rfl ?_
  have hb_1 : 0 ≤ (v 203 12) ∧ (v 203 12) ≤ 3 := hX 203 12
  refine n_if_eq (pc0 := 4) (len := 3) (t := 9) rfl (by first | assumption | omega | (unfold R32 at *; omega) | (unfold R64 at *; omega) | (simp only [R32, R64] at *; omega)) (fun h_4 => ?_) (fun h_4 => ?_)
  · show WV _ _ _ 9 _ _ _ _ _
    rw [if_pos h_4] at hQ
    refine r_ex 3 (pc' := 14) (lo' := [some (.inr (.inr (some 203))), some (.inl l), some (.inl g), none]) (st' := [.inl 2, .inl (v 203 8)]) rfl ?_
    have hb_2 : 0 ≤ (v 203 8) ∧ (v 203 8) ≤ 4 := hX 203 8
    refine n_ic_eq (pc0 := 14) (len := 3) (t := 24) rfl (by first | assumption | omega | (unfold R32 at *; omega) | (unfold R64 at *; omega) | (simp only [R32, R64] at *; omega)) (by first | assumption | omega | (unfold R32 at *; omega) | (unfold R64 at *; omega) | (simp only [R32, R64] at *; omega)) (fun h_14 => ?_) (fun h_14 => ?_)
    · show WV _ _ _ 24 _ _ _ _ _
      rw [if_pos h_14] at hQ
      refine r_ex 2 (pc' := 28) (lo' := [some (.inr (.inr (some 203))), some (.inl l), some (.inl g), none]) (st' := [.inl (v 203 10)]) rfl ?_
      have hb_3 : 0 ≤ (v 203 10) ∧ (v 203 10) ≤ 1000009 := hX 203 10
      refine n_i2l (pc' := 29) (pc0 := 28) (len := 1) rfl (by first | assumption | omega | (unfold R32 at *; omega) | (unfold R64 at *; omega) | (simp only [R32, R64] at *; omega)) rfl ?_
      refine r_ex 1 (pc' := 30) (lo' := [some (.inr (.inr (some 203))), some (.inl l), some (.inl g), none]) (st' := [.inl l, .inr (.inl (v 203 10))]) rfl ?_
      refine n_i2l (pc' := 31) (pc0 := 30) (len := 1) rfl (by first | assumption | omega | (unfold R32 at *; omega) | (unfold R64 at *; omega) | (simp only [R32, R64] at *; omega)) rfl ?_
      refine r_ex 1 (pc' := 32) (lo' := [some (.inr (.inr (some 203))), some (.inl l), some (.inl g), none]) (st' := [.inl g, .inr (.inl l), .inr (.inl (v 203 10))]) rfl ?_
      refine n_i2l (pc' := 33) (pc0 := 32) (len := 1) rfl (by first | assumption | omega | (unfold R32 at *; omega) | (unfold R64 at *; omega) | (simp only [R32, R64] at *; omega)) rfl ?_
      have hp_4 : R64 (v 203 10) := (by first | assumption | omega | (unfold R32 at *; omega) | (unfold R64 at *; omega) | (simp only [R32, R64] at *; omega))
      have hp_5 : R64 l := (by first | assumption | omega | (unfold R32 at *; omega) | (unfold R64 at *; omega) | (simp only [R32, R64] at *; omega))
      have hp_6 : R64 g := (by first | assumption | omega | (unfold R32 at *; omega) | (unfold R64 at *; omega) | (simp only [R32, R64] at *; omega))
      refine r_callb (P := l ≤ (v 203 10) ∧ (v 203 10) ≤ g) (m := 202) (args := [.inr (.inl (v 203 10)), .inr (.inl l), .inr (.inl g)]) (n' := 221) (pc' := 36) (lo' := [some (.inr (.inr (some 203))), some (.inl l), some (.inl g), none]) (st' := []) (I := .invokestatic 202) (pc0 := 33) (len := 3) rfl rfl rfl (e_mo_in hX hp_4 hp_5 hp_6) (fun h_33 => ?_) (fun h_33 => ?_)
      · show WV _ _ _ 36 _ _ _ _ _
        rw [if_pos h_33] at hQ
        refine r_ex 5 (pc' := 52) (lo' := [some (.inr (.inr (some 203))), some (.inl l), some (.inl g), some (.inl (v 203 10))]) (st' := [.inr (.inr (some 203))]) rfl ?_
        have hp_7 : (v 203 7) ≤ (v 203 6) := (show (v 203 7) ≤ (v 203 6) from (by first | assumption | omega | (unfold R32 at *; omega) | (unfold R64 at *; omega) | (simp only [R32, R64] at *; omega)))
        refine r_call (m := 213) (args := [.inr (.inr (some 203))]) (n' := 221) (pc' := 55) (lo' := [some (.inr (.inr (some 203))), some (.inl l), some (.inl g), some (.inl (v 203 10))]) (st' := []) (I := .invokevirtual 213) (pc0 := 52) (len := 3) rfl rfl rfl (e_mo_next hX hp_7) ?_
        show WV _ _ _ 55 _ [] _ (mo_next v) _
        have hX_8 : XI (mo_next v) := i_mo_next (v := v) hX hp_7
        have hb_9 : ((mo_next v) 203 7) ≤ ((mo_next v) 203 6) ∧ (((mo_next v) 203 8) = 0 ∨ ((mo_next v) 203 9) < ((mo_next v) 203 7)) ∧ ((mo_next v) 203 9) ≤ ((mo_next v) 203 7) := n0_mo_next (v := v) hX hp_7
        have hb_10 : (v 203 7) ≤ ((mo_next v) 203 9) := n1_mo_next (v := v) hX hp_7
        have hb_11 : ((mo_next v) 203 12) = (v 203 12) := n2_mo_next (v := v) hX hp_7
        refine r_ex 1 (pc' := 56) (lo' := [some (.inr (.inr (some 203))), some (.inl l), some (.inl g), some (.inl (v 203 10))]) (st' := [.inl (v 203 10)]) rfl ?_
        refine r_ret (rr := some (.inl (v 203 10))) (I := .ireturn) (pc0 := 56) (len := 1) rfl rfl ?_
        exact hQ hX_8 (by first | assumption | omega | (unfold R32 at *; omega) | (unfold R64 at *; omega) | (simp only [R32, R64] at *; omega)) (show ((mo_next v) 203 7) ≤ ((mo_next v) 203 6) ∧ (((mo_next v) 203 8) = 0 ∨ ((mo_next v) 203 9) < ((mo_next v) 203 7)) ∧ ((mo_next v) 203 9) ≤ ((mo_next v) 203 7) from (by first | assumption | omega | (unfold R32 at *; omega) | (unfold R64 at *; omega) | (simp only [R32, R64] at *; omega))) (show (v 203 9) ≤ ((mo_next v) 203 9) from (by first | assumption | omega | (unfold R32 at *; omega) | (unfold R64 at *; omega) | (simp only [R32, R64] at *; omega)))
      · show WV _ _ _ 36 _ _ _ _ _
        rw [if_neg h_33] at hQ
        refine r_ex 3 (pc' := 41) (lo' := [some (.inr (.inr (some 203))), some (.inl l), some (.inl g), none]) (st' := [.inl 2, .inr (.inr (some 203))]) rfl ?_
        have hp_12 : 1 ≤ (2 : Int) ∧ (2 : Int) ≤ 3 := (by first | assumption | omega | (unfold R32 at *; omega) | (unfold R64 at *; omega) | (simp only [R32, R64] at *; omega))
        have hp_13 : (v 203 7) ≤ (v 203 6) ∧ ((v 203 8) = 0 ∨ (v 203 9) < (v 203 7)) ∧ (v 203 9) ≤ (v 203 7) := (show (v 203 7) ≤ (v 203 6) ∧ ((v 203 8) = 0 ∨ (v 203 9) < (v 203 7)) ∧ (v 203 9) ≤ (v 203 7) from (by first | assumption | omega | (unfold R32 at *; omega) | (unfold R64 at *; omega) | (simp only [R32, R64] at *; omega)))
        refine r_call (m := 219) (args := [.inr (.inr (some 203)), .inl 2]) (n' := 221) (pc' := 44) (lo' := [some (.inr (.inr (some 203))), some (.inl l), some (.inl g), none]) (st' := []) (I := .invokevirtual 219) (pc0 := 41) (len := 3) rfl rfl rfl (e_mo_fails hX hp_12 hp_13) ?_
        show WV _ _ _ 44 _ [] _ (mo_fails v 2) _
        have hX_14 : XI (mo_fails v 2) := i_mo_fails (v := v) (k := 2) hX hp_12 hp_13
        have hb_15 : ((mo_fails v 2) 203 7) ≤ ((mo_fails v 2) 203 6) ∧ (((mo_fails v 2) 203 8) = 0 ∨ ((mo_fails v 2) 203 9) < ((mo_fails v 2) 203 7)) ∧ ((mo_fails v 2) 203 9) ≤ ((mo_fails v 2) 203 7) := n0_mo_fails (v := v) (k := 2) hX hp_12 hp_13
        have hb_16 : (v 203 9) ≤ ((mo_fails v 2) 203 9) := n1_mo_fails (v := v) (k := 2) hX hp_12 hp_13
        have hb_17 : ((mo_fails v 2) 203 12) ≠ 0 := n2_mo_fails (v := v) (k := 2) hX hp_12 hp_13
        refine r_ex 1 (pc' := 45) (lo' := [some (.inr (.inr (some 203))), some (.inl l), some (.inl g), none]) (st' := [.inl l]) rfl ?_
        refine r_ret (rr := some (.inl l)) (I := .ireturn) (pc0 := 45) (len := 1) rfl rfl ?_
        exact hQ hX_14 (by first | assumption | omega | (unfold R32 at *; omega) | (unfold R64 at *; omega) | (simp only [R32, R64] at *; omega)) (show ((mo_fails v 2) 203 7) ≤ ((mo_fails v 2) 203 6) ∧ (((mo_fails v 2) 203 8) = 0 ∨ ((mo_fails v 2) 203 9) < ((mo_fails v 2) 203 7)) ∧ ((mo_fails v 2) 203 9) ≤ ((mo_fails v 2) 203 7) from (by first | assumption | omega | (unfold R32 at *; omega) | (unfold R64 at *; omega) | (simp only [R32, R64] at *; omega))) (show (v 203 9) ≤ ((mo_fails v 2) 203 9) from (by first | assumption | omega | (unfold R32 at *; omega) | (unfold R64 at *; omega) | (simp only [R32, R64] at *; omega)))
    · show WV _ _ _ 17 _ _ _ _ _
      rw [if_neg h_14] at hQ
      refine r_ex 2 (pc' := 19) (lo' := [some (.inr (.inr (some 203))), some (.inl l), some (.inl g), none]) (st' := [.inl 1, .inr (.inr (some 203))]) rfl ?_
      have hp_18 : 1 ≤ (1 : Int) ∧ (1 : Int) ≤ 3 := (by first | assumption | omega | (unfold R32 at *; omega) | (unfold R64 at *; omega) | (simp only [R32, R64] at *; omega))
      have hp_19 : (v 203 7) ≤ (v 203 6) ∧ ((v 203 8) = 0 ∨ (v 203 9) < (v 203 7)) ∧ (v 203 9) ≤ (v 203 7) := (show (v 203 7) ≤ (v 203 6) ∧ ((v 203 8) = 0 ∨ (v 203 9) < (v 203 7)) ∧ (v 203 9) ≤ (v 203 7) from (by first | assumption | omega | (unfold R32 at *; omega) | (unfold R64 at *; omega) | (simp only [R32, R64] at *; omega)))
      refine r_call (m := 219) (args := [.inr (.inr (some 203)), .inl 1]) (n' := 221) (pc' := 22) (lo' := [some (.inr (.inr (some 203))), some (.inl l), some (.inl g), none]) (st' := []) (I := .invokevirtual 219) (pc0 := 19) (len := 3) rfl rfl rfl (e_mo_fails hX hp_18 hp_19) ?_
      show WV _ _ _ 22 _ [] _ (mo_fails v 1) _
      have hX_20 : XI (mo_fails v 1) := i_mo_fails (v := v) (k := 1) hX hp_18 hp_19
      have hb_21 : ((mo_fails v 1) 203 7) ≤ ((mo_fails v 1) 203 6) ∧ (((mo_fails v 1) 203 8) = 0 ∨ ((mo_fails v 1) 203 9) < ((mo_fails v 1) 203 7)) ∧ ((mo_fails v 1) 203 9) ≤ ((mo_fails v 1) 203 7) := n0_mo_fails (v := v) (k := 1) hX hp_18 hp_19
      have hb_22 : (v 203 9) ≤ ((mo_fails v 1) 203 9) := n1_mo_fails (v := v) (k := 1) hX hp_18 hp_19
      have hb_23 : ((mo_fails v 1) 203 12) ≠ 0 := n2_mo_fails (v := v) (k := 1) hX hp_18 hp_19
      refine r_ex 1 (pc' := 23) (lo' := [some (.inr (.inr (some 203))), some (.inl l), some (.inl g), none]) (st' := [.inl l]) rfl ?_
      refine r_ret (rr := some (.inl l)) (I := .ireturn) (pc0 := 23) (len := 1) rfl rfl ?_
      exact hQ hX_20 (by first | assumption | omega | (unfold R32 at *; omega) | (unfold R64 at *; omega) | (simp only [R32, R64] at *; omega)) (show ((mo_fails v 1) 203 7) ≤ ((mo_fails v 1) 203 6) ∧ (((mo_fails v 1) 203 8) = 0 ∨ ((mo_fails v 1) 203 9) < ((mo_fails v 1) 203 7)) ∧ ((mo_fails v 1) 203 9) ≤ ((mo_fails v 1) 203 7) from (by first | assumption | omega | (unfold R32 at *; omega) | (unfold R64 at *; omega) | (simp only [R32, R64] at *; omega))) (show (v 203 9) ≤ ((mo_fails v 1) 203 9) from (by first | assumption | omega | (unfold R32 at *; omega) | (unfold R64 at *; omega) | (simp only [R32, R64] at *; omega)))
  · show WV _ _ _ 7 _ _ _ _ _
    rw [if_neg h_4] at hQ
    refine r_ex 1 (pc' := 8) (lo' := [some (.inr (.inr (some 203))), some (.inl l), some (.inl g), none]) (st' := [.inl l]) rfl ?_
    refine r_ret (rr := some (.inl l)) (I := .ireturn) (pc0 := 8) (len := 1) rfl rfl ?_
    exact hQ hX (by first | assumption | omega | (unfold R32 at *; omega) | (unfold R64 at *; omega) | (simp only [R32, R64] at *; omega)) (show (v 203 7) ≤ (v 203 6) ∧ ((v 203 8) = 0 ∨ (v 203 9) < (v 203 7)) ∧ (v 203 9) ≤ (v 203 7) from (by first | assumption | omega | (unfold R32 at *; omega) | (unfold R64 at *; omega) | (simp only [R32, R64] at *; omega))) (show (v 203 9) ≤ (v 203 9) from (by first | assumption | omega | (unfold R32 at *; omega) | (unfold R64 at *; omega) | (simp only [R32, R64] at *; omega)))

theorem e_mo_number {X : PX} {d b : Nat} {v : VS} {l : Int} {g : Int} (hX : XI v) (hp_a : 0 ≤ l ∧ l ≤ 300) (hp_b : -1 ≤ g ∧ g ≤ 300) (hp_c : (v 203 7) ≤ (v 203 6) ∧ ((v 203 8) = 0 ∨ (v 203 9) < (v 203 7)) ∧ (v 203 9) ≤ (v 203 7)) : EvV X (d + 1 + 1) 221 [.inr (.inr (some 203)), .inl l, .inl g] b v (some (.inl (mo_number v l g).1)) b ((mo_number v l g).2) := EvV.of (w_mo_number hX hp_a hp_b hp_c (fun _ _ _ _ => ⟨rfl, rfl, rfl⟩))

theorem i_mo_number {v : VS} {l : Int} {g : Int} (hX : XI v) (hp_a : 0 ≤ l ∧ l ≤ 300) (hp_b : -1 ≤ g ∧ g ≤ 300) (hp_c : (v 203 7) ≤ (v 203 6) ∧ ((v 203 8) = 0 ∨ (v 203 9) < (v 203 7)) ∧ (v 203 9) ≤ (v 203 7)) : XI ((mo_number v l g).2) := by
  have q : WV (0, fun _ => 0, none) (0 + 1 + 1) 221 0 [some (.inr (.inr (some 203))), some (.inl l), some (.inl g), none] [] 1 v (fun _ _ _ => XI ((mo_number v l g).2)) := w_mo_number (X := (0, fun _ => 0, none)) (d := 0) (b := 1) hX hp_a hp_b hp_c (fun q _ _ _ => q)
  obtain ⟨_, _, _, _, _, _, _, q⟩ := q
  exact q

theorem n0_mo_number {v : VS} {l : Int} {g : Int} (hX : XI v) (hp_a : 0 ≤ l ∧ l ≤ 300) (hp_b : -1 ≤ g ∧ g ≤ 300) (hp_c : (v 203 7) ≤ (v 203 6) ∧ ((v 203 8) = 0 ∨ (v 203 9) < (v 203 7)) ∧ (v 203 9) ≤ (v 203 7)) : l ≤ (mo_number v l g).1 ∧ ((mo_number v l g).1 ≤ g ∨ (mo_number v l g).1 = l) := by
  have q : WV (0, fun _ => 0, none) (0 + 1 + 1) 221 0 [some (.inr (.inr (some 203))), some (.inl l), some (.inl g), none] [] 1 v (fun _ _ _ => l ≤ (mo_number v l g).1 ∧ ((mo_number v l g).1 ≤ g ∨ (mo_number v l g).1 = l)) := w_mo_number (X := (0, fun _ => 0, none)) (d := 0) (b := 1) hX hp_a hp_b hp_c (fun _ q _ _ => q)
  obtain ⟨_, _, _, _, _, _, _, q⟩ := q
  exact q

theorem n1_mo_number {v : VS} {l : Int} {g : Int} (hX : XI v) (hp_a : 0 ≤ l ∧ l ≤ 300) (hp_b : -1 ≤ g ∧ g ≤ 300) (hp_c : (v 203 7) ≤ (v 203 6) ∧ ((v 203 8) = 0 ∨ (v 203 9) < (v 203 7)) ∧ (v 203 9) ≤ (v 203 7)) : ((mo_number v l g).2 203 7) ≤ ((mo_number v l g).2 203 6) ∧ (((mo_number v l g).2 203 8) = 0 ∨ ((mo_number v l g).2 203 9) < ((mo_number v l g).2 203 7)) ∧ ((mo_number v l g).2 203 9) ≤ ((mo_number v l g).2 203 7) := by
  have q : WV (0, fun _ => 0, none) (0 + 1 + 1) 221 0 [some (.inr (.inr (some 203))), some (.inl l), some (.inl g), none] [] 1 v (fun _ _ _ => ((mo_number v l g).2 203 7) ≤ ((mo_number v l g).2 203 6) ∧ (((mo_number v l g).2 203 8) = 0 ∨ ((mo_number v l g).2 203 9) < ((mo_number v l g).2 203 7)) ∧ ((mo_number v l g).2 203 9) ≤ ((mo_number v l g).2 203 7)) := w_mo_number (X := (0, fun _ => 0, none)) (d := 0) (b := 1) hX hp_a hp_b hp_c (fun _ _ q _ => q)
  obtain ⟨_, _, _, _, _, _, _, q⟩ := q
  exact q

theorem n2_mo_number {v : VS} {l : Int} {g : Int} (hX : XI v) (hp_a : 0 ≤ l ∧ l ≤ 300) (hp_b : -1 ≤ g ∧ g ≤ 300) (hp_c : (v 203 7) ≤ (v 203 6) ∧ ((v 203 8) = 0 ∨ (v 203 9) < (v 203 7)) ∧ (v 203 9) ≤ (v 203 7)) : (v 203 9) ≤ ((mo_number v l g).2 203 9) := by
  have q : WV (0, fun _ => 0, none) (0 + 1 + 1) 221 0 [some (.inr (.inr (some 203))), some (.inl l), some (.inl g), none] [] 1 v (fun _ _ _ => (v 203 9) ≤ ((mo_number v l g).2 203 9)) := w_mo_number (X := (0, fun _ => 0, none)) (d := 0) (b := 1) hX hp_a hp_b hp_c (fun _ _ _ q => q)
  obtain ⟨_, _, _, _, _, _, _, q⟩ := q
  exact q

theorem o_mo_number {rk : Nat} {v : VS} {l : Int} {g : Int} (hk : (rk < 203 ∨ 203 < rk)) : (mo_number v l g).2 rk = v rk := by
  unfold mo_number
  by_cases hc_ : (v 203 12) = 0
  · rw [if_pos hc_]
    by_cases hc_ : (v 203 8) = 2
    · rw [if_pos hc_]
      by_cases hc_ : l ≤ (v 203 10) ∧ (v 203 10) ≤ g
      · rw [if_pos hc_]
        all_goals (show (mo_next v) rk = _)
        all_goals (rw [o_mo_next (by omega)])
      · rw [if_neg hc_]
        all_goals (show (mo_fails v 2) rk = _)
        all_goals (rw [o_mo_fails (by omega)])
    · rw [if_neg hc_]
      all_goals (show (mo_fails v 1) rk = _)
      all_goals (rw [o_mo_fails (by omega)])
  · rw [if_neg hc_]
    all_goals (show v rk = _)
    all_goals rfl

def mo_numberW (v : VS) (y : Int) (l : Int) (g : Int) : Int × VS :=
  ((mo_number (mo_asks v y) l g).1, (mo_number (mo_asks v y) l g).2)
theorem w_mo_numberW {X : PX} {d b : Nat} {v : VS} {y : Int} {l : Int} {g : Int} (hX : XI v) (hp_a : R64 y) (hp_b : 0 ≤ l ∧ l ≤ 300) (hp_c : -1 ≤ g ∧ g ≤ 300) (hp_d : (v 203 7) ≤ (v 203 6) ∧ ((v 203 8) = 0 ∨ (v 203 9) < (v 203 7)) ∧ (v 203 9) ≤ (v 203 7)) {Q : Option PV → Nat → VS → Prop} (hQ : XI (mo_numberW v y l g).2 → (l ≤ (mo_numberW v y l g).1 ∧ ((mo_numberW v y l g).1 ≤ g ∨ (mo_numberW v y l g).1 = l)) → (((mo_numberW v y l g).2 203 7) ≤ ((mo_numberW v y l g).2 203 6) ∧ (((mo_numberW v y l g).2 203 8) = 0 ∨ ((mo_numberW v y l g).2 203 9) < ((mo_numberW v y l g).2 203 7)) ∧ ((mo_numberW v y l g).2 203 9) ≤ ((mo_numberW v y l g).2 203 7)) → ((v 203 9) ≤ ((mo_numberW v y l g).2 203 9)) → Q (some (.inl (mo_numberW v y l g).1)) b (mo_numberW v y l g).2) : WV X (d + 1 + 1 + 1 + 1) 220 0 [some (.inr (.inr (some 203))), some (.inr (.inl y)), none, some (.inl l), some (.inl g)] [] b v Q := by
  rw [mo_numberW] at hQ
  refine r_ex 2 (pc' := 2) (lo' := [some (.inr (.inr (some 203))), some (.inr (.inl y)), none, some (.inl l), some (.inl g)]) (st' := [.inr (.inl y), .inr (.inr (some 203))]) rfl ?_
  have hp_1 : R64 y := (by first | assumption | omega | (unfold R32 at *; omega) | (unfold R64 at *; omega) | (simp only [R32, R64] at *; omega))
  have hp_2 : (v 203 7) ≤ (v 203 6) ∧ ((v 203 8) = 0 ∨ (v 203 9) < (v 203 7)) ∧ (v 203 9) ≤ (v 203 7) := (show (v 203 7) ≤ (v 203 6) ∧ ((v 203 8) = 0 ∨ (v 203 9) < (v 203 7)) ∧ (v 203 9) ≤ (v 203 7) from (by first | assumption | omega | (unfold R32 at *; omega) | (unfold R64 at *; omega) | (simp only [R32, R64] at *; omega)))
  refine r_call (m := 216) (args := [.inr (.inr (some 203)), .inr (.inl y)]) (n' := 220) (pc' := 5) (lo' := [some (.inr (.inr (some 203))), some (.inr (.inl y)), none, some (.inl l), some (.inl g)]) (st' := []) (I := .invokevirtual 216) (pc0 := 2) (len := 3) rfl rfl rfl (e_mo_asks hX hp_1 hp_2) ?_
  show WV _ _ _ 5 _ [] _ (mo_asks v y) _
  have hX_3 : XI (mo_asks v y) := i_mo_asks (v := v) (y := y) hX hp_1 hp_2
  have hb_4 : ((mo_asks v y) 203 7) ≤ ((mo_asks v y) 203 6) ∧ (((mo_asks v y) 203 8) = 0 ∨ ((mo_asks v y) 203 9) < ((mo_asks v y) 203 7)) ∧ ((mo_asks v y) 203 9) ≤ ((mo_asks v y) 203 7) := n0_mo_asks (v := v) (y := y) hX hp_1 hp_2
  have hb_5 : (v 203 9) ≤ ((mo_asks v y) 203 9) := n1_mo_asks (v := v) (y := y) hX hp_1 hp_2
  refine r_ex 3 (pc' := 9) (lo' := [some (.inr (.inr (some 203))), some (.inr (.inl y)), none, some (.inl l), some (.inl g)]) (st' := [.inl g, .inl l, .inr (.inr (some 203))]) rfl ?_
  have hp_6 : 0 ≤ l ∧ l ≤ 300 := (by first | assumption | omega | (unfold R32 at *; omega) | (unfold R64 at *; omega) | (simp only [R32, R64] at *; omega))
  have hp_7 : -1 ≤ g ∧ g ≤ 300 := (by first | assumption | omega | (unfold R32 at *; omega) | (unfold R64 at *; omega) | (simp only [R32, R64] at *; omega))
  have hp_8 : ((mo_asks v y) 203 7) ≤ ((mo_asks v y) 203 6) ∧ (((mo_asks v y) 203 8) = 0 ∨ ((mo_asks v y) 203 9) < ((mo_asks v y) 203 7)) ∧ ((mo_asks v y) 203 9) ≤ ((mo_asks v y) 203 7) := (show ((mo_asks v y) 203 7) ≤ ((mo_asks v y) 203 6) ∧ (((mo_asks v y) 203 8) = 0 ∨ ((mo_asks v y) 203 9) < ((mo_asks v y) 203 7)) ∧ ((mo_asks v y) 203 9) ≤ ((mo_asks v y) 203 7) from (by first | assumption | omega | (unfold R32 at *; omega) | (unfold R64 at *; omega) | (simp only [R32, R64] at *; omega)))
  refine r_call (m := 221) (args := [.inr (.inr (some 203)), .inl l, .inl g]) (n' := 220) (pc' := 12) (lo' := [some (.inr (.inr (some 203))), some (.inr (.inl y)), none, some (.inl l), some (.inl g)]) (st' := []) (I := .invokevirtual 221) (pc0 := 9) (len := 3) rfl rfl rfl (e_mo_number hX_3 hp_6 hp_7 hp_8) ?_
  show WV _ _ _ 12 _ [.inl ((mo_number (mo_asks v y) l g).1)] _ (mo_number (mo_asks v y) l g).2 _
  have hX_9 : XI (mo_number (mo_asks v y) l g).2 := i_mo_number (v := (mo_asks v y)) (l := l) (g := g) hX_3 hp_6 hp_7 hp_8
  have hb_10 := n0_mo_number (v := (mo_asks v y)) (l := l) (g := g) hX_3 hp_6 hp_7 hp_8
  have hb_11 : ((mo_number (mo_asks v y) l g).2 203 7) ≤ ((mo_number (mo_asks v y) l g).2 203 6) ∧ (((mo_number (mo_asks v y) l g).2 203 8) = 0 ∨ ((mo_number (mo_asks v y) l g).2 203 9) < ((mo_number (mo_asks v y) l g).2 203 7)) ∧ ((mo_number (mo_asks v y) l g).2 203 9) ≤ ((mo_number (mo_asks v y) l g).2 203 7) := n1_mo_number (v := (mo_asks v y)) (l := l) (g := g) hX_3 hp_6 hp_7 hp_8
  have hb_12 : ((mo_asks v y) 203 9) ≤ ((mo_number (mo_asks v y) l g).2 203 9) := n2_mo_number (v := (mo_asks v y)) (l := l) (g := g) hX_3 hp_6 hp_7 hp_8
  refine r_ret (rr := some (.inl ((mo_number (mo_asks v y) l g).1))) (I := .ireturn) (pc0 := 12) (len := 1) rfl rfl ?_
  exact hQ hX_9 (by first | assumption | omega | (unfold R32 at *; omega) | (unfold R64 at *; omega) | (simp only [R32, R64] at *; omega)) (show ((mo_number (mo_asks v y) l g).2 203 7) ≤ ((mo_number (mo_asks v y) l g).2 203 6) ∧ (((mo_number (mo_asks v y) l g).2 203 8) = 0 ∨ ((mo_number (mo_asks v y) l g).2 203 9) < ((mo_number (mo_asks v y) l g).2 203 7)) ∧ ((mo_number (mo_asks v y) l g).2 203 9) ≤ ((mo_number (mo_asks v y) l g).2 203 7) from (by first | assumption | omega | (unfold R32 at *; omega) | (unfold R64 at *; omega) | (simp only [R32, R64] at *; omega))) (show (v 203 9) ≤ ((mo_number (mo_asks v y) l g).2 203 9) from (by first | assumption | omega | (unfold R32 at *; omega) | (unfold R64 at *; omega) | (simp only [R32, R64] at *; omega)))

theorem e_mo_numberW {X : PX} {d b : Nat} {v : VS} {y : Int} {l : Int} {g : Int} (hX : XI v) (hp_a : R64 y) (hp_b : 0 ≤ l ∧ l ≤ 300) (hp_c : -1 ≤ g ∧ g ≤ 300) (hp_d : (v 203 7) ≤ (v 203 6) ∧ ((v 203 8) = 0 ∨ (v 203 9) < (v 203 7)) ∧ (v 203 9) ≤ (v 203 7)) : EvV X (d + 1 + 1 + 1 + 1) 220 [.inr (.inr (some 203)), .inr (.inl y), .inl l, .inl g] b v (some (.inl (mo_numberW v y l g).1)) b ((mo_numberW v y l g).2) := EvV.of (w_mo_numberW hX hp_a hp_b hp_c hp_d (fun _ _ _ _ => ⟨rfl, rfl, rfl⟩))

theorem i_mo_numberW {v : VS} {y : Int} {l : Int} {g : Int} (hX : XI v) (hp_a : R64 y) (hp_b : 0 ≤ l ∧ l ≤ 300) (hp_c : -1 ≤ g ∧ g ≤ 300) (hp_d : (v 203 7) ≤ (v 203 6) ∧ ((v 203 8) = 0 ∨ (v 203 9) < (v 203 7)) ∧ (v 203 9) ≤ (v 203 7)) : XI ((mo_numberW v y l g).2) := by
  have q : WV (0, fun _ => 0, none) (0 + 1 + 1 + 1 + 1) 220 0 [some (.inr (.inr (some 203))), some (.inr (.inl y)), none, some (.inl l), some (.inl g)] [] 1 v (fun _ _ _ => XI ((mo_numberW v y l g).2)) := w_mo_numberW (X := (0, fun _ => 0, none)) (d := 0) (b := 1) hX hp_a hp_b hp_c hp_d (fun q _ _ _ => q)
  obtain ⟨_, _, _, _, _, _, _, q⟩ := q
  exact q

theorem n0_mo_numberW {v : VS} {y : Int} {l : Int} {g : Int} (hX : XI v) (hp_a : R64 y) (hp_b : 0 ≤ l ∧ l ≤ 300) (hp_c : -1 ≤ g ∧ g ≤ 300) (hp_d : (v 203 7) ≤ (v 203 6) ∧ ((v 203 8) = 0 ∨ (v 203 9) < (v 203 7)) ∧ (v 203 9) ≤ (v 203 7)) : l ≤ (mo_numberW v y l g).1 ∧ ((mo_numberW v y l g).1 ≤ g ∨ (mo_numberW v y l g).1 = l) := by
  have q : WV (0, fun _ => 0, none) (0 + 1 + 1 + 1 + 1) 220 0 [some (.inr (.inr (some 203))), some (.inr (.inl y)), none, some (.inl l), some (.inl g)] [] 1 v (fun _ _ _ => l ≤ (mo_numberW v y l g).1 ∧ ((mo_numberW v y l g).1 ≤ g ∨ (mo_numberW v y l g).1 = l)) := w_mo_numberW (X := (0, fun _ => 0, none)) (d := 0) (b := 1) hX hp_a hp_b hp_c hp_d (fun _ q _ _ => q)
  obtain ⟨_, _, _, _, _, _, _, q⟩ := q
  exact q

theorem n1_mo_numberW {v : VS} {y : Int} {l : Int} {g : Int} (hX : XI v) (hp_a : R64 y) (hp_b : 0 ≤ l ∧ l ≤ 300) (hp_c : -1 ≤ g ∧ g ≤ 300) (hp_d : (v 203 7) ≤ (v 203 6) ∧ ((v 203 8) = 0 ∨ (v 203 9) < (v 203 7)) ∧ (v 203 9) ≤ (v 203 7)) : ((mo_numberW v y l g).2 203 7) ≤ ((mo_numberW v y l g).2 203 6) ∧ (((mo_numberW v y l g).2 203 8) = 0 ∨ ((mo_numberW v y l g).2 203 9) < ((mo_numberW v y l g).2 203 7)) ∧ ((mo_numberW v y l g).2 203 9) ≤ ((mo_numberW v y l g).2 203 7) := by
  have q : WV (0, fun _ => 0, none) (0 + 1 + 1 + 1 + 1) 220 0 [some (.inr (.inr (some 203))), some (.inr (.inl y)), none, some (.inl l), some (.inl g)] [] 1 v (fun _ _ _ => ((mo_numberW v y l g).2 203 7) ≤ ((mo_numberW v y l g).2 203 6) ∧ (((mo_numberW v y l g).2 203 8) = 0 ∨ ((mo_numberW v y l g).2 203 9) < ((mo_numberW v y l g).2 203 7)) ∧ ((mo_numberW v y l g).2 203 9) ≤ ((mo_numberW v y l g).2 203 7)) := w_mo_numberW (X := (0, fun _ => 0, none)) (d := 0) (b := 1) hX hp_a hp_b hp_c hp_d (fun _ _ q _ => q)
  obtain ⟨_, _, _, _, _, _, _, q⟩ := q
  exact q

theorem n2_mo_numberW {v : VS} {y : Int} {l : Int} {g : Int} (hX : XI v) (hp_a : R64 y) (hp_b : 0 ≤ l ∧ l ≤ 300) (hp_c : -1 ≤ g ∧ g ≤ 300) (hp_d : (v 203 7) ≤ (v 203 6) ∧ ((v 203 8) = 0 ∨ (v 203 9) < (v 203 7)) ∧ (v 203 9) ≤ (v 203 7)) : (v 203 9) ≤ ((mo_numberW v y l g).2 203 9) := by
  have q : WV (0, fun _ => 0, none) (0 + 1 + 1 + 1 + 1) 220 0 [some (.inr (.inr (some 203))), some (.inr (.inl y)), none, some (.inl l), some (.inl g)] [] 1 v (fun _ _ _ => (v 203 9) ≤ ((mo_numberW v y l g).2 203 9)) := w_mo_numberW (X := (0, fun _ => 0, none)) (d := 0) (b := 1) hX hp_a hp_b hp_c hp_d (fun _ _ _ q => q)
  obtain ⟨_, _, _, _, _, _, _, q⟩ := q
  exact q

theorem o_mo_numberW {rk : Nat} {v : VS} {y : Int} {l : Int} {g : Int} (hk : (rk < 203 ∨ 203 < rk)) : (mo_numberW v y l g).2 rk = v rk := by
  unfold mo_numberW
  all_goals (show ((mo_number (mo_asks v y) l g).2) rk = _)
  all_goals (rw [o_mo_number (by omega), o_mo_asks (by omega)])

def mo_ends (v : VS)  : VS :=
  (if (v 203 8) = 3 then (if (v 203 12) = 0 then (mo_next v) else v) else (if ((mo_fails v 1) 203 12) = 0 then (mo_next (mo_fails v 1)) else (mo_fails v 1)))
theorem w_mo_ends {X : PX} {d b : Nat} {v : VS}  (hX : XI v) (hp_a : (v 203 7) ≤ (v 203 6) ∧ ((v 203 8) = 0 ∨ (v 203 9) < (v 203 7)) ∧ (v 203 9) ≤ (v 203 7)) {Q : Option PV → Nat → VS → Prop} (hQ : XI (mo_ends v) → (((mo_ends v) 203 7) ≤ ((mo_ends v) 203 6) ∧ (((mo_ends v) 203 8) = 0 ∨ ((mo_ends v) 203 9) < ((mo_ends v) 203 7)) ∧ ((mo_ends v) 203 9) ≤ ((mo_ends v) 203 7)) → ((v 203 9) ≤ ((mo_ends v) 203 9)) → (((mo_ends v) 203 12) ≠ 0 ∨ (v 203 9) < ((mo_ends v) 203 9)) → Q none b (mo_ends v)) : WV X (d + 1 + 1) 231 0 [some (.inr (.inr (some 203)))] [] b v Q := by
  rw [mo_ends] at hQ
  refine r_ex 3 (pc' := 5) (lo' := [some (.inr (.inr (some 203)))]) (st' := [.inl 3, .inl (v 203 8)]) rfl ?_
  have hb_1 : 0 ≤ (v 203 8) ∧ (v 203 8) ≤ 4 := hX 203 8
  refine n_ic_eq (pc0 := 5) (len := 3) (t := 13) rfl (by first | assumption | omega | (unfold R32 at *; omega) | (unfold R64 at *; omega) | (simp only [R32, R64] at *; omega)) (by first | assumption | omega | (unfold R32 at *; omega) | (unfold R64 at *; omega) | (simp only [R32, R64] at *; omega)) (fun h_5 => ?_) (fun h_5 => ?_)
  · show WV _ _ _ 13 _ _ _ _ _
    rw [if_pos h_5] at hQ
    refine r_ex 2 (pc' := 17) (lo' := [some (.inr (.inr (some 203)))]) (st' := [.inl (v 203 12)]) rfl ?_
    have hb_2 : 0 ≤ (v 203 12) ∧ (v 203 12) ≤ 3 := hX 203 12
    refine n_if_ne (pc0 := 17) (len := 3) (t := 24) rfl (by first | assumption | omega | (unfold R32 at *; omega) | (unfold R64 at *; omega) | (simp only [R32, R64] at *; omega)) (fun h_17 => ?_) (fun h_17 => ?_)
    · show WV _ _ _ 24 _ _ _ _ _
      rw [if_neg h_17] at hQ
      refine r_ret (rr := none) (I := .return_) (pc0 := 24) (len := 1) rfl rfl ?_
      exact hQ hX (show (v 203 7) ≤ (v 203 6) ∧ ((v 203 8) = 0 ∨ (v 203 9) < (v 203 7)) ∧ (v 203 9) ≤ (v 203 7) from (by first | assumption | omega | (unfold R32 at *; omega) | (unfold R64 at *; omega) | (simp only [R32, R64] at *; omega))) (show (v 203 9) ≤ (v 203 9) from (by first | assumption | omega | (unfold R32 at *; omega) | (unfold R64 at *; omega) | (simp only [R32, R64] at *; omega))) (show (v 203 12) ≠ 0 ∨ (v 203 9) < (v 203 9) from (by first | assumption | omega | (unfold R32 at *; omega) | (unfold R64 at *; omega) | (simp only [R32, R64] at *; omega)))
    · show WV _ _ _ 20 _ _ _ _ _
      rw [if_pos h_17] at hQ
      refine r_ex 1 (pc' := 21) (lo' := [some (.inr (.inr (some 203)))]) (st' := [.inr (.inr (some 203))]) rfl ?_
      have hp_3 : (v 203 7) ≤ (v 203 6) := (show (v 203 7) ≤ (v 203 6) from (by first | assumption | omega | (unfold R32 at *; omega) | (unfold R64 at *; omega) | (simp only [R32, R64] at *; omega)))
      refine r_call (m := 213) (args := [.inr (.inr (some 203))]) (n' := 231) (pc' := 24) (lo' := [some (.inr (.inr (some 203)))]) (st' := []) (I := .invokevirtual 213) (pc0 := 21) (len := 3) rfl rfl rfl (e_mo_next hX hp_3) ?_
      show WV _ _ _ 24 _ [] _ (mo_next v) _
      have hX_4 : XI (mo_next v) := i_mo_next (v := v) hX hp_3
      have hb_5 : ((mo_next v) 203 7) ≤ ((mo_next v) 203 6) ∧ (((mo_next v) 203 8) = 0 ∨ ((mo_next v) 203 9) < ((mo_next v) 203 7)) ∧ ((mo_next v) 203 9) ≤ ((mo_next v) 203 7) := n0_mo_next (v := v) hX hp_3
      have hb_6 : (v 203 7) ≤ ((mo_next v) 203 9) := n1_mo_next (v := v) hX hp_3
      have hb_7 : ((mo_next v) 203 12) = (v 203 12) := n2_mo_next (v := v) hX hp_3
      refine r_ret (rr := none) (I := .return_) (pc0 := 24) (len := 1) rfl rfl ?_
      exact hQ hX_4 (show ((mo_next v) 203 7) ≤ ((mo_next v) 203 6) ∧ (((mo_next v) 203 8) = 0 ∨ ((mo_next v) 203 9) < ((mo_next v) 203 7)) ∧ ((mo_next v) 203 9) ≤ ((mo_next v) 203 7) from (by first | assumption | omega | (unfold R32 at *; omega) | (unfold R64 at *; omega) | (simp only [R32, R64] at *; omega))) (show (v 203 9) ≤ ((mo_next v) 203 9) from (by first | assumption | omega | (unfold R32 at *; omega) | (unfold R64 at *; omega) | (simp only [R32, R64] at *; omega))) (show ((mo_next v) 203 12) ≠ 0 ∨ (v 203 9) < ((mo_next v) 203 9) from (by first | assumption | omega | (unfold R32 at *; omega) | (unfold R64 at *; omega) | (simp only [R32, R64] at *; omega)))
  · show WV _ _ _ 8 _ _ _ _ _
    rw [if_neg h_5] at hQ
    refine r_ex 2 (pc' := 10) (lo' := [some (.inr (.inr (some 203)))]) (st' := [.inl 1, .inr (.inr (some 203))]) rfl ?_
    have hp_8 : 1 ≤ (1 : Int) ∧ (1 : Int) ≤ 3 := (by first | assumption | omega | (unfold R32 at *; omega) | (unfold R64 at *; omega) | (simp only [R32, R64] at *; omega))
    have hp_9 : (v 203 7) ≤ (v 203 6) ∧ ((v 203 8) = 0 ∨ (v 203 9) < (v 203 7)) ∧ (v 203 9) ≤ (v 203 7) := (show (v 203 7) ≤ (v 203 6) ∧ ((v 203 8) = 0 ∨ (v 203 9) < (v 203 7)) ∧ (v 203 9) ≤ (v 203 7) from (by first | assumption | omega | (unfold R32 at *; omega) | (unfold R64 at *; omega) | (simp only [R32, R64] at *; omega)))
    refine r_call (m := 219) (args := [.inr (.inr (some 203)), .inl 1]) (n' := 231) (pc' := 13) (lo' := [some (.inr (.inr (some 203)))]) (st' := []) (I := .invokevirtual 219) (pc0 := 10) (len := 3) rfl rfl rfl (e_mo_fails hX hp_8 hp_9) ?_
    show WV _ _ _ 13 _ [] _ (mo_fails v 1) _
    have hX_10 : XI (mo_fails v 1) := i_mo_fails (v := v) (k := 1) hX hp_8 hp_9
    have hb_11 : ((mo_fails v 1) 203 7) ≤ ((mo_fails v 1) 203 6) ∧ (((mo_fails v 1) 203 8) = 0 ∨ ((mo_fails v 1) 203 9) < ((mo_fails v 1) 203 7)) ∧ ((mo_fails v 1) 203 9) ≤ ((mo_fails v 1) 203 7) := n0_mo_fails (v := v) (k := 1) hX hp_8 hp_9
    have hb_12 : (v 203 9) ≤ ((mo_fails v 1) 203 9) := n1_mo_fails (v := v) (k := 1) hX hp_8 hp_9
    have hb_13 : ((mo_fails v 1) 203 12) ≠ 0 := n2_mo_fails (v := v) (k := 1) hX hp_8 hp_9
    refine r_ex 2 (pc' := 17) (lo' := [some (.inr (.inr (some 203)))]) (st' := [.inl ((mo_fails v 1) 203 12)]) rfl ?_
    have hb_14 : 0 ≤ ((mo_fails v 1) 203 12) ∧ ((mo_fails v 1) 203 12) ≤ 3 := hX_10 203 12
    refine n_if_ne (pc0 := 17) (len := 3) (t := 24) rfl (by first | assumption | omega | (unfold R32 at *; omega) | (unfold R64 at *; omega) | (simp only [R32, R64] at *; omega)) (fun h_17 => ?_) (fun h_17 => ?_)
    · show WV _ _ _ 24 _ _ _ _ _
      rw [if_neg h_17] at hQ
      refine r_ret (rr := none) (I := .return_) (pc0 := 24) (len := 1) rfl rfl ?_
      exact hQ hX_10 (show ((mo_fails v 1) 203 7) ≤ ((mo_fails v 1) 203 6) ∧ (((mo_fails v 1) 203 8) = 0 ∨ ((mo_fails v 1) 203 9) < ((mo_fails v 1) 203 7)) ∧ ((mo_fails v 1) 203 9) ≤ ((mo_fails v 1) 203 7) from (by first | assumption | omega | (unfold R32 at *; omega) | (unfold R64 at *; omega) | (simp only [R32, R64] at *; omega))) (show (v 203 9) ≤ ((mo_fails v 1) 203 9) from (by first | assumption | omega | (unfold R32 at *; omega) | (unfold R64 at *; omega) | (simp only [R32, R64] at *; omega))) (show ((mo_fails v 1) 203 12) ≠ 0 ∨ (v 203 9) < ((mo_fails v 1) 203 9) from (by first | assumption | omega | (unfold R32 at *; omega) | (unfold R64 at *; omega) | (simp only [R32, R64] at *; omega)))
    · show WV _ _ _ 20 _ _ _ _ _
      rw [if_pos h_17] at hQ
      refine r_ex 1 (pc' := 21) (lo' := [some (.inr (.inr (some 203)))]) (st' := [.inr (.inr (some 203))]) rfl ?_
      have hp_15 : ((mo_fails v 1) 203 7) ≤ ((mo_fails v 1) 203 6) := (show ((mo_fails v 1) 203 7) ≤ ((mo_fails v 1) 203 6) from (by first | assumption | omega | (unfold R32 at *; omega) | (unfold R64 at *; omega) | (simp only [R32, R64] at *; omega)))
      refine r_call (m := 213) (args := [.inr (.inr (some 203))]) (n' := 231) (pc' := 24) (lo' := [some (.inr (.inr (some 203)))]) (st' := []) (I := .invokevirtual 213) (pc0 := 21) (len := 3) rfl rfl rfl (e_mo_next hX_10 hp_15) ?_
      show WV _ _ _ 24 _ [] _ (mo_next (mo_fails v 1)) _
      have hX_16 : XI (mo_next (mo_fails v 1)) := i_mo_next (v := (mo_fails v 1)) hX_10 hp_15
      have hb_17 : ((mo_next (mo_fails v 1)) 203 7) ≤ ((mo_next (mo_fails v 1)) 203 6) ∧ (((mo_next (mo_fails v 1)) 203 8) = 0 ∨ ((mo_next (mo_fails v 1)) 203 9) < ((mo_next (mo_fails v 1)) 203 7)) ∧ ((mo_next (mo_fails v 1)) 203 9) ≤ ((mo_next (mo_fails v 1)) 203 7) := n0_mo_next (v := (mo_fails v 1)) hX_10 hp_15
      have hb_18 : ((mo_fails v 1) 203 7) ≤ ((mo_next (mo_fails v 1)) 203 9) := n1_mo_next (v := (mo_fails v 1)) hX_10 hp_15
      have hb_19 : ((mo_next (mo_fails v 1)) 203 12) = ((mo_fails v 1) 203 12) := n2_mo_next (v := (mo_fails v 1)) hX_10 hp_15
      refine r_ret (rr := none) (I := .return_) (pc0 := 24) (len := 1) rfl rfl ?_
      exact hQ hX_16 (show ((mo_next (mo_fails v 1)) 203 7) ≤ ((mo_next (mo_fails v 1)) 203 6) ∧ (((mo_next (mo_fails v 1)) 203 8) = 0 ∨ ((mo_next (mo_fails v 1)) 203 9) < ((mo_next (mo_fails v 1)) 203 7)) ∧ ((mo_next (mo_fails v 1)) 203 9) ≤ ((mo_next (mo_fails v 1)) 203 7) from (by first | assumption | omega | (unfold R32 at *; omega) | (unfold R64 at *; omega) | (simp only [R32, R64] at *; omega))) (show (v 203 9) ≤ ((mo_next (mo_fails v 1)) 203 9) from (by first | assumption | omega | (unfold R32 at *; omega) | (unfold R64 at *; omega) | (simp only [R32, R64] at *; omega))) (show ((mo_next (mo_fails v 1)) 203 12) ≠ 0 ∨ (v 203 9) < ((mo_next (mo_fails v 1)) 203 9) from (by first | assumption | omega | (unfold R32 at *; omega) | (unfold R64 at *; omega) | (simp only [R32, R64] at *; omega)))

theorem e_mo_ends {X : PX} {d b : Nat} {v : VS}  (hX : XI v) (hp_a : (v 203 7) ≤ (v 203 6) ∧ ((v 203 8) = 0 ∨ (v 203 9) < (v 203 7)) ∧ (v 203 9) ≤ (v 203 7)) : EvV X (d + 1 + 1) 231 [.inr (.inr (some 203))] b v none b (mo_ends v) := EvV.of (w_mo_ends hX hp_a (fun _ _ _ _ => ⟨rfl, rfl, rfl⟩))

theorem i_mo_ends {v : VS}  (hX : XI v) (hp_a : (v 203 7) ≤ (v 203 6) ∧ ((v 203 8) = 0 ∨ (v 203 9) < (v 203 7)) ∧ (v 203 9) ≤ (v 203 7)) : XI (mo_ends v) := by
  have q : WV (0, fun _ => 0, none) (0 + 1 + 1) 231 0 [some (.inr (.inr (some 203)))] [] 1 v (fun _ _ _ => XI (mo_ends v)) := w_mo_ends (X := (0, fun _ => 0, none)) (d := 0) (b := 1) hX hp_a (fun q _ _ _ => q)
  obtain ⟨_, _, _, _, _, _, _, q⟩ := q
  exact q

theorem n0_mo_ends {v : VS}  (hX : XI v) (hp_a : (v 203 7) ≤ (v 203 6) ∧ ((v 203 8) = 0 ∨ (v 203 9) < (v 203 7)) ∧ (v 203 9) ≤ (v 203 7)) : ((mo_ends v) 203 7) ≤ ((mo_ends v) 203 6) ∧ (((mo_ends v) 203 8) = 0 ∨ ((mo_ends v) 203 9) < ((mo_ends v) 203 7)) ∧ ((mo_ends v) 203 9) ≤ ((mo_ends v) 203 7) := by
  have q : WV (0, fun _ => 0, none) (0 + 1 + 1) 231 0 [some (.inr (.inr (some 203)))] [] 1 v (fun _ _ _ => ((mo_ends v) 203 7) ≤ ((mo_ends v) 203 6) ∧ (((mo_ends v) 203 8) = 0 ∨ ((mo_ends v) 203 9) < ((mo_ends v) 203 7)) ∧ ((mo_ends v) 203 9) ≤ ((mo_ends v) 203 7)) := w_mo_ends (X := (0, fun _ => 0, none)) (d := 0) (b := 1) hX hp_a (fun _ q _ _ => q)
  obtain ⟨_, _, _, _, _, _, _, q⟩ := q
  exact q

theorem n1_mo_ends {v : VS}  (hX : XI v) (hp_a : (v 203 7) ≤ (v 203 6) ∧ ((v 203 8) = 0 ∨ (v 203 9) < (v 203 7)) ∧ (v 203 9) ≤ (v 203 7)) : (v 203 9) ≤ ((mo_ends v) 203 9) := by
  have q : WV (0, fun _ => 0, none) (0 + 1 + 1) 231 0 [some (.inr (.inr (some 203)))] [] 1 v (fun _ _ _ => (v 203 9) ≤ ((mo_ends v) 203 9)) := w_mo_ends (X := (0, fun _ => 0, none)) (d := 0) (b := 1) hX hp_a (fun _ _ q _ => q)
  obtain ⟨_, _, _, _, _, _, _, q⟩ := q
  exact q

theorem n2_mo_ends {v : VS}  (hX : XI v) (hp_a : (v 203 7) ≤ (v 203 6) ∧ ((v 203 8) = 0 ∨ (v 203 9) < (v 203 7)) ∧ (v 203 9) ≤ (v 203 7)) : ((mo_ends v) 203 12) ≠ 0 ∨ (v 203 9) < ((mo_ends v) 203 9) := by
  have q : WV (0, fun _ => 0, none) (0 + 1 + 1) 231 0 [some (.inr (.inr (some 203)))] [] 1 v (fun _ _ _ => ((mo_ends v) 203 12) ≠ 0 ∨ (v 203 9) < ((mo_ends v) 203 9)) := w_mo_ends (X := (0, fun _ => 0, none)) (d := 0) (b := 1) hX hp_a (fun _ _ _ q => q)
  obtain ⟨_, _, _, _, _, _, _, q⟩ := q
  exact q

theorem o_mo_ends {rk : Nat} {v : VS}  (hk : (rk < 203 ∨ 203 < rk)) : (mo_ends v ) rk = v rk := by
  unfold mo_ends
  by_cases hc_ : (v 203 8) = 3
  · rw [if_pos hc_]
    by_cases hc_ : (v 203 12) = 0
    · rw [if_pos hc_]
      all_goals (show (mo_next v) rk = _)
      all_goals (rw [o_mo_next (by omega)])
    · rw [if_neg hc_]
      all_goals (show v rk = _)
      all_goals rfl
  · rw [if_neg hc_]
    by_cases hc_ : ((mo_fails v 1) 203 12) = 0
    · rw [if_pos hc_]
      all_goals (show (mo_next (mo_fails v 1)) rk = _)
      all_goals (rw [o_mo_next (by omega), o_mo_fails (by omega)])
    · rw [if_neg hc_]
      all_goals (show (mo_fails v 1) rk = _)
      all_goals (rw [o_mo_fails (by omega)])

def mo_begins (v : VS)  : VS :=
  (mo_next (v2 (v2 (v2 v 203 12 0) 203 13 (-1)) 203 7 0))
theorem w_mo_begins {X : PX} {d b : Nat} {v : VS}  (hX : XI v)  {Q : Option PV → Nat → VS → Prop} (hQ : XI (mo_begins v) → (((mo_begins v) 203 7) ≤ ((mo_begins v) 203 6) ∧ (((mo_begins v) 203 8) = 0 ∨ ((mo_begins v) 203 9) < ((mo_begins v) 203 7)) ∧ ((mo_begins v) 203 9) ≤ ((mo_begins v) 203 7)) → (((mo_begins v) 203 12) = 0) → Q none b (mo_begins v)) : WV X (d + 1 + 1) 212 0 [some (.inr (.inr (some 203)))] [] b v Q := by
  rw [mo_begins] at hQ
  have hz6 : 0 ≤ v 203 6 ∧ v 203 6 ≤ 2000 := hX 203 6
  refine r_ex 2 (pc' := 2) (lo' := [some (.inr (.inr (some 203)))]) (st' := [.inl 0, .inr (.inr (some 203))]) rfl ?_
  refine r_puti2 (j := 12) (pc' := 5) (pc0 := 2) (len := 3) rfl (s_203 _) rfl rfl rfl (Or.inl rfl) rfl rfl ?_
  have hX_1 : XI (v2 v 203 12 0) := XI.put hX (show 0 ≤ 0 ∧ 0 ≤ 3 from (by first | assumption | omega | (unfold R32 at *; omega) | (unfold R64 at *; omega) | (simp only [R32, R64] at *; omega)))
  refine r_ex 2 (pc' := 7) (lo' := [some (.inr (.inr (some 203)))]) (st' := [.inl (-1), .inr (.inr (some 203))]) rfl ?_
  refine r_puti2 (j := 13) (pc' := 10) (pc0 := 7) (len := 3) rfl (s_203 _) rfl rfl rfl (Or.inl rfl) rfl rfl ?_
  have hX_2 : XI (v2 (v2 v 203 12 0) 203 13 (-1)) := XI.put hX_1 (show -1 ≤ (-1) ∧ (-1) ≤ 2000 from (by first | assumption | omega | (unfold R32 at *; omega) | (unfold R64 at *; omega) | (simp only [R32, R64] at *; omega)))
  refine r_ex 2 (pc' := 12) (lo' := [some (.inr (.inr (some 203)))]) (st' := [.inl 0, .inr (.inr (some 203))]) rfl ?_
  refine r_puti2 (j := 7) (pc' := 15) (pc0 := 12) (len := 3) rfl (s_203 _) rfl rfl rfl (Or.inl rfl) rfl rfl ?_
  have hX_3 : XI (v2 (v2 (v2 v 203 12 0) 203 13 (-1)) 203 7 0) := XI.put hX_2 (show 0 ≤ 0 ∧ 0 ≤ 2000 from (by first | assumption | omega | (unfold R32 at *; omega) | (unfold R64 at *; omega) | (simp only [R32, R64] at *; omega)))
  refine r_ex 1 (pc' := 16) (lo' := [some (.inr (.inr (some 203)))]) (st' := [.inr (.inr (some 203))]) rfl ?_
  have hp_4 : ((v2 (v2 (v2 v 203 12 0) 203 13 (-1)) 203 7 0) 203 7) ≤ ((v2 (v2 (v2 v 203 12 0) 203 13 (-1)) 203 7 0) 203 6) := (show 0 ≤ (v 203 6) from (by first | assumption | omega | (unfold R32 at *; omega) | (unfold R64 at *; omega) | (simp only [R32, R64] at *; omega)))
  refine r_call (m := 213) (args := [.inr (.inr (some 203))]) (n' := 212) (pc' := 19) (lo' := [some (.inr (.inr (some 203)))]) (st' := []) (I := .invokevirtual 213) (pc0 := 16) (len := 3) rfl rfl rfl (e_mo_next hX_3 hp_4) ?_
  show WV _ _ _ 19 _ [] _ (mo_next (v2 (v2 (v2 v 203 12 0) 203 13 (-1)) 203 7 0)) _
  have hX_5 : XI (mo_next (v2 (v2 (v2 v 203 12 0) 203 13 (-1)) 203 7 0)) := i_mo_next (v := (v2 (v2 (v2 v 203 12 0) 203 13 (-1)) 203 7 0)) hX_3 hp_4
  have hb_6 : ((mo_next (v2 (v2 (v2 v 203 12 0) 203 13 (-1)) 203 7 0)) 203 7) ≤ ((mo_next (v2 (v2 (v2 v 203 12 0) 203 13 (-1)) 203 7 0)) 203 6) ∧ (((mo_next (v2 (v2 (v2 v 203 12 0) 203 13 (-1)) 203 7 0)) 203 8) = 0 ∨ ((mo_next (v2 (v2 (v2 v 203 12 0) 203 13 (-1)) 203 7 0)) 203 9) < ((mo_next (v2 (v2 (v2 v 203 12 0) 203 13 (-1)) 203 7 0)) 203 7)) ∧ ((mo_next (v2 (v2 (v2 v 203 12 0) 203 13 (-1)) 203 7 0)) 203 9) ≤ ((mo_next (v2 (v2 (v2 v 203 12 0) 203 13 (-1)) 203 7 0)) 203 7) := n0_mo_next (v := (v2 (v2 (v2 v 203 12 0) 203 13 (-1)) 203 7 0)) hX_3 hp_4
  have hb_7 : 0 ≤ ((mo_next (v2 (v2 (v2 v 203 12 0) 203 13 (-1)) 203 7 0)) 203 9) := n1_mo_next (v := (v2 (v2 (v2 v 203 12 0) 203 13 (-1)) 203 7 0)) hX_3 hp_4
  have hb_8 : ((mo_next (v2 (v2 (v2 v 203 12 0) 203 13 (-1)) 203 7 0)) 203 12) = 0 := n2_mo_next (v := (v2 (v2 (v2 v 203 12 0) 203 13 (-1)) 203 7 0)) hX_3 hp_4
  refine r_ret (rr := none) (I := .return_) (pc0 := 19) (len := 1) rfl rfl ?_
  exact hQ hX_5 (show ((mo_next (v2 (v2 (v2 v 203 12 0) 203 13 (-1)) 203 7 0)) 203 7) ≤ ((mo_next (v2 (v2 (v2 v 203 12 0) 203 13 (-1)) 203 7 0)) 203 6) ∧ (((mo_next (v2 (v2 (v2 v 203 12 0) 203 13 (-1)) 203 7 0)) 203 8) = 0 ∨ ((mo_next (v2 (v2 (v2 v 203 12 0) 203 13 (-1)) 203 7 0)) 203 9) < ((mo_next (v2 (v2 (v2 v 203 12 0) 203 13 (-1)) 203 7 0)) 203 7)) ∧ ((mo_next (v2 (v2 (v2 v 203 12 0) 203 13 (-1)) 203 7 0)) 203 9) ≤ ((mo_next (v2 (v2 (v2 v 203 12 0) 203 13 (-1)) 203 7 0)) 203 7) from (by first | assumption | omega | (unfold R32 at *; omega) | (unfold R64 at *; omega) | (simp only [R32, R64] at *; omega))) (show ((mo_next (v2 (v2 (v2 v 203 12 0) 203 13 (-1)) 203 7 0)) 203 12) = 0 from (by first | assumption | omega | (unfold R32 at *; omega) | (unfold R64 at *; omega) | (simp only [R32, R64] at *; omega)))

theorem e_mo_begins {X : PX} {d b : Nat} {v : VS}  (hX : XI v)  : EvV X (d + 1 + 1) 212 [.inr (.inr (some 203))] b v none b (mo_begins v) := EvV.of (w_mo_begins hX  (fun _ _ _ => ⟨rfl, rfl, rfl⟩))

theorem i_mo_begins {v : VS}  (hX : XI v)  : XI (mo_begins v) := by
  have q : WV (0, fun _ => 0, none) (0 + 1 + 1) 212 0 [some (.inr (.inr (some 203)))] [] 1 v (fun _ _ _ => XI (mo_begins v)) := w_mo_begins (X := (0, fun _ => 0, none)) (d := 0) (b := 1) hX  (fun q _ _ => q)
  obtain ⟨_, _, _, _, _, _, _, q⟩ := q
  exact q

theorem n0_mo_begins {v : VS}  (hX : XI v)  : ((mo_begins v) 203 7) ≤ ((mo_begins v) 203 6) ∧ (((mo_begins v) 203 8) = 0 ∨ ((mo_begins v) 203 9) < ((mo_begins v) 203 7)) ∧ ((mo_begins v) 203 9) ≤ ((mo_begins v) 203 7) := by
  have q : WV (0, fun _ => 0, none) (0 + 1 + 1) 212 0 [some (.inr (.inr (some 203)))] [] 1 v (fun _ _ _ => ((mo_begins v) 203 7) ≤ ((mo_begins v) 203 6) ∧ (((mo_begins v) 203 8) = 0 ∨ ((mo_begins v) 203 9) < ((mo_begins v) 203 7)) ∧ ((mo_begins v) 203 9) ≤ ((mo_begins v) 203 7)) := w_mo_begins (X := (0, fun _ => 0, none)) (d := 0) (b := 1) hX  (fun _ q _ => q)
  obtain ⟨_, _, _, _, _, _, _, q⟩ := q
  exact q

theorem n1_mo_begins {v : VS}  (hX : XI v)  : ((mo_begins v) 203 12) = 0 := by
  have q : WV (0, fun _ => 0, none) (0 + 1 + 1) 212 0 [some (.inr (.inr (some 203)))] [] 1 v (fun _ _ _ => ((mo_begins v) 203 12) = 0) := w_mo_begins (X := (0, fun _ => 0, none)) (d := 0) (b := 1) hX  (fun _ _ q => q)
  obtain ⟨_, _, _, _, _, _, _, q⟩ := q
  exact q

theorem o_mo_begins {rk : Nat} {v : VS}  (hk : (rk < 203 ∨ 203 < rk)) : (mo_begins v ) rk = v rk := by
  unfold mo_begins
  all_goals (show (mo_next (v2 (v2 (v2 v 203 12 0) 203 13 (-1)) 203 7 0)) rk = _)
  all_goals (rw [o_mo_next (by omega), v2_row (by omega), v2_row (by omega), v2_row (by omega)])

def mo_isOver (v : VS)  : VS :=
  (if (v 203 12) = 0 then (v2 (v2 (v2 v 203 6 0) 203 14 (v 203 12)) 203 15 (-1)) else (v2 (v2 (v2 v 203 6 0) 203 14 (v 203 12)) 203 15 (v 203 13)))
theorem w_mo_isOver {X : PX} {d b : Nat} {v : VS}  (hX : XI v)  {Q : Option PV → Nat → VS → Prop} (hQ : XI (mo_isOver v) → Q none b (mo_isOver v)) : WV X d 232 0 [some (.inr (.inr (some 203)))] [] b v Q := by
  rw [mo_isOver] at hQ
  refine r_ex 2 (pc' := 2) (lo' := [some (.inr (.inr (some 203)))]) (st' := [.inl 0, .inr (.inr (some 203))]) rfl ?_
  refine r_puti2 (j := 6) (pc' := 5) (pc0 := 2) (len := 3) rfl (s_203 _) rfl rfl rfl (Or.inl rfl) rfl rfl ?_
  have hX_1 : XI (v2 v 203 6 0) := XI.put hX (show 0 ≤ 0 ∧ 0 ≤ 2000 from (by first | assumption | omega | (unfold R32 at *; omega) | (unfold R64 at *; omega) | (simp only [R32, R64] at *; omega)))
  refine r_ex 3 (pc' := 10) (lo' := [some (.inr (.inr (some 203)))]) (st' := [.inl (v 203 12), .inr (.inr (some 203))]) rfl ?_
  have hb_2 : 0 ≤ (v 203 12) ∧ (v 203 12) ≤ 3 := hX_1 203 12
  refine r_puti2 (j := 14) (pc' := 13) (pc0 := 10) (len := 3) rfl (s_203 _) rfl rfl rfl (Or.inl rfl) rfl rfl ?_
  have hX_3 : XI (v2 (v2 v 203 6 0) 203 14 (v 203 12)) := XI.put hX_1 (show 0 ≤ (v 203 12) ∧ (v 203 12) ≤ 3 from (by first | assumption | omega | (unfold R32 at *; omega) | (unfold R64 at *; omega) | (simp only [R32, R64] at *; omega)))
  refine r_ex 3 (pc' := 18) (lo' := [some (.inr (.inr (some 203)))]) (st' := [.inl (v 203 12), .inr (.inr (some 203))]) rfl ?_
  have hb_4 : 0 ≤ (v 203 12) ∧ (v 203 12) ≤ 3 := hX_3 203 12
  refine n_if_ne (pc0 := 18) (len := 3) (t := 25) rfl (by first | assumption | omega | (unfold R32 at *; omega) | (unfold R64 at *; omega) | (simp only [R32, R64] at *; omega)) (fun h_18 => ?_) (fun h_18 => ?_)
  · show WV _ _ _ 25 _ _ _ _ _
    rw [if_neg h_18] at hQ
    refine r_ex 2 (pc' := 29) (lo' := [some (.inr (.inr (some 203)))]) (st' := [.inl (v 203 13), .inr (.inr (some 203))]) rfl ?_
    have hb_5 : -1 ≤ (v 203 13) ∧ (v 203 13) ≤ 2000 := hX_3 203 13
    refine r_puti2 (j := 15) (pc' := 32) (pc0 := 29) (len := 3) rfl (s_203 _) rfl rfl rfl (Or.inl rfl) rfl rfl ?_
    have hX_6 : XI (v2 (v2 (v2 v 203 6 0) 203 14 (v 203 12)) 203 15 (v 203 13)) := XI.put hX_3 (show -1 ≤ (v 203 13) ∧ (v 203 13) ≤ 2000 from (by first | assumption | omega | (unfold R32 at *; omega) | (unfold R64 at *; omega) | (simp only [R32, R64] at *; omega)))
    refine r_ret (rr := none) (I := .return_) (pc0 := 32) (len := 1) rfl rfl ?_
    exact hQ hX_6 
  · show WV _ _ _ 21 _ _ _ _ _
    rw [if_pos h_18] at hQ
    refine r_ex 2 (pc' := 29) (lo' := [some (.inr (.inr (some 203)))]) (st' := [.inl (-1), .inr (.inr (some 203))]) rfl ?_
    refine r_puti2 (j := 15) (pc' := 32) (pc0 := 29) (len := 3) rfl (s_203 _) rfl rfl rfl (Or.inl rfl) rfl rfl ?_
    have hX_7 : XI (v2 (v2 (v2 v 203 6 0) 203 14 (v 203 12)) 203 15 (-1)) := XI.put hX_3 (show -1 ≤ (-1) ∧ (-1) ≤ 2000 from (by first | assumption | omega | (unfold R32 at *; omega) | (unfold R64 at *; omega) | (simp only [R32, R64] at *; omega)))
    refine r_ret (rr := none) (I := .return_) (pc0 := 32) (len := 1) rfl rfl ?_
    exact hQ hX_7 

theorem e_mo_isOver {X : PX} {d b : Nat} {v : VS}  (hX : XI v)  : EvV X d 232 [.inr (.inr (some 203))] b v none b (mo_isOver v) := EvV.of (w_mo_isOver hX  (fun _ => ⟨rfl, rfl, rfl⟩))

theorem i_mo_isOver {v : VS}  (hX : XI v)  : XI (mo_isOver v) := by
  have q : WV (0, fun _ => 0, none) 0 232 0 [some (.inr (.inr (some 203)))] [] 1 v (fun _ _ _ => XI (mo_isOver v)) := w_mo_isOver (X := (0, fun _ => 0, none)) (d := 0) (b := 1) hX  (fun q => q)
  obtain ⟨_, _, _, _, _, _, _, q⟩ := q
  exact q

theorem o_mo_isOver {rk : Nat} {v : VS}  (hk : (rk < 203 ∨ 203 < rk)) : (mo_isOver v ) rk = v rk := by
  unfold mo_isOver
  by_cases hc_ : (v 203 12) = 0
  · rw [if_pos hc_]
    all_goals (show (v2 (v2 (v2 v 203 6 0) 203 14 (v 203 12)) 203 15 (-1)) rk = _)
    all_goals (rw [v2_row (by omega), v2_row (by omega), v2_row (by omega)])
  · rw [if_neg hc_]
    all_goals (show (v2 (v2 (v2 v 203 6 0) 203 14 (v 203 12)) 203 15 (v 203 13)) rk = _)
    all_goals (rw [v2_row (by omega), v2_row (by omega), v2_row (by omega)])

def mo_churchHere (v : VS)  : Int × VS :=
  ((mo_number v 0 ((v 210 44) - 1)).1, (mo_number v 0 ((v 210 44) - 1)).2)
theorem w_mo_churchHere {X : PX} {d b : Nat} {v : VS}  (hX : XI v) (hp_a : (v 203 7) ≤ (v 203 6) ∧ ((v 203 8) = 0 ∨ (v 203 9) < (v 203 7)) ∧ (v 203 9) ≤ (v 203 7)) {Q : Option PV → Nat → VS → Prop} (hQ : XI (mo_churchHere v).2 → (0 ≤ (mo_churchHere v).1 ∧ (mo_churchHere v).1 ≤ 8) → (((mo_churchHere v).2 203 7) ≤ ((mo_churchHere v).2 203 6) ∧ (((mo_churchHere v).2 203 8) = 0 ∨ ((mo_churchHere v).2 203 9) < ((mo_churchHere v).2 203 7)) ∧ ((mo_churchHere v).2 203 9) ≤ ((mo_churchHere v).2 203 7)) → ((v 203 9) ≤ ((mo_churchHere v).2 203 9)) → Q (some (.inl (mo_churchHere v).1)) b (mo_churchHere v).2) : WV X (d + 1 + 1 + 1) 227 0 [some (.inr (.inr (some 203)))] [] b v Q := by
  rw [mo_churchHere] at hQ
  refine r_ex 4 (pc' := 4) (lo' := [some (.inr (.inr (some 203)))]) (st' := [.inl 0, .inr (.inr (some 203)), .inl 0, .inr (.inr (some 203))]) rfl ?_
  refine r_call (m := 223) (args := [.inr (.inr (some 203)), .inl 0]) (n' := 227) (pc' := 7) (lo' := [some (.inr (.inr (some 203)))]) (st' := [.inl 0, .inr (.inr (some 203))]) (I := .invokevirtual 223) (pc0 := 4) (len := 3) rfl rfl rfl (e_mo_hr0 hX) ?_
  show WV _ _ _ 7 _ [.inl (v 210 44), .inl 0, .inr (.inr (some 203))] _ _ _
  have hb_1 : 0 ≤ (v 210 44) ∧ (v 210 44) ≤ 9 := hX 210 44
  refine r_ex 2 (pc' := 9) (lo' := [some (.inr (.inr (some 203)))]) (st' := [.inl ((v 210 44) - 1), .inl 0, .inr (.inr (some 203))]) rfl ?_
  have hp_2 : 0 ≤ (0 : Int) ∧ (0 : Int) ≤ 300 := (by first | assumption | omega | (unfold R32 at *; omega) | (unfold R64 at *; omega) | (simp only [R32, R64] at *; omega))
  have hp_3 : -1 ≤ ((v 210 44) - 1) ∧ ((v 210 44) - 1) ≤ 300 := (by first | assumption | omega | (unfold R32 at *; omega) | (unfold R64 at *; omega) | (simp only [R32, R64] at *; omega))
  have hp_4 : (v 203 7) ≤ (v 203 6) ∧ ((v 203 8) = 0 ∨ (v 203 9) < (v 203 7)) ∧ (v 203 9) ≤ (v 203 7) := (show (v 203 7) ≤ (v 203 6) ∧ ((v 203 8) = 0 ∨ (v 203 9) < (v 203 7)) ∧ (v 203 9) ≤ (v 203 7) from (by first | assumption | omega | (unfold R32 at *; omega) | (unfold R64 at *; omega) | (simp only [R32, R64] at *; omega)))
  refine r_call (m := 221) (args := [.inr (.inr (some 203)), .inl 0, .inl ((v 210 44) - 1)]) (n' := 227) (pc' := 12) (lo' := [some (.inr (.inr (some 203)))]) (st' := []) (I := .invokevirtual 221) (pc0 := 9) (len := 3) rfl rfl rfl (e_mo_number hX hp_2 hp_3 hp_4) ?_
  show WV _ _ _ 12 _ [.inl ((mo_number v 0 ((v 210 44) - 1)).1)] _ (mo_number v 0 ((v 210 44) - 1)).2 _
  have hX_5 : XI (mo_number v 0 ((v 210 44) - 1)).2 := i_mo_number (v := v) (l := 0) (g := ((v 210 44) - 1)) hX hp_2 hp_3 hp_4
  have hb_6 := n0_mo_number (v := v) (l := 0) (g := ((v 210 44) - 1)) hX hp_2 hp_3 hp_4
  have hb_7 : ((mo_number v 0 ((v 210 44) - 1)).2 203 7) ≤ ((mo_number v 0 ((v 210 44) - 1)).2 203 6) ∧ (((mo_number v 0 ((v 210 44) - 1)).2 203 8) = 0 ∨ ((mo_number v 0 ((v 210 44) - 1)).2 203 9) < ((mo_number v 0 ((v 210 44) - 1)).2 203 7)) ∧ ((mo_number v 0 ((v 210 44) - 1)).2 203 9) ≤ ((mo_number v 0 ((v 210 44) - 1)).2 203 7) := n1_mo_number (v := v) (l := 0) (g := ((v 210 44) - 1)) hX hp_2 hp_3 hp_4
  have hb_8 : (v 203 9) ≤ ((mo_number v 0 ((v 210 44) - 1)).2 203 9) := n2_mo_number (v := v) (l := 0) (g := ((v 210 44) - 1)) hX hp_2 hp_3 hp_4
  refine r_ret (rr := some (.inl ((mo_number v 0 ((v 210 44) - 1)).1))) (I := .ireturn) (pc0 := 12) (len := 1) rfl rfl ?_
  exact hQ hX_5 (by first | assumption | omega | (unfold R32 at *; omega) | (unfold R64 at *; omega) | (simp only [R32, R64] at *; omega)) (show ((mo_number v 0 ((v 210 44) - 1)).2 203 7) ≤ ((mo_number v 0 ((v 210 44) - 1)).2 203 6) ∧ (((mo_number v 0 ((v 210 44) - 1)).2 203 8) = 0 ∨ ((mo_number v 0 ((v 210 44) - 1)).2 203 9) < ((mo_number v 0 ((v 210 44) - 1)).2 203 7)) ∧ ((mo_number v 0 ((v 210 44) - 1)).2 203 9) ≤ ((mo_number v 0 ((v 210 44) - 1)).2 203 7) from (by first | assumption | omega | (unfold R32 at *; omega) | (unfold R64 at *; omega) | (simp only [R32, R64] at *; omega))) (show (v 203 9) ≤ ((mo_number v 0 ((v 210 44) - 1)).2 203 9) from (by first | assumption | omega | (unfold R32 at *; omega) | (unfold R64 at *; omega) | (simp only [R32, R64] at *; omega)))

theorem e_mo_churchHere {X : PX} {d b : Nat} {v : VS}  (hX : XI v) (hp_a : (v 203 7) ≤ (v 203 6) ∧ ((v 203 8) = 0 ∨ (v 203 9) < (v 203 7)) ∧ (v 203 9) ≤ (v 203 7)) : EvV X (d + 1 + 1 + 1) 227 [.inr (.inr (some 203))] b v (some (.inl (mo_churchHere v).1)) b ((mo_churchHere v).2) := EvV.of (w_mo_churchHere hX hp_a (fun _ _ _ _ => ⟨rfl, rfl, rfl⟩))

theorem i_mo_churchHere {v : VS}  (hX : XI v) (hp_a : (v 203 7) ≤ (v 203 6) ∧ ((v 203 8) = 0 ∨ (v 203 9) < (v 203 7)) ∧ (v 203 9) ≤ (v 203 7)) : XI ((mo_churchHere v).2) := by
  have q : WV (0, fun _ => 0, none) (0 + 1 + 1 + 1) 227 0 [some (.inr (.inr (some 203)))] [] 1 v (fun _ _ _ => XI ((mo_churchHere v).2)) := w_mo_churchHere (X := (0, fun _ => 0, none)) (d := 0) (b := 1) hX hp_a (fun q _ _ _ => q)
  obtain ⟨_, _, _, _, _, _, _, q⟩ := q
  exact q

theorem n0_mo_churchHere {v : VS}  (hX : XI v) (hp_a : (v 203 7) ≤ (v 203 6) ∧ ((v 203 8) = 0 ∨ (v 203 9) < (v 203 7)) ∧ (v 203 9) ≤ (v 203 7)) : 0 ≤ (mo_churchHere v).1 ∧ (mo_churchHere v).1 ≤ 8 := by
  have q : WV (0, fun _ => 0, none) (0 + 1 + 1 + 1) 227 0 [some (.inr (.inr (some 203)))] [] 1 v (fun _ _ _ => 0 ≤ (mo_churchHere v).1 ∧ (mo_churchHere v).1 ≤ 8) := w_mo_churchHere (X := (0, fun _ => 0, none)) (d := 0) (b := 1) hX hp_a (fun _ q _ _ => q)
  obtain ⟨_, _, _, _, _, _, _, q⟩ := q
  exact q

theorem n1_mo_churchHere {v : VS}  (hX : XI v) (hp_a : (v 203 7) ≤ (v 203 6) ∧ ((v 203 8) = 0 ∨ (v 203 9) < (v 203 7)) ∧ (v 203 9) ≤ (v 203 7)) : ((mo_churchHere v).2 203 7) ≤ ((mo_churchHere v).2 203 6) ∧ (((mo_churchHere v).2 203 8) = 0 ∨ ((mo_churchHere v).2 203 9) < ((mo_churchHere v).2 203 7)) ∧ ((mo_churchHere v).2 203 9) ≤ ((mo_churchHere v).2 203 7) := by
  have q : WV (0, fun _ => 0, none) (0 + 1 + 1 + 1) 227 0 [some (.inr (.inr (some 203)))] [] 1 v (fun _ _ _ => ((mo_churchHere v).2 203 7) ≤ ((mo_churchHere v).2 203 6) ∧ (((mo_churchHere v).2 203 8) = 0 ∨ ((mo_churchHere v).2 203 9) < ((mo_churchHere v).2 203 7)) ∧ ((mo_churchHere v).2 203 9) ≤ ((mo_churchHere v).2 203 7)) := w_mo_churchHere (X := (0, fun _ => 0, none)) (d := 0) (b := 1) hX hp_a (fun _ _ q _ => q)
  obtain ⟨_, _, _, _, _, _, _, q⟩ := q
  exact q

theorem n2_mo_churchHere {v : VS}  (hX : XI v) (hp_a : (v 203 7) ≤ (v 203 6) ∧ ((v 203 8) = 0 ∨ (v 203 9) < (v 203 7)) ∧ (v 203 9) ≤ (v 203 7)) : (v 203 9) ≤ ((mo_churchHere v).2 203 9) := by
  have q : WV (0, fun _ => 0, none) (0 + 1 + 1 + 1) 227 0 [some (.inr (.inr (some 203)))] [] 1 v (fun _ _ _ => (v 203 9) ≤ ((mo_churchHere v).2 203 9)) := w_mo_churchHere (X := (0, fun _ => 0, none)) (d := 0) (b := 1) hX hp_a (fun _ _ _ q => q)
  obtain ⟨_, _, _, _, _, _, _, q⟩ := q
  exact q

theorem o_mo_churchHere {rk : Nat} {v : VS}  (hk : (rk < 203 ∨ 203 < rk)) : (mo_churchHere v ).2 rk = v rk := by
  unfold mo_churchHere
  all_goals (show ((mo_number v 0 ((v 210 44) - 1)).2) rk = _)
  all_goals (rw [o_mo_number (by omega)])
