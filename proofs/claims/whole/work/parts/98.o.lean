
/-! what holds at the start -/
def okq (o : Option (Int × Int)) : Bool := match o with
  | some q => decide (q.1 ≤ 0) && decide (0 ≤ q.2)
  | none => true
def oke (e : Option (Int × Int) ⊕ List (Option (Int × Int))) : Bool := match e with
  | .inl q => okq q
  | .inr l => l.all okq
theorem okq_in {o : Option (Int × Int)} (h : okq o = true) : inn o 0 := by
  cases o with
  | none => trivial
  | some q =>
    unfold okq at h
    rw [Bool.and_eq_true, decide_eq_true_eq, decide_eq_true_eq] at h
    exact h
theorem bdk_ok {k : Nat} {e : Option (Int × Int) ⊕ List (Option (Int × Int))} (h : bdk k = some e) : oke e = true := by
  have a0 : bdl_0.all oke = true := by decide +kernel
  have a1 : bdl_1.all oke = true := by decide +kernel
  have a2 : bdl_2.all oke = true := by decide +kernel
  have a3 : bdl_3.all oke = true := by decide +kernel
  have a4 : bdl_4.all oke = true := by decide +kernel
  have a5 : bdl_5.all oke = true := by decide +kernel
  have a6 : bdl_6.all oke = true := by decide +kernel
  have a7 : bdl_7.all oke = true := by decide +kernel
  unfold bdk at h
  revert h
  cases Nat.ble k 29 with
  | true => intro h; exact List.all_eq_true.mp a0 e (List.mem_of_getElem? h)
  | false =>
    cases Nat.ble k 59 with
    | true => intro h; exact List.all_eq_true.mp a1 e (List.mem_of_getElem? h)
    | false =>
      cases Nat.ble k 89 with
      | true => intro h; exact List.all_eq_true.mp a2 e (List.mem_of_getElem? h)
      | false =>
        cases Nat.ble k 119 with
        | true => intro h; exact List.all_eq_true.mp a3 e (List.mem_of_getElem? h)
        | false =>
          cases Nat.ble k 149 with
          | true => intro h; exact List.all_eq_true.mp a4 e (List.mem_of_getElem? h)
          | false =>
            cases Nat.ble k 179 with
            | true => intro h; exact List.all_eq_true.mp a5 e (List.mem_of_getElem? h)
            | false =>
              cases Nat.ble k 209 with
              | true => intro h; exact List.all_eq_true.mp a6 e (List.mem_of_getElem? h)
              | false => intro h; exact List.all_eq_true.mp a7 e (List.mem_of_getElem? h)
theorem XI_zero : XI vz := by
  intro k j
  show inn (bd k j) 0
  unfold bd
  split
  · rename_i q hq
    exact okq_in (bdk_ok hq)
  · rename_i l hl
    have h : l.all okq = true := bdk_ok hl
    cases e : l[j]? with
    | none => trivial
    | some o => exact okq_in (List.all_eq_true.mp h o (List.mem_of_getElem? e))
  · trivial
theorem XI_00 : XI v00 := by
  unfold v00
  have h1 := XI.put (k := 0) (j := 10) (x := 1) XI_zero (show (0 : Int) ≤ 1 ∧ (1 : Int) ≤ 1 by omega)
  have h2 := XI.put (k := 2) (j := 2) (x := -1) h1 (show (-1 : Int) ≤ -1 ∧ (-1 : Int) ≤ 2000 by omega)
  have h3 := XI.put (k := 73) (j := 5) (x := 300) h2 (show (0 : Int) ≤ 300 ∧ (300 : Int) ≤ 300 by omega)
  have h4 := XI.put (k := 73) (j := 6) (x := -1) h3 (show (-1 : Int) ≤ -1 ∧ (-1 : Int) ≤ 299 by omega)
  have h5 := XI.put (k := 203) (j := 15) (x := -1) h4 (show (-1 : Int) ≤ -1 ∧ (-1 : Int) ≤ 2000 by omega)
  have h6 := XI.put (k := 204) (j := 0) (x := -1) h5 (show (-1 : Int) ≤ -1 ∧ (-1 : Int) ≤ 3 by omega)
  have h7 := XI.put (k := 204) (j := 1) (x := -1) h6 (show (-1 : Int) ≤ -1 ∧ (-1 : Int) ≤ 3 by omega)
  have h8 := XI.put (k := 204) (j := 2) (x := -1) h7 (show (-1 : Int) ≤ -1 ∧ (-1 : Int) ≤ 3 by omega)
  exact XI.put (k := 204) (j := 3) (x := -1) h8 (show (-1 : Int) ≤ -1 ∧ (-1 : Int) ≤ 3 by omega)
def nzk (k : Nat) : Prop := k ≠ 0 ∧ k ≠ 2 ∧ k ≠ 73 ∧ k ≠ 203 ∧ k ≠ 204
theorem v00_z (k j : Nat) (h : k ≠ 0 ∧ k ≠ 2 ∧ k ≠ 73 ∧ k ≠ 203 ∧ k ≠ 204) : v00 k j = 0 := by
  unfold v00
  rw [v2_eq, if_neg (by omega), v2_eq, if_neg (by omega), v2_eq, if_neg (by omega), v2_eq, if_neg (by omega), v2_eq, if_neg (by omega), v2_eq, if_neg (by omega), v2_eq, if_neg (by omega), v2_eq, if_neg (by omega), v2_eq, if_neg (by omega)]
  rfl
theorem v00_zz (k j k' j' : Nat) (h : k ≠ 0 ∧ k ≠ 2 ∧ k ≠ 73 ∧ k ≠ 203 ∧ k ≠ 204) (h' : k' ≠ 0 ∧ k' ≠ 2 ∧ k' ≠ 73 ∧ k' ≠ 203 ∧ k' ≠ 204) : v00 k j = v00 k' j' := by rw [v00_z k j h, v00_z k' j' h']
theorem v00_r (k : Nat) (h : k ≠ 0 ∧ k ≠ 2 ∧ k ≠ 73 ∧ k ≠ 203 ∧ k ≠ 204) : v00 k = fun _ => 0 := funext (fun j => v00_z k j h)
theorem BQ_00 : BQ 33 0 v00 := ⟨v00_zz _ _ _ _ (by omega) (by omega), v00_zz _ _ _ _ (by omega) (by omega), v00_zz _ _ _ _ (by omega) (by omega), v00_zz _ _ _ _ (by omega) (by omega), v00_zz _ _ _ _ (by omega) (by omega), v00_zz _ _ _ _ (by omega) (by omega), fun _ _ => ⟨v00_zz _ _ _ _ (by omega) (by omega), v00_zz _ _ _ _ (by omega) (by omega), v00_zz _ _ _ _ (by omega) (by omega)⟩, v00_zz _ _ _ _ (by omega) (by omega), fun _ _ => ⟨v00_zz _ _ _ _ (by omega) (by omega), v00_zz _ _ _ _ (by omega) (by omega), v00_zz _ _ _ _ (by omega) (by omega), v00_zz _ _ _ _ (by omega) (by omega)⟩, v00_zz _ _ _ _ (by omega) (by omega), fun _ _ => ⟨v00_zz _ _ _ _ (by omega) (by omega), v00_zz _ _ _ _ (by omega) (by omega), v00_zz _ _ _ _ (by omega) (by omega)⟩, v00_zz _ _ _ _ (by omega) (by omega), fun _ _ => ⟨v00_zz _ _ _ _ (by omega) (by omega), v00_zz _ _ _ _ (by omega) (by omega)⟩, v00_zz _ _ _ _ (by omega) (by omega), fun _ _ => ⟨v00_zz _ _ _ _ (by omega) (by omega), v00_zz _ _ _ _ (by omega) (by omega), v00_zz _ _ _ _ (by omega) (by omega)⟩, v00_zz _ _ _ _ (by omega) (by omega), fun _ _ => ⟨v00_zz _ _ _ _ (by omega) (by omega), v00_zz _ _ _ _ (by omega) (by omega), v00_zz _ _ _ _ (by omega) (by omega)⟩, v00_zz _ _ _ _ (by omega) (by omega), fun _ _ => ⟨v00_zz _ _ _ _ (by omega) (by omega), v00_zz _ _ _ _ (by omega) (by omega), v00_zz _ _ _ _ (by omega) (by omega)⟩⟩
theorem VB_00 : VB 33 v00 := by
  refine ⟨fun h => ?_, fun _ => ⟨v00_z _ _ (by omega), v00_z _ _ (by omega), v00_z _ _ (by omega), v00_z _ _ (by omega)⟩, fun e he => ?_, fun e he => ?_, fun e he => ?_, fun e he => ?_, fun e he => ?_⟩
  · rw [v00_z _ _ (by omega)] at h; omega
  · rw [v00_z _ _ (by omega)] at he; omega
  · rw [v00_z _ _ (by omega)] at he; omega
  · rw [v00_z _ _ (by omega)] at he; omega
  · rw [v00_z _ _ (by omega)] at he; omega
  · rw [v00_z _ _ (by omega)] at he; omega
theorem CF_00 : CF v00 := by
  unfold CF
  rw [v00_r 211 (by omega), v00_r 212 (by omega), v00_r 213 (by omega), v00_r 214 (by omega)]
  simp
theorem AIR_00 : AIR v00 := by
  refine ⟨fun t h => ?_, fun e t _ _ => ?_, fun e t _ _ => ?_, fun e t _ _ => ?_⟩
  · rw [v00_z _ _ (by omega)] at h; omega
  · rw [v00_z 64 _ (by omega), bt_0, v00_z 50 _ (by omega)]
    constructor
    · intro h; omega
    · rintro ⟨i, h, _⟩; omega
  · rw [v00_z 65 _ (by omega), bt_0, v00_z 54 _ (by omega)]
    constructor
    · intro h; omega
    · rintro ⟨i, h, _⟩; omega
  · rw [v00_z 66 _ (by omega), bt_0, v00_z 58 _ (by omega)]
    constructor
    · intro h; omega
    · rintro ⟨i, h, _⟩; omega
theorem SLQ_00 : SLQ v00 := by
  refine ⟨fun q hq => ?_, fun q hq h => ?_, fun q j hq h => ?_⟩
  · rw [v00_z _ _ (by omega)]
    have : q = 0 ∨ q = 1 ∨ q = 2 ∨ q = 3 := by omega
    rcases this with rfl | rfl | rfl | rfl <;> simp [v00, v2_eq]
  · rw [v00_z _ _ (by omega)] at h; exact absurd rfl h
  · rw [v00_z _ _ (by omega)] at h; exact absurd rfl h
theorem TPQ_00 : TPQ v00 := by
  have h1 : v00 0 1 = 0 := by simp [v00, v2_eq, vz]
  refine ⟨?_, fun j hj => ?_, ?_, ?_⟩
  · rw [h1]; simp [v00, v2_eq, vz]
  · rw [h1] at hj; omega
  · simp [v00, v2_eq, vz]
  · simp [v00, v2_eq, vz]
theorem IMQ_00 : IMQ v00 := by
  have h1 : v00 0 13 = 0 := by simp [v00, v2_eq, vz]
  refine ⟨fun r hr => ?_, fun r hr h => ?_⟩
  · rw [h1, bt_0, v00_z _ _ (by omega)]
  · rw [v00_z _ _ (by omega)] at h; omega
theorem INV_00 : INV v00 := by
  have h1 : v00 0 10 = 1 := by simp [v00, v2_eq]
  refine ⟨⟨XI_00, CF_00, fun t _ _ => v00_z _ _ (by omega), TPQ_00, SLQ_00, IMQ_00, BQ_00, VB_00⟩, AIR_00, fun h => ?_⟩
  rw [h1] at h; omega
