/-! bits of small numbers, by program -/
def bt (x : Int) (c : Int) : Int := x / 2 ^ c.toNat % 2
def setb (x c : Int) : Int := if bt x c = 1 then x else x + 2 ^ c.toNat
def clrb (x c : Int) : Int := if bt x c = 1 then x - 2 ^ c.toNat else x
def bk_1 (x c : Nat) : Bool := decide (pm_and (pm_shr (x : Int) (c : Int)) 1 = bt x c)
def bk_2 (x c : Nat) : Bool := decide (pm_or (x : Int) (pm_shl 1 (c : Int)) = setb x c)
def bk_3 (x c : Nat) : Bool := decide (pm_and (x : Int) (pm_xor (pm_shl 1 (c : Int)) (-1)) = clrb x c)
theorem bk_1_ok : (List.range 4096).all (fun x => (List.range 12).all (fun c => bk_1 x c)) = true := by decide +kernel
theorem bk_2_ok : (List.range 4096).all (fun x => (List.range 12).all (fun c => bk_2 x c)) = true := by decide +kernel
theorem bk_3_ok : (List.range 4096).all (fun x => (List.range 12).all (fun c => bk_3 x c)) = true := by decide +kernel
theorem bk_use {f : Nat → Nat → Bool} (h : (List.range 4096).all (fun x => (List.range 12).all (fun c => f x c)) = true) {x c : Nat} (hx : x < 4096) (hc : c < 12) : f x c = true :=
  List.all_eq_true.mp (List.all_eq_true.mp h x (List.mem_range.mpr hx)) c (List.mem_range.mpr hc)
theorem bit_eq {x c : Int} (hx : 0 ≤ x ∧ x < 4096) (hc : 0 ≤ c ∧ c < 12) : pm_and (pm_shr x c) 1 = bt x c := by
  obtain ⟨n, rfl⟩ := Int.eq_ofNat_of_zero_le hx.1
  obtain ⟨m, rfl⟩ := Int.eq_ofNat_of_zero_le hc.1
  have q := bk_use bk_1_ok (x := n) (c := m) (by omega) (by omega)
  simpa [bk_1] using q
theorem or_eq {x c : Int} (hx : 0 ≤ x ∧ x < 4096) (hc : 0 ≤ c ∧ c < 12) : pm_or x (pm_shl 1 c) = setb x c := by
  obtain ⟨n, rfl⟩ := Int.eq_ofNat_of_zero_le hx.1
  obtain ⟨m, rfl⟩ := Int.eq_ofNat_of_zero_le hc.1
  have q := bk_use bk_2_ok (x := n) (c := m) (by omega) (by omega)
  simpa [bk_2] using q
theorem clr_eq {x c : Int} (hx : 0 ≤ x ∧ x < 4096) (hc : 0 ≤ c ∧ c < 12) : pm_and x (pm_xor (pm_shl 1 c) (-1)) = clrb x c := by
  obtain ⟨n, rfl⟩ := Int.eq_ofNat_of_zero_le hx.1
  obtain ⟨m, rfl⟩ := Int.eq_ofNat_of_zero_le hc.1
  have q := bk_use bk_3_ok (x := n) (c := m) (by omega) (by omega)
  simpa [bk_3] using q
