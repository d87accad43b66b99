
/-! the two constructors -/
def lz_0 : LZH := ((pm_ftys.getD 11 []).length, [.inr (.inr (11, (pm_ftys.getD 11 []).map pm_dflt))])
def lz_1 : LZH := ((lz_run 2000 12 (pm_entry 0 [.inr (.inr (some 0))]) lz_0).getD (none, (0, []))).2
def lz_2 : LZH := (lz_1.1 + (pm_ftys.getD 12 []).length, lz_1.2 ++ [.inr (.inr (12, (pm_ftys.getD 12 []).map pm_dflt))])
def lz_3 : LZH := ((lz_run 2000 12 (pm_entry 199 [.inr (.inr (some 203))]) lz_2).getD (none, (0, []))).2
theorem lz_of {x : Option (Option PV × LZH)} (h : x.map (fun q => q.1.isNone) = some true) : x = some (none, (x.getD (none, (0, []))).2) := by
  cases x with
  | none => cases h
  | some q =>
    obtain ⟨r, l⟩ := q
    cases r with
    | none => rfl
    | some r => cases h
theorem lz_k1 : (lz_run 2000 12 (pm_entry 0 [.inr (.inr (some 0))]) lz_0).map (fun q => q.1.isNone) = some true := by decide +kernel
theorem lz_e1 : lz_run 2000 12 (pm_entry 0 [.inr (.inr (some 0))]) lz_0 = some (none, lz_1) := lz_of lz_k1
theorem lz_k3 : (lz_run 2000 12 (pm_entry 199 [.inr (.inr (some 203))]) lz_2).map (fun q => q.1.isNone) = some true := by decide +kernel
theorem lz_e3 : lz_run 2000 12 (pm_entry 199 [.inr (.inr (some 203))]) lz_2 = some (none, lz_3) := lz_of lz_k3
theorem lz_n1 : lz_1.2.length = 203 ∧ lz_1.1 < 1000000 := by decide +kernel
theorem lz_n3 : lz_3.2.length = 233 ∧ lz_3.1 = 49807 := by decide +kernel
/-- all places at the start -/
def vz : VS := fun _ _ => 0
def v00 : VS := v2 (v2 (v2 (v2 (v2 (v2 (v2 (v2 (v2 vz 0 10 1) 2 2 (-1)) 73 5 300) 73 6 (-1)) 203 15 (-1)) 204 0 (-1)) 204 1 (-1)) 204 2 (-1)) 204 3 (-1)
def lz_fit (c : LZ) (s : Sh) (w : Nat → Int) : Bool := match c, s with
  | .inl q, .inl z => decide (q.1 = z.1) && (decide (q.2.1 = z.2) && ((q.2.2.all (fun y => decide (y.1 < 20))) && (List.range 20).all (fun j => decide (lz_a q.2.2 j = w j))))
  | .inr (.inl q), .inr (.inl z) => decide (q.1 = z.1) && (decide (q.2.1 = z.2.1) && ((q.2.2.all (fun y => decide (y.1 < z.2.2.length))) && (List.range z.2.2.length).all (fun j => decide (lz_r q.2.2 j = z.2.2.getD j none))))
  | .inr (.inr q), .inr (.inr z) => decide (q.1 = z.1) && decide (q.2 = flds z.2 w 0)
  | _, _ => false
def lz_all : List LZ → Nat → Bool
  | [], _ => true
  | c :: t, k => (match sh 32 k with
    | some s => lz_fit c s (v00 k)
    | none => false) && lz_all t (k + 1)
theorem lz_fits : lz_all lz_3.2 0 = true := by decide +kernel
theorem lz_a0 {m j : Nat} (hj : m ≤ j) : ∀ ws : List (Nat × Int), ws.all (fun y => decide (y.1 < m)) = true → lz_a ws j = 0 := by
  intro ws
  induction ws with
  | nil => intro _; rfl
  | cons q t ih =>
    intro h
    rw [List.all_cons, Bool.and_eq_true, decide_eq_true_eq] at h
    rw [lz_a, fset_at, if_neg (by omega)]
    exact ih h.2
theorem lz_r0 {m j : Nat} (hj : m ≤ j) : ∀ ws : List (Nat × Option Nat), ws.all (fun y => decide (y.1 < m)) = true → lz_r ws j = none := by
  intro ws
  induction ws with
  | nil => intro _; rfl
  | cons q t ih =>
    intro h
    rw [List.all_cons, Bool.and_eq_true, decide_eq_true_eq] at h
    rw [lz_r, fset_at, if_neg (by omega)]
    exact ih h.2
theorem lz_fit_ok {c : LZ} {s : Sh} {w : Nat → Int} (h : lz_fit c s w = true) (hw : ∀ j, 20 ≤ j → w j = 0) : lz_up c = cellOf s w := by
  unfold lz_fit at h
  split at h
  · rename_i q z
    rw [Bool.and_eq_true, Bool.and_eq_true, Bool.and_eq_true, decide_eq_true_eq, decide_eq_true_eq] at h
    obtain ⟨h1, h2, h3, h4⟩ := h
    have e : lz_a q.2.2 = w := by
      funext j
      by_cases g : j < 20
      · exact of_decide_eq_true (List.all_eq_true.mp h4 j (List.mem_range.mpr g))
      · rw [lz_a0 (m := 20) (by omega) _ h3, hw j (by omega)]
    simp only [lz_up, cellOf, e, h1, h2]
  · rename_i q z
    rw [Bool.and_eq_true, Bool.and_eq_true, Bool.and_eq_true, decide_eq_true_eq, decide_eq_true_eq] at h
    obtain ⟨h1, h2, h3, h4⟩ := h
    have e : lz_r q.2.2 = fun j => z.2.2.getD j none := by
      funext j
      by_cases g : j < z.2.2.length
      · exact of_decide_eq_true (List.all_eq_true.mp h4 j (List.mem_range.mpr g))
      · rw [lz_r0 (m := z.2.2.length) (by omega) _ h3]
        simp [List.getD, List.getElem?_eq_none (l := z.2.2) (i := j) (by omega)]
    simp only [lz_up, cellOf, e, h1, h2]
  · rename_i q z
    rw [Bool.and_eq_true, decide_eq_true_eq, decide_eq_true_eq] at h
    obtain ⟨h1, h2⟩ := h
    simp only [lz_up, cellOf, ← h2, ← h1]
  · cases h
theorem lz_all_at : ∀ (L : List LZ) (k i : Nat), lz_all L k = true → i < L.length → (∀ a j, 20 ≤ j → v00 a j = 0) → (L[i]?).map lz_up = (sh 32 (k + i)).map (fun s => cellOf s (v00 (k + i))) := by
  intro L
  induction L with
  | nil => intro k i _ hi; simp at hi
  | cons c t ih =>
    intro k i h hi hz
    rw [lz_all, Bool.and_eq_true] at h
    cases i with
    | zero =>
      have h1 := h.1
      split at h1
      · rename_i s hs
        rw [Nat.add_zero, hs]
        simp [lz_fit_ok h1 (fun j hj => hz k j hj)]
      · cases h1
    | succ i =>
      have := ih (k + 1) i h.2 (by simpa using hi) hz
      rw [show k + (i + 1) = k + 1 + i by omega, ← this]
      simp
theorem v00_far (a j : Nat) (h : 20 ≤ j) : v00 a j = 0 := by
  unfold v00
  rw [v2_eq, if_neg (by omega), v2_eq, if_neg (by omega), v2_eq, if_neg (by omega), v2_eq, if_neg (by omega), v2_eq, if_neg (by omega), v2_eq, if_neg (by omega), v2_eq, if_neg (by omega), v2_eq, if_neg (by omega), v2_eq, if_neg (by omega)]
  rfl
theorem sh_end {k : Nat} (h : 233 ≤ k) : sh 32 k = none := by
  have f : ∀ m, m < 233 → Nat.ble k m = false := fun m hm => by
    rw [Bool.eq_false_iff]
    intro e
    have := Nat.le_of_ble_eq_true e
    omega
  unfold sh
  rw [f 29 (by omega), f 59 (by omega), f 89 (by omega), f 119 (by omega), f 149 (by omega), f 179 (by omega), f 209 (by omega)]
  simp only [cond_false]
  exact List.getElem?_eq_none (show 23 ≤ k - 210 by omega)
theorem lz_cells : (fun k => (lz_3.2[k]?).map lz_up) = (fun k => (sh 32 k).map (fun s => cellOf s (v00 k))) := by
  funext k
  by_cases g : k < 233
  · have := lz_all_at lz_3.2 0 k lz_fits (by rw [lz_n3.1]; exact g) v00_far
    rw [Nat.zero_add] at this
    exact this
  · rw [List.getElem?_eq_none (l := lz_3.2) (by rw [lz_n3.1]; omega), sh_end (by omega)]
    rfl
theorem lz_hp : lz_h lz_3 = hp 32 v00 := by
  unfold lz_h hp
  rw [lz_n3.1, lz_n3.2, lz_cells]
