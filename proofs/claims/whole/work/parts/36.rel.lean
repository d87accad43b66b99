/-! how the class's run holds the run of the bay -/
theorem bt_test (x c : Nat) : bt (x : Int) (c : Int) = if x.testBit c = true then 1 else 0 := by
  unfold bt
  rw [show ((c : Int)).toNat = c by omega, Nat.testBit_eq_decide_div_mod_eq]
  have e : ((x : Int) / 2 ^ c) % 2 = ((x / 2 ^ c % 2 : Nat) : Int) := by
    rw [Int.natCast_emod, Int.natCast_ediv, Int.natCast_pow]
    rfl
  rw [e]
  by_cases h : x / 2 ^ c % 2 = 1
  · rw [h]; simp
  · rw [if_neg (by simpa using h)]
    omega
theorem setb_ok : (List.range 4096).all (fun x => (List.range 12).all (fun c => decide (setb (x : Int) (c : Int) = ((x ||| 2 ^ c : Nat) : Int)))) = true := by decide +kernel
theorem setb_or {x c : Nat} (hx : x < 4096) (hc : c < 12) : setb (x : Int) (c : Int) = ((x ||| 2 ^ c : Nat) : Int) := by
  have q := List.all_eq_true.mp (List.all_eq_true.mp setb_ok x (List.mem_range.mpr hx)) c (List.mem_range.mpr hc)
  simpa using q
theorem bt_setb {x : Int} {c c' : Nat} (hx : 0 ≤ x ∧ x < 4096) (hc : c < 12) : bt (setb x c) c' = if c = c' then 1 else bt x c' := by
  obtain ⟨n, rfl⟩ := Int.eq_ofNat_of_zero_le hx.1
  rw [setb_or (by omega) hc, bt_test, Nat.testBit_or, bt_test, Nat.testBit_two_pow]
  by_cases h : c = c'
  · simp [h]
  · simp [h]
theorem abest_app (x y : Int × Int × Int) (r : List (Int × Int × Int)) : abest x (r ++ [y]) = if (abest x r).1 < y.1 then y else abest x r := by
  unfold abest
  rw [List.foldl_append]
  rfl
def RP (P : VS) (v : VS) : Prop :=
  (v 33 0 = P 0 0) ∧
  (v 67 6 + 1 = P 0 1) ∧
  (0 ≤ P 0 1 ∧ P 0 1 ≤ P 0 2) ∧
  (v 33 1 = P 0 2) ∧
  (v 37 0 = P 0 3) ∧
  (∀ e : Nat, (e : Int) < P 0 3 → v 38 e = P 1 e ∧ P 1 e < P 0 0) ∧
  (∀ e : Nat, (e : Int) < P 0 3 → v 39 e = P 2 e) ∧
  (∀ e t : Nat, (e : Int) < P 0 3 → t < 300 → xlag v e (xwind v t) = P (100 + e) t) ∧
  (∀ e t : Nat, (e : Int) < P 0 3 → (t : Int) < P 0 2 → (P (200 + e) t = 1 ↔ v 67 4 ≠ 0 ∧ bt (v 64 t) e = 1)) ∧
  (∀ c t : Nat, (c : Int) < P 0 0 → (t : Int) < P 0 2 → (P (300 + c) t = 1 ↔ v 67 4 ≠ 1 ∧ bt (v 65 t) c = 1)) ∧
  (∀ c t : Nat, (c : Int) < P 0 0 → (t : Int) < P 0 2 → P (400 + c) t = if v 67 4 = 2 then 0 else bt (v 66 t) c) ∧
  (∀ c : Nat, (c : Int) < P 0 0 → (if v 67 4 = 6 then 0 else v 35 c) = P 3 c) ∧
  (∀ c : Nat, (c : Int) < P 0 0 → v 36 c = P 4 c) ∧
  (P 0 4 = 0 ↔ v 67 4 ≠ 4) ∧
  (∀ c : Nat, (c : Int) < P 0 0 → (P 5 c = 1 ↔ v 34 c = 1 ∧ v 67 4 ≠ 5)) ∧
  (∀ c : Nat, (c : Int) < P 0 0 → P 6 c = bt (v 67 0) c) ∧
  (∀ e : Nat, (e : Int) < P 0 3 → P 7 e = bt (v 67 1) e) ∧
  (v 67 5 = P 0 5) ∧
  (v 67 7 = P 0 6) ∧
  (v 67 8 = P 0 7) ∧
  (v 67 9 = P 0 8) ∧
  (v 68 0 = P 0 9) ∧
  (∀ k : Nat, (k : Int) < P 0 9 → v 70 k = P 8 k ∧ v 69 k = P 9 k ∧ v 71 k = P 10 k)
theorem RP.C {P : VS} {v : VS} (h : RP P v) : v 33 0 = P 0 0 := h.1
theorem RP.T {P : VS} {v : VS} (h : RP P v) : v 67 6 + 1 = P 0 1 := h.2.1
theorem RP.TS {P : VS} {v : VS} (h : RP P v) : 0 ≤ P 0 1 ∧ P 0 1 ≤ P 0 2 := h.2.2.1
theorem RP.S {P : VS} {v : VS} (h : RP P v) : v 33 1 = P 0 2 := h.2.2.2.1
theorem RP.E {P : VS} {v : VS} (h : RP P v) : v 37 0 = P 0 3 := h.2.2.2.2.1
theorem RP.hr {P : VS} {v : VS} (h : RP P v) : ∀ e : Nat, (e : Int) < P 0 3 → v 38 e = P 1 e ∧ P 1 e < P 0 0 := h.2.2.2.2.2.1
theorem RP.hd {P : VS} {v : VS} (h : RP P v) : ∀ e : Nat, (e : Int) < P 0 3 → v 39 e = P 2 e := h.2.2.2.2.2.2.1
theorem RP.tk {P : VS} {v : VS} (h : RP P v) : ∀ e t : Nat, (e : Int) < P 0 3 → t < 300 → xlag v e (xwind v t) = P (100 + e) t := h.2.2.2.2.2.2.2.1
theorem RP.fog {P : VS} {v : VS} (h : RP P v) : ∀ e t : Nat, (e : Int) < P 0 3 → (t : Int) < P 0 2 → (P (200 + e) t = 1 ↔ v 67 4 ≠ 0 ∧ bt (v 64 t) e = 1) := h.2.2.2.2.2.2.2.2.1
theorem RP.deaf {P : VS} {v : VS} (h : RP P v) : ∀ c t : Nat, (c : Int) < P 0 0 → (t : Int) < P 0 2 → (P (300 + c) t = 1 ↔ v 67 4 ≠ 1 ∧ bt (v 65 t) c = 1) := h.2.2.2.2.2.2.2.2.2.1
theorem RP.fnr {P : VS} {v : VS} (h : RP P v) : ∀ c t : Nat, (c : Int) < P 0 0 → (t : Int) < P 0 2 → P (400 + c) t = if v 67 4 = 2 then 0 else bt (v 66 t) c := h.2.2.2.2.2.2.2.2.2.2.1
theorem RP.late {P : VS} {v : VS} (h : RP P v) : ∀ c : Nat, (c : Int) < P 0 0 → (if v 67 4 = 6 then 0 else v 35 c) = P 3 c := h.2.2.2.2.2.2.2.2.2.2.2.1
theorem RP.rest {P : VS} {v : VS} (h : RP P v) : ∀ c : Nat, (c : Int) < P 0 0 → v 36 c = P 4 c := h.2.2.2.2.2.2.2.2.2.2.2.2.1
theorem RP.norest {P : VS} {v : VS} (h : RP P v) : P 0 4 = 0 ↔ v 67 4 ≠ 4 := h.2.2.2.2.2.2.2.2.2.2.2.2.2.1
theorem RP.proud {P : VS} {v : VS} (h : RP P v) : ∀ c : Nat, (c : Int) < P 0 0 → (P 5 c = 1 ↔ v 34 c = 1 ∧ v 67 4 ≠ 5) := h.2.2.2.2.2.2.2.2.2.2.2.2.2.2.1
theorem RP.mu {P : VS} {v : VS} (h : RP P v) : ∀ c : Nat, (c : Int) < P 0 0 → P 6 c = bt (v 67 0) c := h.2.2.2.2.2.2.2.2.2.2.2.2.2.2.2.1
theorem RP.cu {P : VS} {v : VS} (h : RP P v) : ∀ e : Nat, (e : Int) < P 0 3 → P 7 e = bt (v 67 1) e := h.2.2.2.2.2.2.2.2.2.2.2.2.2.2.2.2.1
theorem RP.dumb {P : VS} {v : VS} (h : RP P v) : v 67 5 = P 0 5 := h.2.2.2.2.2.2.2.2.2.2.2.2.2.2.2.2.2.1
theorem RP.stC {P : VS} {v : VS} (h : RP P v) : v 67 7 = P 0 6 := h.2.2.2.2.2.2.2.2.2.2.2.2.2.2.2.2.2.2.1
theorem RP.stF {P : VS} {v : VS} (h : RP P v) : v 67 8 = P 0 7 := h.2.2.2.2.2.2.2.2.2.2.2.2.2.2.2.2.2.2.2.1
theorem RP.stM {P : VS} {v : VS} (h : RP P v) : v 67 9 = P 0 8 := h.2.2.2.2.2.2.2.2.2.2.2.2.2.2.2.2.2.2.2.2.1
theorem RP.nst {P : VS} {v : VS} (h : RP P v) : v 68 0 = P 0 9 := h.2.2.2.2.2.2.2.2.2.2.2.2.2.2.2.2.2.2.2.2.2.1
theorem RP.st {P : VS} {v : VS} (h : RP P v) : ∀ k : Nat, (k : Int) < P 0 9 → v 70 k = P 8 k ∧ v 69 k = P 9 k ∧ v 71 k = P 10 k := h.2.2.2.2.2.2.2.2.2.2.2.2.2.2.2.2.2.2.2.2.2.2
theorem RP.of {P : VS} {v v' : VS} (h : RP P v) (e : ∀ k, k < 73 → v' k = v k) : RP P v' := by
  have e33 := e 33 (by omega)
  have e34 := e 34 (by omega)
  have e35 := e 35 (by omega)
  have e36 := e 36 (by omega)
  have e37 := e 37 (by omega)
  have e38 := e 38 (by omega)
  have e39 := e 39 (by omega)
  have e40 := e 40 (by omega)
  have e41 := e 41 (by omega)
  have e63 := e 63 (by omega)
  have e64 := e 64 (by omega)
  have e65 := e 65 (by omega)
  have e66 := e 66 (by omega)
  have e67 := e 67 (by omega)
  have e68 := e 68 (by omega)
  have e69 := e 69 (by omega)
  have e70 := e 70 (by omega)
  have e71 := e 71 (by omega)
  have e72 := e 72 (by omega)
  have el : ∀ a b, xlag v' a b = xlag v a b := fun a b => by unfold xlag; rw [e40, e41]
  have ew : ∀ a, xwind v' a = xwind v a := fun a => by unfold xwind; rw [e72, e67, e63]
  unfold RP at *
  simp only [e33, e34, e35, e36, e37, e38, e39, e64, e65, e66, e67, e68, e69, e70, e71, el, ew]
  exact h
def RA (R : Nat) (a : SS) (v : VS) : Prop :=
  (v R 4 = a.1 0 0) ∧
  (v R 17 = a.1 0 1) ∧
  (v R 18 = a.1 0 2) ∧
  (∀ k i : Nat, 1 ≤ k → k ≤ 5 → (i : Int) < a.1 0 0 → v (R + k) i = a.1 k i) ∧
  (∀ j, j < 8 → v (R + 6) j = a.1 6 j) ∧
  (∀ k e, 7 ≤ k → k ≤ 9 → e < 12 → v (R + k) e = a.1 k e) ∧
  (∀ c : Nat, c < 9 → bt (v R 16) c = a.1 12 c) ∧
  (∀ k c, 10 ≤ k → k ≤ 11 → c < 9 → a.1 12 c = 1 → v (R + k) c = a.1 k c)
theorem RA.n {R : Nat} {a : SS} {v : VS} (h : RA R a v) : v R 4 = a.1 0 0 := h.1
theorem RA.ov {R : Nat} {a : SS} {v : VS} (h : RA R a v) : v R 17 = a.1 0 1 := h.2.1
theorem RA.uw {R : Nat} {a : SS} {v : VS} (h : RA R a v) : v R 18 = a.1 0 2 := h.2.2.1
theorem RA.st {R : Nat} {a : SS} {v : VS} (h : RA R a v) : ∀ k i : Nat, 1 ≤ k → k ≤ 5 → (i : Int) < a.1 0 0 → v (R + k) i = a.1 k i := h.2.2.2.1
theorem RA.lo {R : Nat} {a : SS} {v : VS} (h : RA R a v) : ∀ j, j < 8 → v (R + 6) j = a.1 6 j := h.2.2.2.2.1
theorem RA.pe {R : Nat} {a : SS} {v : VS} (h : RA R a v) : ∀ k e, 7 ≤ k → k ≤ 9 → e < 12 → v (R + k) e = a.1 k e := h.2.2.2.2.2.1
theorem RA.sk {R : Nat} {a : SS} {v : VS} (h : RA R a v) : ∀ c : Nat, c < 9 → bt (v R 16) c = a.1 12 c := h.2.2.2.2.2.2.1
theorem RA.la {R : Nat} {a : SS} {v : VS} (h : RA R a v) : ∀ k c, 10 ≤ k → k ≤ 11 → c < 9 → a.1 12 c = 1 → v (R + k) c = a.1 k c := h.2.2.2.2.2.2.2
def RD (a : SS) (v : VS) : Prop :=
  (∀ t c : Nat, t < 300 → c < 9 → a.2 t c = [] → bt (v 74 t) c = 0) ∧
  (∀ t c : Nat, t < 300 → c < 9 → ∀ x r, a.2 t c = x :: r → bt (v 74 t) c = 1 ∧ v 75 (t * 9 + c) = (abest x r).1 ∧ v 76 (t * 9 + c) = (abest x r).2.1 ∧ v 77 (t * 9 + c) = (abest x r).2.2 ∧ v 78 (t * 9 + c) = r.length) ∧
  (∀ t c : Nat, a.2 t c ≠ [] → t < 300 ∧ c < 9 ∧ v 73 5 ≤ t ∧ (t : Int) ≤ v 73 6) ∧
  (∀ t : Nat, t < 300 → ((t : Int) < v 73 5 ∨ v 73 6 < t) → v 74 t = 0)
theorem RD.d0 {a : SS} {v : VS} (h : RD a v) : ∀ t c : Nat, t < 300 → c < 9 → a.2 t c = [] → bt (v 74 t) c = 0 := h.1
theorem RD.d1 {a : SS} {v : VS} (h : RD a v) : ∀ t c : Nat, t < 300 → c < 9 → ∀ x r, a.2 t c = x :: r → bt (v 74 t) c = 1 ∧ v 75 (t * 9 + c) = (abest x r).1 ∧ v 76 (t * 9 + c) = (abest x r).2.1 ∧ v 77 (t * 9 + c) = (abest x r).2.2 ∧ v 78 (t * 9 + c) = r.length := h.2.1
theorem RD.dr {a : SS} {v : VS} (h : RD a v) : ∀ t c : Nat, a.2 t c ≠ [] → t < 300 ∧ c < 9 ∧ v 73 5 ≤ t ∧ (t : Int) ≤ v 73 6 := h.2.2.1
theorem RD.wz {a : SS} {v : VS} (h : RD a v) : ∀ t : Nat, t < 300 → ((t : Int) < v 73 5 ∨ v 73 6 < t) → v 74 t = 0 := h.2.2.2
theorem RD.of {a a' : SS} {v v' : VS} (h : RD a v) (e : ∀ k, 73 ≤ k → k ≤ 78 → v' k = v k) (ea : a'.2 = a.2) : RD a' v' := by
  have e73 := e 73 (by omega) (by omega)
  have e74 := e 74 (by omega) (by omega)
  have e75 := e 75 (by omega) (by omega)
  have e76 := e 76 (by omega) (by omega)
  have e77 := e 77 (by omega) (by omega)
  have e78 := e 78 (by omega) (by omega)
  unfold RD at *
  simp only [e73, e74, e75, e76, e77, e78, ea]
  exact h
theorem RA.of {R : Nat} {a a' : SS} {v v' : VS} (h : RA R a v) (e : ∀ k, R ≤ k → k ≤ R + 11 → v' k = v k) (ea : a'.1 = a.1) : RA R a' v' := by
  obtain ⟨h1, h2, h3, h4, h5, h6, h7, h8⟩ := h
  unfold RA
  rw [ea, e R (by omega) (by omega), e (R + 6) (by omega) (by omega)]
  refine ⟨h1, h2, h3, fun k i k1 k2 hi => ?_, h5, fun k i k1 k2 hi => ?_, h7, fun k i k1 k2 hi hs => ?_⟩
  · rw [e (R + k) (by omega) (by omega)]; exact h4 k i k1 k2 hi
  · rw [e (R + k) (by omega) (by omega)]; exact h6 k i k1 k2 hi
  · rw [e (R + k) (by omega) (by omega)]; exact h8 k i k1 k2 hi hs
/-- a count in rows 6 to 9 -/
theorem RA.cnt {R : Nat} {a : SS} {v : VS} (h : RA R a v) {k j : Nat} {x y : Int} (hk : 6 ≤ k ∧ k ≤ 9) (hxy : x = y) : RA R (v2 a.1 k j y, a.2) (v2 v (R + k) j x) := by
  subst hxy
  obtain ⟨h1, h2, h3, h4, h5, h6, h7, h8⟩ := h
  unfold RA
  simp only [v2_eq]
  refine ⟨?_, ?_, ?_, fun k' i k1 k2 hi => ?_, fun j' hj => ?_, fun k' e k1 k2 hi => ?_, fun c hc => ?_, fun k' c k1 k2 hc hs => ?_⟩
  · rw [if_neg (by omega), if_neg (by omega)]; exact h1
  · rw [if_neg (by omega), if_neg (by omega)]; exact h2
  · rw [if_neg (by omega), if_neg (by omega)]; exact h3
  · rw [if_neg (by omega)] at hi
    rw [if_neg (by omega), if_neg (by omega)]; exact h4 k' i k1 k2 hi
  · by_cases q : 6 = k ∧ j' = j
    · rw [if_pos q, if_pos (by omega)]
    · rw [if_neg q, if_neg (by omega)]; exact h5 j' hj
  · by_cases q : k' = k ∧ e = j
    · rw [if_pos q, if_pos (by omega)]
    · rw [if_neg q, if_neg (by omega)]; exact h6 k' e k1 k2 hi
  · rw [if_neg (by omega), if_neg (by omega)]; exact h7 c hc
  · rw [if_neg (by omega)] at hs
    rw [if_neg (by omega), if_neg (by omega)]; exact h8 k' c k1 k2 hc hs
/-- one more due -/
theorem RD.put {a : SS} {v : VS} {t c : Nat} {h y e : Int} (hX : XI v) (hd : RD a v) (ht : t < 300) (hc : c < 9) : RD (aput a t c (h, y, e)) (xput v t c h y e) := by
  obtain ⟨h1, h2, h3, h4⟩ := hd
  have k9 : ((t : Int) * 9 + (c : Int)).toNat = t * 9 + c := by omega
  have kt : ((t : Int)).toNat = t := by omega
  have hb : ∀ t, 0 ≤ v 74 t ∧ v 74 t ≤ 511 := fun t => hX 74 t
  have hdue : ∀ t' c', (aput a t c (h, y, e)).2 t' c' = if t' = t ∧ c' = c then a.2 t c ++ [(h, y, e)] else a.2 t' c' := by
    intro t' c'
    unfold aput
    simp only [fset_at]
    by_cases e1 : t' = t
    · subst e1
      by_cases e2 : c' = c
      · subst e2; simp [fset_at]
      · simp [fset_at, e2]
    · simp [e1]
  have hne : ∀ t' c' : Nat, t' < 300 → c' < 9 → (t' ≠ t ∨ c' ≠ c) → t' * 9 + c' ≠ t * 9 + c := by omega
  have r5 : xput v t c h y e 73 5 = min (v 73 5) t := by
    unfold xput; split
    · simp [v2_eq]
    · split <;> simp [v2_eq]
  have r6 : xput v t c h y e 73 6 = max (v 73 6) t := by
    unfold xput; split
    · simp [v2_eq]
    · split <;> simp [v2_eq]
  have r74 : ∀ t' : Nat, xput v t c h y e 74 t' = if t' = t then setb (v 74 t) c else v 74 t' := by
    intro t'
    unfold xput; rw [k9, kt]; split
    · by_cases q : t' = t <;> simp [v2_eq, q]
    · rename_i hb0
      have hs : setb (v 74 t) c = v 74 t := by
        unfold setb
        rw [if_pos (by have := bt01 (v 74 t) c; omega)]
      by_cases q : t' = t
      · subst q; rw [if_pos rfl, hs]; split <;> simp [v2_eq]
      · split <;> simp [v2_eq, q]
  have rc : ∀ k j, 75 ≤ k → k ≤ 78 → j ≠ t * 9 + c → xput v t c h y e k j = v k j := by
    intro k j hk1 hk2 hj
    unfold xput; rw [k9, kt]
    split
    · simp only [v2_eq]
      rw [if_neg (by omega), if_neg (by omega), if_neg (by omega), if_neg (by omega), if_neg (by omega), if_neg (by omega), if_neg (by omega)]
    · split
      · simp only [v2_eq]
        rw [if_neg (by omega), if_neg (by omega), if_neg (by omega), if_neg (by omega), if_neg (by omega), if_neg (by omega)]
      · simp only [v2_eq]
        rw [if_neg (by omega), if_neg (by omega), if_neg (by omega)]
  have hbs : ∀ c' : Nat, bt (setb (v 74 t) c) c' = if c = c' then 1 else bt (v 74 t) c' := fun c' => bt_setb (by have := hb t; omega) (by omega)
  refine ⟨?_, ?_, ?_, ?_⟩
  · intro t' c' ht' hc' hd
    rw [hdue] at hd
    split at hd
    · simp at hd
    · rename_i hn
      have q := h1 t' c' ht' hc' hd
      rw [r74]
      split
      · rename_i e1
        subst e1
        rw [hbs, if_neg (by omega)]
        exact q
      · exact q
  · intro t' c' ht' hc' x r hd
    rw [hdue] at hd
    split at hd
    · rename_i hn
      obtain ⟨e1, e2⟩ := hn
      subst e1; subst e2
      have hbt : bt (xput v t' c' h y e 74 t') c' = 1 := by rw [r74, if_pos rfl, hbs, if_pos rfl]
      refine ⟨hbt, ?_⟩
      cases hl : a.2 t' c' with
      | nil =>
        rw [hl] at hd
        simp only [List.nil_append, List.cons.injEq] at hd
        obtain ⟨e1, e2⟩ := hd
        subst e1; subst e2
        have q := h1 t' c' ht' hc' hl
        unfold xput; rw [k9, kt, if_pos q]
        refine ⟨?_, ?_, ?_, ?_⟩ <;> simp [v2_eq, abest]
      | cons x0 r0 =>
        rw [hl] at hd
        simp only [List.cons_append, List.cons.injEq] at hd
        obtain ⟨e1, e2⟩ := hd
        subst e1; subst e2
        obtain ⟨q0, q1, q2, q3, q4⟩ := h2 t' c' ht' hc' _ _ hl
        unfold xput; rw [k9, kt, if_neg (by omega), abest_app, q1]
        by_cases hlt : (abest x0 r0).1 < h
        · rw [if_pos hlt, if_pos hlt]
          refine ⟨?_, ?_, ?_, ?_⟩ <;> simp [v2_eq, q4]
        · rw [if_neg hlt, if_neg hlt]
          refine ⟨?_, ?_, ?_, ?_⟩ <;> simp [v2_eq, q1, q2, q3, q4]
    · rename_i hn
      obtain ⟨q0, q1, q2, q3, q4⟩ := h2 t' c' ht' hc' x r hd
      have hj := hne t' c' ht' hc' (by omega)
      rw [rc 75 _ (by omega) (by omega) hj, rc 76 _ (by omega) (by omega) hj, rc 77 _ (by omega) (by omega) hj, rc 78 _ (by omega) (by omega) hj, r74]
      refine ⟨?_, q1, q2, q3, q4⟩
      split
      · rename_i e1
        subst e1
        rw [hbs, if_neg (by omega)]
        exact q0
      · exact q0
  · intro t' c' hd
    rw [hdue] at hd
    rw [r5, r6]
    split at hd
    · rename_i hn
      obtain ⟨e1, e2⟩ := hn
      subst e1; subst e2
      refine ⟨ht, hc, by omega, by omega⟩
    · obtain ⟨q1, q2, q3, q4⟩ := h3 t' c' hd
      refine ⟨q1, q2, by omega, by omega⟩
  · intro t' ht' hd
    rw [r5, r6] at hd
    rw [r74, if_neg (by omega)]
    exact h4 t' ht' (by omega)
