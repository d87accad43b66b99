/-! the reference's run beside the run of the bay -/
theorem isIn215_of {v v' : VS} (e : v' 215 = v 215) : ∀ (f : Nat) (n o t k : Int), mo_isIn215_3 f v' n o t k = mo_isIn215_3 f v n o t k := by
  intro f
  induction f with
  | zero => intro n o t k; rfl
  | succ f ih => intro n o t k; rw [mo_isIn215_3, mo_isIn215_3, e, ih]
theorem isIn216_of {v v' : VS} (e : v' 216 = v 216) : ∀ (f : Nat) (n o t k : Int), mo_isIn216_3 f v' n o t k = mo_isIn216_3 f v n o t k := by
  intro f
  induction f with
  | zero => intro n o t k; rfl
  | succ f ih => intro n o t k; rw [mo_isIn216_3, mo_isIn216_3, e, ih]
theorem isIn217_of {v v' : VS} (e : v' 217 = v 217) : ∀ (f : Nat) (n o t k : Int), mo_isIn217_3 f v' n o t k = mo_isIn217_3 f v n o t k := by
  intro f
  induction f with
  | zero => intro n o t k; rfl
  | succ f ih => intro n o t k; rw [mo_isIn217_3, mo_isIn217_3, e, ih]
theorem takesOf_of {v v' : VS} (e : v' 212 = v 212) (e2 : v' 219 = v 219) (a b : Int) : mo_takesOf v' a b = mo_takesOf v a b := by
  unfold mo_takesOf
  rw [e, e2]
def MP (P : VS) (v : VS) : Prop :=
  (v 210 0 = P 0 0) ∧
  (v 210 1 = P 0 2) ∧
  (P 0 1 = P 0 2) ∧
  (v 210 3 = P 0 3) ∧
  (∀ e : Nat, (e : Int) < P 0 3 → v 212 (4 * e) = P 1 e ∧ 0 ≤ P 1 e ∧ P 1 e < P 0 0) ∧
  (∀ e : Nat, (e : Int) < P 0 3 → v 212 (4 * e + 1) = P 2 e) ∧
  (∀ e t : Nat, (e : Int) < P 0 3 → (t : Int) < P 0 2 → mo_takesOf v e t = P (100 + e) t) ∧
  (∀ e t : Nat, (e : Int) < P 0 3 → (t : Int) < P 0 2 → (P (200 + e) t = 1 ↔ v 203 34 ≠ 0 ∧ mo_isIn215 v (v 210 6) e t ≠ 0)) ∧
  (∀ c t : Nat, (c : Int) < P 0 0 → (t : Int) < P 0 2 → (P (300 + c) t = 1 ↔ v 203 34 ≠ 1 ∧ mo_isIn216 v (v 210 7) c t ≠ 0)) ∧
  (∀ c t : Nat, (c : Int) < P 0 0 → (t : Int) < P 0 2 → P (400 + c) t = if v 203 34 = 2 ∨ mo_isIn217 v (v 210 8) c t = 0 then 0 else 1) ∧
  (∀ c : Nat, (c : Int) < P 0 0 → (if v 203 34 = 6 then 0 else v 211 (3 * c + 1)) = P 3 c) ∧
  (∀ c : Nat, (c : Int) < P 0 0 → v 211 (3 * c + 2) = P 4 c) ∧
  (P 0 4 = 0 ↔ v 203 34 ≠ 4) ∧
  (∀ c : Nat, (c : Int) < P 0 0 → (P 5 c = 1 ↔ v 211 (3 * c) = 1 ∧ v 203 34 ≠ 5)) ∧
  (∀ c : Nat, (c : Int) < P 0 0 → P 6 c = bt (v 203 30) c) ∧
  (∀ e : Nat, (e : Int) < P 0 3 → P 7 e = bt (v 203 31) e) ∧
  (v 203 35 = P 0 5) ∧
  (P 0 6 = -1) ∧
  (P 0 7 = 300) ∧
  (P 0 8 = 300) ∧
  (v 203 33 = v 203 32 + P 0 9) ∧
  (0 ≤ v 203 32) ∧
  (∀ k : Nat, (k : Int) < P 0 9 → v 213 (3 * ((v 203 32).toNat + k) + 1) = P 8 k ∧ v 213 (3 * ((v 203 32).toNat + k)) = P 9 k ∧ v 213 (3 * ((v 203 32).toNat + k) + 2) = P 10 k)
theorem MP.C {P : VS} {v : VS} (h : MP P v) : v 210 0 = P 0 0 := h.1
theorem MP.S {P : VS} {v : VS} (h : MP P v) : v 210 1 = P 0 2 := h.2.1
theorem MP.T {P : VS} {v : VS} (h : MP P v) : P 0 1 = P 0 2 := h.2.2.1
theorem MP.E {P : VS} {v : VS} (h : MP P v) : v 210 3 = P 0 3 := h.2.2.2.1
theorem MP.hr {P : VS} {v : VS} (h : MP P v) : ∀ e : Nat, (e : Int) < P 0 3 → v 212 (4 * e) = P 1 e ∧ 0 ≤ P 1 e ∧ P 1 e < P 0 0 := h.2.2.2.2.1
theorem MP.hd {P : VS} {v : VS} (h : MP P v) : ∀ e : Nat, (e : Int) < P 0 3 → v 212 (4 * e + 1) = P 2 e := h.2.2.2.2.2.1
theorem MP.tk {P : VS} {v : VS} (h : MP P v) : ∀ e t : Nat, (e : Int) < P 0 3 → (t : Int) < P 0 2 → mo_takesOf v e t = P (100 + e) t := h.2.2.2.2.2.2.1
theorem MP.fog {P : VS} {v : VS} (h : MP P v) : ∀ e t : Nat, (e : Int) < P 0 3 → (t : Int) < P 0 2 → (P (200 + e) t = 1 ↔ v 203 34 ≠ 0 ∧ mo_isIn215 v (v 210 6) e t ≠ 0) := h.2.2.2.2.2.2.2.1
theorem MP.deaf {P : VS} {v : VS} (h : MP P v) : ∀ c t : Nat, (c : Int) < P 0 0 → (t : Int) < P 0 2 → (P (300 + c) t = 1 ↔ v 203 34 ≠ 1 ∧ mo_isIn216 v (v 210 7) c t ≠ 0) := h.2.2.2.2.2.2.2.2.1
theorem MP.fnr {P : VS} {v : VS} (h : MP P v) : ∀ c t : Nat, (c : Int) < P 0 0 → (t : Int) < P 0 2 → P (400 + c) t = if v 203 34 = 2 ∨ mo_isIn217 v (v 210 8) c t = 0 then 0 else 1 := h.2.2.2.2.2.2.2.2.2.1
theorem MP.late {P : VS} {v : VS} (h : MP P v) : ∀ c : Nat, (c : Int) < P 0 0 → (if v 203 34 = 6 then 0 else v 211 (3 * c + 1)) = P 3 c := h.2.2.2.2.2.2.2.2.2.2.1
theorem MP.rest {P : VS} {v : VS} (h : MP P v) : ∀ c : Nat, (c : Int) < P 0 0 → v 211 (3 * c + 2) = P 4 c := h.2.2.2.2.2.2.2.2.2.2.2.1
theorem MP.norest {P : VS} {v : VS} (h : MP P v) : P 0 4 = 0 ↔ v 203 34 ≠ 4 := h.2.2.2.2.2.2.2.2.2.2.2.2.1
theorem MP.proud {P : VS} {v : VS} (h : MP P v) : ∀ c : Nat, (c : Int) < P 0 0 → (P 5 c = 1 ↔ v 211 (3 * c) = 1 ∧ v 203 34 ≠ 5) := h.2.2.2.2.2.2.2.2.2.2.2.2.2.1
theorem MP.mu {P : VS} {v : VS} (h : MP P v) : ∀ c : Nat, (c : Int) < P 0 0 → P 6 c = bt (v 203 30) c := h.2.2.2.2.2.2.2.2.2.2.2.2.2.2.1
theorem MP.cu {P : VS} {v : VS} (h : MP P v) : ∀ e : Nat, (e : Int) < P 0 3 → P 7 e = bt (v 203 31) e := h.2.2.2.2.2.2.2.2.2.2.2.2.2.2.2.1
theorem MP.dumb {P : VS} {v : VS} (h : MP P v) : v 203 35 = P 0 5 := h.2.2.2.2.2.2.2.2.2.2.2.2.2.2.2.2.1
theorem MP.stC {P : VS} {v : VS} (h : MP P v) : P 0 6 = -1 := h.2.2.2.2.2.2.2.2.2.2.2.2.2.2.2.2.2.1
theorem MP.stF {P : VS} {v : VS} (h : MP P v) : P 0 7 = 300 := h.2.2.2.2.2.2.2.2.2.2.2.2.2.2.2.2.2.2.1
theorem MP.stM {P : VS} {v : VS} (h : MP P v) : P 0 8 = 300 := h.2.2.2.2.2.2.2.2.2.2.2.2.2.2.2.2.2.2.2.1
theorem MP.nst {P : VS} {v : VS} (h : MP P v) : v 203 33 = v 203 32 + P 0 9 := h.2.2.2.2.2.2.2.2.2.2.2.2.2.2.2.2.2.2.2.2.1
theorem MP.s0 {P : VS} {v : VS} (h : MP P v) : 0 ≤ v 203 32 := h.2.2.2.2.2.2.2.2.2.2.2.2.2.2.2.2.2.2.2.2.2.1
theorem MP.st {P : VS} {v : VS} (h : MP P v) : ∀ k : Nat, (k : Int) < P 0 9 → v 213 (3 * ((v 203 32).toNat + k) + 1) = P 8 k ∧ v 213 (3 * ((v 203 32).toNat + k)) = P 9 k ∧ v 213 (3 * ((v 203 32).toNat + k) + 2) = P 10 k := h.2.2.2.2.2.2.2.2.2.2.2.2.2.2.2.2.2.2.2.2.2.2
theorem MP.of {P : VS} {v v' : VS} (h : MP P v) (e : ∀ k, 209 ≤ k → k ≤ 219 → v' k = v k) (e2 : ∀ j, 30 ≤ j → j ≤ 35 → v' 203 j = v 203 j) : MP P v' := by
  have e215 : ∀ n o t : Int, mo_isIn215 v' n o t = mo_isIn215 v n o t := fun n o t => isIn215_of (e 215 (by omega) (by omega)) _ _ _ _ _
  have e216 : ∀ n o t : Int, mo_isIn216 v' n o t = mo_isIn216 v n o t := fun n o t => isIn216_of (e 216 (by omega) (by omega)) _ _ _ _ _
  have e217 : ∀ n o t : Int, mo_isIn217 v' n o t = mo_isIn217 v n o t := fun n o t => isIn217_of (e 217 (by omega) (by omega)) _ _ _ _ _
  have et : ∀ a b : Int, mo_takesOf v' a b = mo_takesOf v a b := fun a b => takesOf_of (e 212 (by omega) (by omega)) (e 219 (by omega) (by omega)) a b
  have e210 := e 210 (by omega) (by omega)
  have e211 := e 211 (by omega) (by omega)
  have e212 := e 212 (by omega) (by omega)
  have e213 := e 213 (by omega) (by omega)
  have f30 := e2 30 (by omega) (by omega)
  have f31 := e2 31 (by omega) (by omega)
  have f32 := e2 32 (by omega) (by omega)
  have f33 := e2 33 (by omega) (by omega)
  have f34 := e2 34 (by omega) (by omega)
  have f35 := e2 35 (by omega) (by omega)
  unfold MP at *
  simp only [e215, e216, e217, et, e210, e211, e212, e213, f30, f31, f32, f33, f34, f35]
  exact h
def RM (a : SS) (v : VS) : Prop :=
  (v 203 37 = a.1 0 0) ∧
  (∀ k i : Nat, k < 5 → (i : Int) < a.1 0 0 → v 220 (5 * i + k) = a.1 (1 + k) i) ∧
  (∀ j : Nat, j < 8 → v 221 j = a.1 6 j) ∧
  (∀ e : Nat, e < 12 → v 222 e = a.1 9 e ∧ v 223 e = a.1 7 e ∧ v 224 e = a.1 8 e) ∧
  (∀ c : Nat, c < 9 → v 228 c = a.1 10 c ∧ v 229 c = a.1 11 c ∧ v 230 c = a.1 13 c ∧ v 231 c = a.1 14 c)
theorem RM.n {a : SS} {v : VS} (h : RM a v) : v 203 37 = a.1 0 0 := h.1
theorem RM.st {a : SS} {v : VS} (h : RM a v) : ∀ k i : Nat, k < 5 → (i : Int) < a.1 0 0 → v 220 (5 * i + k) = a.1 (1 + k) i := h.2.1
theorem RM.lo {a : SS} {v : VS} (h : RM a v) : ∀ j : Nat, j < 8 → v 221 j = a.1 6 j := h.2.2.1
theorem RM.pe {a : SS} {v : VS} (h : RM a v) : ∀ e : Nat, e < 12 → v 222 e = a.1 9 e ∧ v 223 e = a.1 7 e ∧ v 224 e = a.1 8 e := h.2.2.2.1
theorem RM.la {a : SS} {v : VS} (h : RM a v) : ∀ c : Nat, c < 9 → v 228 c = a.1 10 c ∧ v 229 c = a.1 11 c ∧ v 230 c = a.1 13 c ∧ v 231 c = a.1 14 c := h.2.2.2.2
theorem RM.of {a a' : SS} {v v' : VS} (h : RM a v) (e : ∀ k, 220 ≤ k → k ≤ 231 → k < 225 ∨ 227 < k → v' k = v k) (e2 : v' 203 37 = v 203 37) (ea : a'.1 = a.1) : RM a' v' := by
  unfold RM at *
  rw [e2, ea, e 220 (by omega) (by omega) (by omega), e 221 (by omega) (by omega) (by omega), e 222 (by omega) (by omega) (by omega), e 223 (by omega) (by omega) (by omega), e 224 (by omega) (by omega) (by omega), e 228 (by omega) (by omega) (by omega), e 229 (by omega) (by omega) (by omega), e 230 (by omega) (by omega) (by omega), e 231 (by omega) (by omega) (by omega)]
  exact h
def RB (B : Int) (P : VS) (a : SS) (v : VS) : Prop := MP P v ∧ RM a v ∧ ∃ (L : Nat → List Nat) (m : Nat), (m : Int) ≤ B ∧ DM a L m v
theorem RB.mono {B B' : Int} {P : VS} {a : SS} {v : VS} (h : RB B P a v) (hB : B ≤ B') : RB B' P a v := by
  obtain ⟨h1, h2, L, m, h3, h4⟩ := h
  exact ⟨h1, h2, L, m, by omega, h4⟩
theorem RB.l6 {B : Int} {P : VS} {a : SS} {v : VS} (h : RB B P a v) {j : Nat} {x y : Int} (hj : j < 8) (hxy : x = y) : RB B P (v2 a.1 6 j y, a.2) (v2 v 221 j x) := by
  subst hxy
  obtain ⟨h1, ⟨g1, g2, g3, g4, g5⟩, L, m, h3, h4⟩ := h
  refine ⟨h1.of (fun k a b => v2_row (by omega)) (fun k a b => by rw [v2_row (by omega)]), ?_, L, m, h3, h4.of (v2_row (by omega)) (v2_row (by omega)) (v2_row (by omega)) (by rw [v2_row (by omega)]) rfl⟩
  unfold RM
  simp only [v2_eq]
  refine ⟨?_, fun k i hk hi => ?_, fun j' hj' => ?_, fun e he => ?_, fun c hc => ?_⟩
  · rw [if_neg (by omega), if_neg (by omega)]; exact g1
  · rw [if_neg (by omega)] at hi
    rw [if_neg (by omega), if_neg (by omega)]; exact g2 k i hk hi
  · by_cases q : j' = j
    · rw [if_pos ⟨trivial, q⟩, if_pos ⟨trivial, q⟩]
    · rw [if_neg (fun g => q g.2), if_neg (fun g => q g.2)]; exact g3 j' hj'
  · rw [if_neg (by omega), if_neg (by omega), if_neg (by omega), if_neg (by omega), if_neg (by omega), if_neg (by omega)]; exact g4 e he
  · rw [if_neg (by omega), if_neg (by omega), if_neg (by omega), if_neg (by omega), if_neg (by omega), if_neg (by omega), if_neg (by omega), if_neg (by omega)]; exact g5 c hc
theorem RB.i6 {B : Int} {P : VS} {a : SS} {v : VS} (h : RB B P a v) {j : Nat} (hj : j < 8) : RB B P (ainc a 6 j) (v2 v 221 j (v 221 j + 1)) := h.l6 hj (by rw [h.2.1.lo j hj])
theorem RB.i9 {B : Int} {P : VS} {a : SS} {v : VS} (h : RB B P a v) {j : Nat} (hj : j < 12) : RB B P (ainc a 9 j) (v2 v 222 j (v 222 j + 1)) := by
  obtain ⟨h1, ⟨g1, g2, g3, g4, g5⟩, L, m, h3, h4⟩ := h
  refine ⟨h1.of (fun k a b => v2_row (by omega)) (fun k a b => by rw [v2_row (by omega)]), ?_, L, m, h3, h4.of (v2_row (by omega)) (v2_row (by omega)) (v2_row (by omega)) (by rw [v2_row (by omega)]) rfl⟩
  unfold RM ainc
  simp only [v2_eq]
  refine ⟨?_, fun k i hk hi => ?_, fun j' hj' => ?_, fun e he => ?_, fun c hc => ?_⟩
  · rw [if_neg (by omega), if_neg (by omega)]; exact g1
  · rw [if_neg (by omega)] at hi
    rw [if_neg (by omega), if_neg (by omega)]; exact g2 k i hk hi
  · rw [if_neg (by omega), if_neg (by omega)]; exact g3 j' hj'
  · obtain ⟨q1, q2, q3⟩ := g4 e he
    rw [if_neg (show ¬ (223 = 222 ∧ e = j) by omega), if_neg (show ¬ (224 = 222 ∧ e = j) by omega), if_neg (show ¬ (7 = 9 ∧ e = j) by omega), if_neg (show ¬ (8 = 9 ∧ e = j) by omega)]
    refine ⟨?_, q2, q3⟩
    by_cases q : e = j
    · subst q
      rw [if_pos ⟨trivial, rfl⟩, if_pos ⟨trivial, rfl⟩, q1]
    · rw [if_neg (fun g => q g.2), if_neg (fun g => q g.2)]; exact q1
  · rw [if_neg (by omega), if_neg (by omega), if_neg (by omega), if_neg (by omega), if_neg (by omega), if_neg (by omega), if_neg (by omega), if_neg (by omega)]; exact g5 c hc
theorem RB.i7 {B : Int} {P : VS} {a : SS} {v : VS} (h : RB B P a v) {j : Nat} (hj : j < 12) : RB B P (ainc a 7 j) (v2 v 223 j (v 223 j + 1)) := by
  obtain ⟨h1, ⟨g1, g2, g3, g4, g5⟩, L, m, h3, h4⟩ := h
  refine ⟨h1.of (fun k a b => v2_row (by omega)) (fun k a b => by rw [v2_row (by omega)]), ?_, L, m, h3, h4.of (v2_row (by omega)) (v2_row (by omega)) (v2_row (by omega)) (by rw [v2_row (by omega)]) rfl⟩
  unfold RM ainc
  simp only [v2_eq]
  refine ⟨?_, fun k i hk hi => ?_, fun j' hj' => ?_, fun e he => ?_, fun c hc => ?_⟩
  · rw [if_neg (by omega), if_neg (by omega)]; exact g1
  · rw [if_neg (by omega)] at hi
    rw [if_neg (by omega), if_neg (by omega)]; exact g2 k i hk hi
  · rw [if_neg (by omega), if_neg (by omega)]; exact g3 j' hj'
  · obtain ⟨q1, q2, q3⟩ := g4 e he
    rw [if_neg (show ¬ (222 = 223 ∧ e = j) by omega), if_neg (show ¬ (224 = 223 ∧ e = j) by omega), if_neg (show ¬ (9 = 7 ∧ e = j) by omega), if_neg (show ¬ (8 = 7 ∧ e = j) by omega)]
    refine ⟨q1, ?_, q3⟩
    by_cases q : e = j
    · subst q
      rw [if_pos ⟨trivial, rfl⟩, if_pos ⟨trivial, rfl⟩, q2]
    · rw [if_neg (fun g => q g.2), if_neg (fun g => q g.2)]; exact q2
  · rw [if_neg (by omega), if_neg (by omega), if_neg (by omega), if_neg (by omega), if_neg (by omega), if_neg (by omega), if_neg (by omega), if_neg (by omega)]; exact g5 c hc
theorem RB.i8 {B : Int} {P : VS} {a : SS} {v : VS} (h : RB B P a v) {j : Nat} (hj : j < 12) : RB B P (ainc a 8 j) (v2 v 224 j (v 224 j + 1)) := by
  obtain ⟨h1, ⟨g1, g2, g3, g4, g5⟩, L, m, h3, h4⟩ := h
  refine ⟨h1.of (fun k a b => v2_row (by omega)) (fun k a b => by rw [v2_row (by omega)]), ?_, L, m, h3, h4.of (v2_row (by omega)) (v2_row (by omega)) (v2_row (by omega)) (by rw [v2_row (by omega)]) rfl⟩
  unfold RM ainc
  simp only [v2_eq]
  refine ⟨?_, fun k i hk hi => ?_, fun j' hj' => ?_, fun e he => ?_, fun c hc => ?_⟩
  · rw [if_neg (by omega), if_neg (by omega)]; exact g1
  · rw [if_neg (by omega)] at hi
    rw [if_neg (by omega), if_neg (by omega)]; exact g2 k i hk hi
  · rw [if_neg (by omega), if_neg (by omega)]; exact g3 j' hj'
  · obtain ⟨q1, q2, q3⟩ := g4 e he
    rw [if_neg (show ¬ (222 = 224 ∧ e = j) by omega), if_neg (show ¬ (223 = 224 ∧ e = j) by omega), if_neg (show ¬ (9 = 8 ∧ e = j) by omega), if_neg (show ¬ (7 = 8 ∧ e = j) by omega)]
    refine ⟨q1, q2, ?_⟩
    by_cases q : e = j
    · subst q
      rw [if_pos ⟨trivial, rfl⟩, if_pos ⟨trivial, rfl⟩, q3]
    · rw [if_neg (fun g => q g.2), if_neg (fun g => q g.2)]; exact q3
  · rw [if_neg (by omega), if_neg (by omega), if_neg (by omega), if_neg (by omega), if_neg (by omega), if_neg (by omega), if_neg (by omega), if_neg (by omega)]; exact g5 c hc
theorem puts_row {v : VS} {t c h y e : Int} {k : Nat} (h1 : k ≠ 203) (h2 : k < 225 ∨ 227 < k) : (mo_puts v t c h y e) k = v k := by
  unfold mo_puts
  split
  · rw [v2_row (by omega), v2_row (by omega), v2_row (by omega), v2_row (by omega), v2_row (by omega), v2_row (by omega), v2_row (by omega), v2_row (by omega)]
  · rw [v2_row (by omega), v2_row (by omega), v2_row (by omega), v2_row (by omega), v2_row (by omega), v2_row (by omega), v2_row (by omega), v2_row (by omega)]
theorem RB.put {B : Int} {P : VS} {a : SS} {v : VS} (hb : RB B P a v) {t c : Nat} {h y e : Int} (ht : t < 300) : RB (B + 1) P (aput a t c (h, y, e)) (mo_puts v t c h y e) := by
  obtain ⟨h1, h2, L, m, h3, h4⟩ := hb
  refine ⟨h1.of (fun k a b => puts_row (by omega) (by omega)) (fun j a b => f_puts (by omega)), h2.of (fun k a b g => puts_row (by omega) (by omega)) (f_puts (by omega)) rfl, _, m + 1, by omega, h4.put ht⟩
/-- the hour that is being struck stays where it is -/
def KB (b : Nat) (h : Int) (v : VS) : Prop := (b : Int) < v 203 43 ∧ v 225 (5 * b + 1) = h
theorem KB.of {b : Nat} {h : Int} {v v' : VS} (k : KB b h v) (e1 : v' 225 = v 225) (e2 : v' 203 43 = v 203 43) : KB b h v' := by
  unfold KB at *
  rw [e1, e2]
  exact k
theorem RB.tl {B : Int} {P : VS} {a : SS} {v : VS} (h : RB B P a v) {t : Nat} (ht : t < 300) : v 226 t = -1 ∨ 0 ≤ v 227 t := by
  obtain ⟨-, -, L, m, -, h4⟩ := h
  rcases h4.la t ht with ⟨-, g⟩ | ⟨-, l1, T, -, g⟩
  · exact Or.inl g
  · exact Or.inr (by omega)
theorem KB.put {b : Nat} {g : Int} {v : VS} (k : KB b g v) {t : Nat} {c h y e : Int} (hT : v 226 t = -1 ∨ 0 ≤ v 227 t) : KB b g (mo_puts v t c h y e) := by
  obtain ⟨k1, k2⟩ := k
  obtain ⟨p1, -, -, p4, -⟩ := puts_r (v := v) (t := t) (m := (v 203 43).toNat) (c := c) (h := h) (y := y) (e := e) (by omega) hT
  refine ⟨by rw [p1]; omega, ?_⟩
  rw [p4 b 1 (by omega) (by omega)]
  exact k2
def RK (B : Int) (P : VS) (b : Nat) (h : Int) (a : SS) (v : VS) : Prop := RB B P a v ∧ KB b h v
theorem RK.hear {B : Int} {P : VS} {a : SS} {v : VS} {b : Nat} {hh : Int} (hP : PW P) (h : RK B P b hh a v) {i e t l : Nat} (he : (e : Int) < P 0 3) (ht : (t : Int) < P 0 2) (hl : (l : Int) < P 0 0) : RK (B + 1) P b hh (ahear P a i e t l) (mo_goesBy_183 v e i t l (P 0 2) (a.1 3 i + P (400 + l) t)) := by
  obtain ⟨h1, h2⟩ := h
  have hE := hP.E
  have hT := hP.T
  have hla := hP.la l hl
  have e3 : ((3 * (l : Int)) + 1).toNat = 3 * l + 1 := by omega
  have el := h1.1.late l hl
  have key : ∀ x : Int, x = (t : Int) + P 3 l → RK (B + 1) P b hh (if P 0 2 ≤ t + P 3 l then ainc a 6 5 else aput (ainc a 8 e) (t + P 3 l).toNat l (a.1 3 i + P (400 + l) t, (i : Int), (e : Int))) (if x < P 0 2 then mo_puts (v2 v 224 e (v 224 e + 1)) x l (a.1 3 i + P (400 + l) t) i e else v2 v 221 5 (v 221 5 + 1)) := by
    intro x hx
    subst hx
    by_cases q : P 0 2 ≤ t + P 3 l
    · rw [if_pos q, if_neg (by omega)]
      exact ⟨(h1.i6 (by omega)).mono (by omega), h2.of (v2_row (by omega)) (by rw [v2_row (by omega)])⟩
    · rw [if_neg q, if_pos (by omega)]
      have e9 : ((t : Int) + P 3 l) = (((t : Int) + P 3 l).toNat : Int) := by omega
      have g1 := (h1.i8 (j := e) (by omega)).put (t := ((t : Int) + P 3 l).toNat) (c := l) (h := a.1 3 i + P (400 + l) t) (y := i) (e := e) (by omega)
      have g2 := (h2.of (v' := v2 v 224 e (v 224 e + 1)) (v2_row (by omega)) (by rw [v2_row (by omega)])).put (t := ((t : Int) + P 3 l).toNat) (c := l) (h := a.1 3 i + P (400 + l) t) (y := i) (e := e) ((h1.i8 (j := e) (by omega)).tl (by omega))
      rw [← e9] at g1 g2
      exact ⟨g1, g2⟩
  unfold ahear mo_goesBy_183
  rw [toN, e3]
  by_cases q1 : 99 < a.1 3 i + P (400 + l) t
  · rw [if_pos q1, if_pos q1]
    exact ⟨(h1.i6 (by omega)).mono (by omega), h2.of (v2_row (by omega)) (by rw [v2_row (by omega)])⟩
  · rw [if_neg q1, if_neg q1]
    by_cases q2 : v 203 34 = 6
    · rw [if_pos q2] at el
      rw [if_pos q2]
      exact key _ (by omega)
    · rw [if_neg q2] at el
      rw [if_neg q2]
      exact key _ (by omega)
theorem RK.gb104 {B : Int} {P : VS} {a : SS} {v : VS} {b : Nat} {hh : Int} (hP : PW P) (h : RK B P b hh a v) {i e t l : Nat} (he : (e : Int) < P 0 3) (ht : (t : Int) < P 0 2) (hl : (l : Int) < P 0 0) : RK (B + 1) P b hh (if P (300 + l) t = 1 then ainc a 6 1 else ahear P a i e t l) (mo_goesBy_104 v e i (a.1 3 i) t l (P 0 2)) := by
  have hd := h.1.1.deaf l t hl ht
  have hf := h.1.1.fnr l t hl ht
  have key : RK (B + 1) P b hh (ahear P a i e t l) (mo_goesBy_144 v e i (a.1 3 i) t l (P 0 2)) := by
    have g := h.hear hP (i := i) he ht hl
    unfold mo_goesBy_144
    by_cases q1 : v 203 34 = 2
    · rw [if_pos q1]
      rw [if_pos (Or.inl q1)] at hf
      rw [hf] at g
      exact g
    · rw [if_neg q1]
      by_cases q2 : mo_isIn217 v (v 210 8) l t = 0
      · rw [if_pos q2]
        rw [if_pos (Or.inr q2)] at hf
        rw [hf] at g
        exact g
      · rw [if_neg q2]
        rw [if_neg (fun z => z.elim q1 q2)] at hf
        rw [hf] at g
        exact g
  unfold mo_goesBy_104
  by_cases q1 : v 203 34 = 1
  · rw [if_pos q1, if_neg (fun z => (hd.mp z).1 q1)]
    exact key
  · rw [if_neg q1]
    by_cases q2 : mo_isIn216 v (v 210 7) l t = 0
    · rw [if_pos q2, if_neg (fun z => (hd.mp z).2 q2)]
      exact key
    · rw [if_neg q2, if_pos (hd.mpr ⟨q1, q2⟩)]
      exact ⟨(h.1.i6 (by omega)).mono (by omega), h.2.of (v2_row (by omega)) (by rw [v2_row (by omega)])⟩
theorem RK.carry {B : Int} {P : VS} {a : SS} {v : VS} {b : Nat} {hh : Int} (hP : PW P) (h : RK B P b hh a v) {i e s : Nat} (hs : a.1 1 i = s) (hsT : (s : Int) < P 0 2) (he : (e : Int) < P 0 3) : RK (B + 1) P b hh (acarry P (ainc a 9 e) i e) (mo_goesBy v e i s (a.1 3 i)) := by
  have hE := hP.E
  have h9 : RK B P b hh (ainc a 9 e) (v2 v 222 e (v 222 e + 1)) := ⟨h.1.i9 (by omega), h.2.of (v2_row (by omega)) (by rw [v2_row (by omega)])⟩
  have e210 : (v2 v 222 e (v 222 e + 1)) 210 = v 210 := v2_row (by omega)
  have e203 : (v2 v 222 e (v 222 e + 1)) 203 = v 203 := v2_row (by omega)
  have e221 : (v2 v 222 e (v 222 e + 1)) 221 = v 221 := v2_row (by omega)
  have e223 : (v2 v 222 e (v 222 e + 1)) 223 = v 223 := v2_row (by omega)
  have a1 : (ainc a 9 e).1 1 = a.1 1 := ainc_row (by omega)
  have a3 : (ainc a 9 e).1 3 = a.1 3 := ainc_row (by omega)
  have hk := hP.tk e s he hsT
  have etk := h.1.1.tk e s he hsT
  have hS := h.1.1.S
  obtain ⟨eh, hl0, hl1⟩ := h.1.1.hr e he
  have eat : aat P (ainc a 9 e) i e = s + P (100 + e) s := by
    unfold aat
    rw [a1, hs, toN]
  obtain ⟨w, hw⟩ : ∃ w, w = v2 v 222 e (v 222 e + 1) := ⟨_, rfl⟩
  obtain ⟨a', ha⟩ : ∃ a', a' = ainc a 9 e := ⟨_, rfl⟩
  obtain ⟨T, hT⟩ : ∃ T : Nat, (s : Int) + P (100 + e) s = T := ⟨((s : Int) + P (100 + e) s).toNat, by omega⟩
  obtain ⟨l, hl⟩ : ∃ l : Nat, P 1 e = l := ⟨(P 1 e).toNat, by omega⟩
  unfold acarry mo_goesBy
  rw [etk, eat, hS, toN, show ((4 * (e : Int))).toNat = 4 * e by omega, eh, ← hw, ← ha, hT, hl]
  simp only [toN]
  rw [← hw] at h9 e210 e203 e221 e223
  rw [← ha] at h9 a3
  by_cases q1 : P 0 2 ≤ (T : Int)
  · rw [if_pos q1, if_neg (by omega), ← e221]
    exact ⟨(h9.1.i6 (by omega)).mono (by omega), h9.2.of (v2_row (by omega)) (by rw [v2_row (by omega)])⟩
  · rw [if_neg q1, if_pos (show (T : Int) < P 0 2 by omega)]
    have hf := h9.1.1.fog e T he (by omega)
    rw [e203, e210] at hf
    have key : RK (B + 1) P b hh (if P (300 + l) T = 1 then ainc a' 6 1 else ahear P a' i e T l) (mo_goesBy_104 w e i (a.1 3 i) T l (P 0 2)) := by
      have g := h9.gb104 hP (i := i) (e := e) (t := T) (l := l) he (by omega) (by omega)
      rw [a3] at g
      exact g
    by_cases q2 : v 203 34 = 0
    · rw [if_pos q2, if_neg (fun z => (hf.mp z).1 q2)]
      exact key
    · rw [if_neg q2]
      by_cases q3 : mo_isIn215 w (v 210 6) e T = 0
      · rw [if_pos q3, if_neg (fun z => (hf.mp z).2 q3)]
        exact key
      · rw [if_neg q3, if_pos (hf.mpr ⟨q2, q3⟩), ← e221, ← e223]
        have g1 := h9.1.i7 (j := e) (by omega)
        have g2 := g1.i6 (j := 0) (by omega)
        rw [v2_row (show 221 ≠ 223 by omega)] at g2
        have ec : ainc (ainc a' 7 e) 6 0 = ainc (ainc a' 6 0) 7 e := by
          unfold ainc
          simp only
          congr 1
          funext k j
          simp only [v2_eq]
          by_cases z1 : k = 6 ∧ j = 0
          · rw [if_pos z1, if_neg (by omega), if_pos z1, if_neg (by omega)]
          · rw [if_neg z1]
            by_cases z2 : k = 7 ∧ j = e
            · rw [if_pos z2, if_pos z2, if_neg (by omega)]
            · rw [if_neg z2, if_neg z2, if_neg z1]
        rw [ec] at g2
        exact ⟨g2.mono (by omega), h9.2.of (by rw [v2_row (by omega), v2_row (by omega)]) (by rw [v2_row (by omega), v2_row (by omega)])⟩
