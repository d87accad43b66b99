
/-! what is read -/
def DQ (a b : VS) : Prop :=
  (a 3 0 = b 210 44 ∧ 0 ≤ a 3 0 ∧ a 3 0 ≤ 9) ∧
  (a 3 1 = b 210 45 ∧ 0 ≤ a 3 1 ∧ a 3 1 ≤ 300) ∧
  (a 3 2 = b 209 4) ∧
  (a 3 3 = b 210 46 ∧ 0 ≤ a 3 3 ∧ a 3 3 ≤ a 3 0) ∧
  (a 3 4 = b 210 53) ∧
  (a 3 5 = b 210 54) ∧
  (∀ c : Nat, c < 9 → a 4 c = b 211 (108 + 3 * c) ∧ a 5 c = b 211 (108 + 3 * c + 1) ∧ a 6 c = b 211 (108 + 3 * c + 2)) ∧
  (a 7 0 = b 210 47 ∧ 0 ≤ a 7 0 ∧ a 7 0 ≤ 12) ∧
  (∀ e : Nat, (e : Int) < a 7 0 → (a 8 e = b 212 (192 + 4 * e) ∧ a 9 e = b 212 (192 + 4 * e + 1) ∧ a 10 e = b 212 (192 + 4 * e + 2) ∧ a 11 e = b 212 (192 + 4 * e + 3)) ∧ a 8 e < a 3 0 ∧ a 9 e < a 3 0 ∧ 1 ≤ a 10 e) ∧
  (a 12 0 = b 210 48 ∧ 0 ≤ a 12 0 ∧ a 12 0 ≤ 4) ∧
  (∀ s : Nat, (s : Int) < a 12 0 → (a 13 s = b 213 (60 + 3 * s) ∧ a 14 s = b 213 (60 + 3 * s + 1) ∧ a 15 s = b 213 (60 + 3 * s + 2)) ∧ a 13 s < a 3 0 ∧ a 14 s < a 3 1 ∧ 1 ≤ a 15 s) ∧
  (a 16 0 = b 210 49 ∧ 0 ≤ a 16 0 ∧ a 16 0 ≤ 6) ∧
  (∀ i : Nat, (i : Int) < a 16 0 → a 17 i = b 214 (48 + 2 * i + 1) ∧ a 18 i = b 214 (48 + 2 * i)) ∧
  (a 20 0 = b 210 50 ∧ 0 ≤ a 20 0 ∧ a 20 0 ≤ 6) ∧
  (∀ s : Nat, (s : Int) < a 20 0 → (a 21 s = b 215 (72 + 3 * s) ∧ a 22 s = b 215 (72 + 3 * s + 1) ∧ a 23 s = b 215 (72 + 3 * s + 2)) ∧ a 21 s < a 7 0 ∧ a 23 s < a 3 1) ∧
  (a 24 0 = b 210 51 ∧ 0 ≤ a 24 0 ∧ a 24 0 ≤ 6) ∧
  (∀ s : Nat, (s : Int) < a 24 0 → (a 25 s = b 216 (72 + 3 * s) ∧ a 26 s = b 216 (72 + 3 * s + 1) ∧ a 27 s = b 216 (72 + 3 * s + 2)) ∧ a 25 s < a 3 0 ∧ a 27 s < a 3 1) ∧
  (a 28 0 = b 210 52 ∧ 0 ≤ a 28 0 ∧ a 28 0 ≤ 6) ∧
  (∀ s : Nat, (s : Int) < a 28 0 → (a 29 s = b 217 (72 + 3 * s) ∧ a 30 s = b 217 (72 + 3 * s + 1) ∧ a 31 s = b 217 (72 + 3 * s + 2)) ∧ a 29 s < a 3 0 ∧ a 31 s < a 3 1) ∧
  (0 < a 3 2 → 1 ≤ a 3 0 ∧ 1 ≤ a 3 1) ∧
  (a 3 2 = 0 → a 3 0 = 0 ∧ a 3 1 = 0 ∧ a 3 3 = 0 ∧ a 7 0 = 0 ∧ a 12 0 = 0 ∧ a 20 0 = 0 ∧ a 24 0 = 0 ∧ a 28 0 = 0) ∧
  (0 ≤ a 3 2)
theorem DQ.C {a b : VS} (h : DQ a b) : a 3 0 = b 210 44 ∧ 0 ≤ a 3 0 ∧ a 3 0 ≤ 9 := h.1
theorem DQ.S {a b : VS} (h : DQ a b) : a 3 1 = b 210 45 ∧ 0 ≤ a 3 1 ∧ a 3 1 ≤ 300 := h.2.1
theorem DQ.L {a b : VS} (h : DQ a b) : a 3 2 = b 209 4 := h.2.2.1
theorem DQ.D {a b : VS} (h : DQ a b) : a 3 3 = b 210 46 ∧ 0 ≤ a 3 3 ∧ a 3 3 ≤ a 3 0 := h.2.2.2.1
theorem DQ.M {a b : VS} (h : DQ a b) : a 3 4 = b 210 53 := h.2.2.2.2.1
theorem DQ.X {a b : VS} (h : DQ a b) : a 3 5 = b 210 54 := h.2.2.2.2.2.1
theorem DQ.ch {a b : VS} (h : DQ a b) : ∀ c : Nat, c < 9 → a 4 c = b 211 (108 + 3 * c) ∧ a 5 c = b 211 (108 + 3 * c + 1) ∧ a 6 c = b 211 (108 + 3 * c + 2) := h.2.2.2.2.2.2.1
theorem DQ.E {a b : VS} (h : DQ a b) : a 7 0 = b 210 47 ∧ 0 ≤ a 7 0 ∧ a 7 0 ≤ 12 := h.2.2.2.2.2.2.2.1
theorem DQ.ea {a b : VS} (h : DQ a b) : ∀ e : Nat, (e : Int) < a 7 0 → (a 8 e = b 212 (192 + 4 * e) ∧ a 9 e = b 212 (192 + 4 * e + 1) ∧ a 10 e = b 212 (192 + 4 * e + 2) ∧ a 11 e = b 212 (192 + 4 * e + 3)) ∧ a 8 e < a 3 0 ∧ a 9 e < a 3 0 ∧ 1 ≤ a 10 e := h.2.2.2.2.2.2.2.2.1
theorem DQ.T {a b : VS} (h : DQ a b) : a 12 0 = b 210 48 ∧ 0 ≤ a 12 0 ∧ a 12 0 ≤ 4 := h.2.2.2.2.2.2.2.2.2.1
theorem DQ.st {a b : VS} (h : DQ a b) : ∀ s : Nat, (s : Int) < a 12 0 → (a 13 s = b 213 (60 + 3 * s) ∧ a 14 s = b 213 (60 + 3 * s + 1) ∧ a 15 s = b 213 (60 + 3 * s + 2)) ∧ a 13 s < a 3 0 ∧ a 14 s < a 3 1 ∧ 1 ≤ a 15 s := h.2.2.2.2.2.2.2.2.2.2.1
theorem DQ.W {a b : VS} (h : DQ a b) : a 16 0 = b 210 49 ∧ 0 ≤ a 16 0 ∧ a 16 0 ≤ 6 := h.2.2.2.2.2.2.2.2.2.2.2.1
theorem DQ.wi {a b : VS} (h : DQ a b) : ∀ i : Nat, (i : Int) < a 16 0 → a 17 i = b 214 (48 + 2 * i + 1) ∧ a 18 i = b 214 (48 + 2 * i) := h.2.2.2.2.2.2.2.2.2.2.2.2.1
theorem DQ.F {a b : VS} (h : DQ a b) : a 20 0 = b 210 50 ∧ 0 ≤ a 20 0 ∧ a 20 0 ≤ 6 := h.2.2.2.2.2.2.2.2.2.2.2.2.2.1
theorem DQ.fo {a b : VS} (h : DQ a b) : ∀ s : Nat, (s : Int) < a 20 0 → (a 21 s = b 215 (72 + 3 * s) ∧ a 22 s = b 215 (72 + 3 * s + 1) ∧ a 23 s = b 215 (72 + 3 * s + 2)) ∧ a 21 s < a 7 0 ∧ a 23 s < a 3 1 := h.2.2.2.2.2.2.2.2.2.2.2.2.2.2.1
theorem DQ.G {a b : VS} (h : DQ a b) : a 24 0 = b 210 51 ∧ 0 ≤ a 24 0 ∧ a 24 0 ≤ 6 := h.2.2.2.2.2.2.2.2.2.2.2.2.2.2.2.1
theorem DQ.de {a b : VS} (h : DQ a b) : ∀ s : Nat, (s : Int) < a 24 0 → (a 25 s = b 216 (72 + 3 * s) ∧ a 26 s = b 216 (72 + 3 * s + 1) ∧ a 27 s = b 216 (72 + 3 * s + 2)) ∧ a 25 s < a 3 0 ∧ a 27 s < a 3 1 := h.2.2.2.2.2.2.2.2.2.2.2.2.2.2.2.2.1
theorem DQ.H {a b : VS} (h : DQ a b) : a 28 0 = b 210 52 ∧ 0 ≤ a 28 0 ∧ a 28 0 ≤ 6 := h.2.2.2.2.2.2.2.2.2.2.2.2.2.2.2.2.2.1
theorem DQ.fu {a b : VS} (h : DQ a b) : ∀ s : Nat, (s : Int) < a 28 0 → (a 29 s = b 217 (72 + 3 * s) ∧ a 30 s = b 217 (72 + 3 * s + 1) ∧ a 31 s = b 217 (72 + 3 * s + 2)) ∧ a 29 s < a 3 0 ∧ a 31 s < a 3 1 := h.2.2.2.2.2.2.2.2.2.2.2.2.2.2.2.2.2.2.1
theorem DQ.ps {a b : VS} (h : DQ a b) : 0 < a 3 2 → 1 ≤ a 3 0 ∧ 1 ≤ a 3 1 := h.2.2.2.2.2.2.2.2.2.2.2.2.2.2.2.2.2.2.2.1
theorem DQ.nl {a b : VS} (h : DQ a b) : a 3 2 = 0 → a 3 0 = 0 ∧ a 3 1 = 0 ∧ a 3 3 = 0 ∧ a 7 0 = 0 ∧ a 12 0 = 0 ∧ a 20 0 = 0 ∧ a 24 0 = 0 ∧ a 28 0 = 0 := h.2.2.2.2.2.2.2.2.2.2.2.2.2.2.2.2.2.2.2.2.1
theorem DQ.z {a b : VS} (h : DQ a b) : 0 ≤ a 3 2 := h.2.2.2.2.2.2.2.2.2.2.2.2.2.2.2.2.2.2.2.2.2
theorem DQ.start {a b a' b' : VS} (h : DQ a b) {m : Nat} {x y z : Int} (hm : a 12 0 = m) (hlt : m < 4) (hn : a 3 2 ≠ 0) (r3 : ∀ j, j < 6 → a' 3 j = a 3 j) (ra : ∀ k, (3 ≤ k ∧ k < 12) ∨ (15 < k ∧ k ≤ 31) → a' k = a k) (c0 : a' 12 0 = m + 1) (c1 : ∀ i, a' 13 i = if i = m then x else a 13 i) (c2 : ∀ i, a' 14 i = if i = m then y else a 14 i) (c3 : ∀ i, a' 15 i = if i = m then z else a 15 i) (rb : ∀ k, k = 209 ∨ (211 ≤ k ∧ k < 213) ∨ (213 < k ∧ k ≤ 217) → b' k = b k) (r10 : ∀ j, j ≠ 48 → b' 210 j = b 210 j) (rc : b' 210 48 = b 210 48 + 1) (rr : ∀ j, b' 213 j = if j = 60 + 3 * m + 2 then z else if j = 60 + 3 * m + 1 then y else if j = 60 + 3 * m then x else b 213 j) (hb : x < a 3 0 ∧ y < a 3 1 ∧ 1 ≤ z) : DQ a' b' := by
  refine ⟨?_, ?_, ?_, ?_, ?_, ?_, ?_, ?_, ?_, ?_, ?_, ?_, ?_, ?_, ?_, ?_, ?_, ?_, ?_, ?_, ?_, ?_⟩
  · rw [r3 0 (by omega), r10 44 (by omega)]; exact h.C
  · rw [r3 1 (by omega), r10 45 (by omega)]; exact h.S
  · rw [r3 2 (by omega), rb 209 (by omega)]; exact h.L
  · rw [r3 3 (by omega), r3 0 (by omega), r10 46 (by omega)]; exact h.D
  · rw [r3 4 (by omega), r10 53 (by omega)]; exact h.M
  · rw [r3 5 (by omega), r10 54 (by omega)]; exact h.X
  · rw [ra 4 (by omega), ra 5 (by omega), ra 6 (by omega), rb 211 (by omega)]; exact h.ch
  · rw [ra 7 (by omega), r10 47 (by omega)]; exact h.E
  · rw [ra 7 (by omega), ra 8 (by omega), ra 9 (by omega), ra 10 (by omega), ra 11 (by omega), r3 0 (by omega), rb 212 (by omega)]; exact h.ea
  · rw [c0, rc]; have := h.T; omega
  · rw [c0, r3 0 (by omega), r3 1 (by omega)]
    intro s hs
    rw [c1, c2, c3, rr, rr, rr]
    by_cases e : s = m
    · subst e
      refine ⟨⟨?_, ?_, ?_⟩, ?_⟩
      · rw [if_pos rfl, if_neg (by omega), if_neg (by omega), if_pos (by omega)]
      · rw [if_pos rfl, if_neg (by omega), if_pos (by omega)]
      · rw [if_pos rfl, if_pos (by omega)]
      · simpa using hb
    · have g := h.st s (by omega)
      refine ⟨⟨?_, ?_, ?_⟩, ?_⟩
      · rw [if_neg e, if_neg (by omega), if_neg (by omega), if_neg (by omega)]; exact g.1.1
      · rw [if_neg e, if_neg (by omega), if_neg (by omega), if_neg (by omega)]; exact g.1.2.1
      · rw [if_neg e, if_neg (by omega), if_neg (by omega), if_neg (by omega)]; exact g.1.2.2
      · simpa [e] using g.2
  · rw [ra 16 (by omega), r10 49 (by omega)]; exact h.W
  · rw [ra 16 (by omega), ra 17 (by omega), ra 18 (by omega), rb 214 (by omega)]; exact h.wi
  · rw [ra 20 (by omega), r10 50 (by omega)]; exact h.F
  · rw [ra 20 (by omega), ra 21 (by omega), ra 22 (by omega), ra 23 (by omega), ra 7 (by omega), r3 1 (by omega), rb 215 (by omega)]; exact h.fo
  · rw [ra 24 (by omega), r10 51 (by omega)]; exact h.G
  · rw [ra 24 (by omega), ra 25 (by omega), ra 26 (by omega), ra 27 (by omega), r3 0 (by omega), r3 1 (by omega), rb 216 (by omega)]; exact h.de
  · rw [ra 28 (by omega), r10 52 (by omega)]; exact h.H
  · rw [ra 28 (by omega), ra 29 (by omega), ra 30 (by omega), ra 31 (by omega), r3 0 (by omega), r3 1 (by omega), rb 217 (by omega)]; exact h.fu
  · rw [r3 2 (by omega), r3 0 (by omega), r3 1 (by omega)]; exact h.ps
  · rw [r3 2 (by omega)]; intro e; exact absurd e hn
  · rw [r3 2 (by omega)]; exact h.z
theorem DQ.fog {a b a' b' : VS} (h : DQ a b) {m : Nat} {x y z : Int} (hm : a 20 0 = m) (hlt : m < 6) (hn : a 3 2 ≠ 0) (r3 : ∀ j, j < 6 → a' 3 j = a 3 j) (ra : ∀ k, (3 ≤ k ∧ k < 20) ∨ (23 < k ∧ k ≤ 31) → a' k = a k) (c0 : a' 20 0 = m + 1) (c1 : ∀ i, a' 21 i = if i = m then x else a 21 i) (c2 : ∀ i, a' 22 i = if i = m then y else a 22 i) (c3 : ∀ i, a' 23 i = if i = m then z else a 23 i) (rb : ∀ k, k = 209 ∨ (211 ≤ k ∧ k < 215) ∨ (215 < k ∧ k ≤ 217) → b' k = b k) (r10 : ∀ j, j ≠ 50 → b' 210 j = b 210 j) (rc : b' 210 50 = b 210 50 + 1) (rr : ∀ j, b' 215 j = if j = 72 + 3 * m + 2 then z else if j = 72 + 3 * m + 1 then y else if j = 72 + 3 * m then x else b 215 j) (hb : x < a 7 0 ∧ z < a 3 1) : DQ a' b' := by
  refine ⟨?_, ?_, ?_, ?_, ?_, ?_, ?_, ?_, ?_, ?_, ?_, ?_, ?_, ?_, ?_, ?_, ?_, ?_, ?_, ?_, ?_, ?_⟩
  · rw [r3 0 (by omega), r10 44 (by omega)]; exact h.C
  · rw [r3 1 (by omega), r10 45 (by omega)]; exact h.S
  · rw [r3 2 (by omega), rb 209 (by omega)]; exact h.L
  · rw [r3 3 (by omega), r3 0 (by omega), r10 46 (by omega)]; exact h.D
  · rw [r3 4 (by omega), r10 53 (by omega)]; exact h.M
  · rw [r3 5 (by omega), r10 54 (by omega)]; exact h.X
  · rw [ra 4 (by omega), ra 5 (by omega), ra 6 (by omega), rb 211 (by omega)]; exact h.ch
  · rw [ra 7 (by omega), r10 47 (by omega)]; exact h.E
  · rw [ra 7 (by omega), ra 8 (by omega), ra 9 (by omega), ra 10 (by omega), ra 11 (by omega), r3 0 (by omega), rb 212 (by omega)]; exact h.ea
  · rw [ra 12 (by omega), r10 48 (by omega)]; exact h.T
  · rw [ra 12 (by omega), ra 13 (by omega), ra 14 (by omega), ra 15 (by omega), r3 0 (by omega), r3 1 (by omega), rb 213 (by omega)]; exact h.st
  · rw [ra 16 (by omega), r10 49 (by omega)]; exact h.W
  · rw [ra 16 (by omega), ra 17 (by omega), ra 18 (by omega), rb 214 (by omega)]; exact h.wi
  · rw [c0, rc]; have := h.F; omega
  · rw [c0, r3 1 (by omega), ra 7 (by omega)]
    intro s hs
    rw [c1, c2, c3, rr, rr, rr]
    by_cases e : s = m
    · subst e
      refine ⟨⟨?_, ?_, ?_⟩, ?_⟩
      · rw [if_pos rfl, if_neg (by omega), if_neg (by omega), if_pos (by omega)]
      · rw [if_pos rfl, if_neg (by omega), if_pos (by omega)]
      · rw [if_pos rfl, if_pos (by omega)]
      · simpa using hb
    · have g := h.fo s (by omega)
      refine ⟨⟨?_, ?_, ?_⟩, ?_⟩
      · rw [if_neg e, if_neg (by omega), if_neg (by omega), if_neg (by omega)]; exact g.1.1
      · rw [if_neg e, if_neg (by omega), if_neg (by omega), if_neg (by omega)]; exact g.1.2.1
      · rw [if_neg e, if_neg (by omega), if_neg (by omega), if_neg (by omega)]; exact g.1.2.2
      · simpa [e] using g.2
  · rw [ra 24 (by omega), r10 51 (by omega)]; exact h.G
  · rw [ra 24 (by omega), ra 25 (by omega), ra 26 (by omega), ra 27 (by omega), r3 0 (by omega), r3 1 (by omega), rb 216 (by omega)]; exact h.de
  · rw [ra 28 (by omega), r10 52 (by omega)]; exact h.H
  · rw [ra 28 (by omega), ra 29 (by omega), ra 30 (by omega), ra 31 (by omega), r3 0 (by omega), r3 1 (by omega), rb 217 (by omega)]; exact h.fu
  · rw [r3 2 (by omega), r3 0 (by omega), r3 1 (by omega)]; exact h.ps
  · rw [r3 2 (by omega)]; intro e; exact absurd e hn
  · rw [r3 2 (by omega)]; exact h.z
theorem DQ.deaf {a b a' b' : VS} (h : DQ a b) {m : Nat} {x y z : Int} (hm : a 24 0 = m) (hlt : m < 6) (hn : a 3 2 ≠ 0) (r3 : ∀ j, j < 6 → a' 3 j = a 3 j) (ra : ∀ k, (3 ≤ k ∧ k < 24) ∨ (27 < k ∧ k ≤ 31) → a' k = a k) (c0 : a' 24 0 = m + 1) (c1 : ∀ i, a' 25 i = if i = m then x else a 25 i) (c2 : ∀ i, a' 26 i = if i = m then y else a 26 i) (c3 : ∀ i, a' 27 i = if i = m then z else a 27 i) (rb : ∀ k, k = 209 ∨ (211 ≤ k ∧ k < 216) ∨ (216 < k ∧ k ≤ 217) → b' k = b k) (r10 : ∀ j, j ≠ 51 → b' 210 j = b 210 j) (rc : b' 210 51 = b 210 51 + 1) (rr : ∀ j, b' 216 j = if j = 72 + 3 * m + 2 then z else if j = 72 + 3 * m + 1 then y else if j = 72 + 3 * m then x else b 216 j) (hb : x < a 3 0 ∧ z < a 3 1) : DQ a' b' := by
  refine ⟨?_, ?_, ?_, ?_, ?_, ?_, ?_, ?_, ?_, ?_, ?_, ?_, ?_, ?_, ?_, ?_, ?_, ?_, ?_, ?_, ?_, ?_⟩
  · rw [r3 0 (by omega), r10 44 (by omega)]; exact h.C
  · rw [r3 1 (by omega), r10 45 (by omega)]; exact h.S
  · rw [r3 2 (by omega), rb 209 (by omega)]; exact h.L
  · rw [r3 3 (by omega), r3 0 (by omega), r10 46 (by omega)]; exact h.D
  · rw [r3 4 (by omega), r10 53 (by omega)]; exact h.M
  · rw [r3 5 (by omega), r10 54 (by omega)]; exact h.X
  · rw [ra 4 (by omega), ra 5 (by omega), ra 6 (by omega), rb 211 (by omega)]; exact h.ch
  · rw [ra 7 (by omega), r10 47 (by omega)]; exact h.E
  · rw [ra 7 (by omega), ra 8 (by omega), ra 9 (by omega), ra 10 (by omega), ra 11 (by omega), r3 0 (by omega), rb 212 (by omega)]; exact h.ea
  · rw [ra 12 (by omega), r10 48 (by omega)]; exact h.T
  · rw [ra 12 (by omega), ra 13 (by omega), ra 14 (by omega), ra 15 (by omega), r3 0 (by omega), r3 1 (by omega), rb 213 (by omega)]; exact h.st
  · rw [ra 16 (by omega), r10 49 (by omega)]; exact h.W
  · rw [ra 16 (by omega), ra 17 (by omega), ra 18 (by omega), rb 214 (by omega)]; exact h.wi
  · rw [ra 20 (by omega), r10 50 (by omega)]; exact h.F
  · rw [ra 20 (by omega), ra 21 (by omega), ra 22 (by omega), ra 23 (by omega), ra 7 (by omega), r3 1 (by omega), rb 215 (by omega)]; exact h.fo
  · rw [c0, rc]; have := h.G; omega
  · rw [c0, r3 0 (by omega), r3 1 (by omega)]
    intro s hs
    rw [c1, c2, c3, rr, rr, rr]
    by_cases e : s = m
    · subst e
      refine ⟨⟨?_, ?_, ?_⟩, ?_⟩
      · rw [if_pos rfl, if_neg (by omega), if_neg (by omega), if_pos (by omega)]
      · rw [if_pos rfl, if_neg (by omega), if_pos (by omega)]
      · rw [if_pos rfl, if_pos (by omega)]
      · simpa using hb
    · have g := h.de s (by omega)
      refine ⟨⟨?_, ?_, ?_⟩, ?_⟩
      · rw [if_neg e, if_neg (by omega), if_neg (by omega), if_neg (by omega)]; exact g.1.1
      · rw [if_neg e, if_neg (by omega), if_neg (by omega), if_neg (by omega)]; exact g.1.2.1
      · rw [if_neg e, if_neg (by omega), if_neg (by omega), if_neg (by omega)]; exact g.1.2.2
      · simpa [e] using g.2
  · rw [ra 28 (by omega), r10 52 (by omega)]; exact h.H
  · rw [ra 28 (by omega), ra 29 (by omega), ra 30 (by omega), ra 31 (by omega), r3 0 (by omega), r3 1 (by omega), rb 217 (by omega)]; exact h.fu
  · rw [r3 2 (by omega), r3 0 (by omega), r3 1 (by omega)]; exact h.ps
  · rw [r3 2 (by omega)]; intro e; exact absurd e hn
  · rw [r3 2 (by omega)]; exact h.z
theorem DQ.funeral {a b a' b' : VS} (h : DQ a b) {m : Nat} {x y z : Int} (hm : a 28 0 = m) (hlt : m < 6) (hn : a 3 2 ≠ 0) (r3 : ∀ j, j < 6 → a' 3 j = a 3 j) (ra : ∀ k, (3 ≤ k ∧ k < 28) ∨ (31 < k ∧ k ≤ 31) → a' k = a k) (c0 : a' 28 0 = m + 1) (c1 : ∀ i, a' 29 i = if i = m then x else a 29 i) (c2 : ∀ i, a' 30 i = if i = m then y else a 30 i) (c3 : ∀ i, a' 31 i = if i = m then z else a 31 i) (rb : ∀ k, k = 209 ∨ (211 ≤ k ∧ k < 217) ∨ (217 < k ∧ k ≤ 217) → b' k = b k) (r10 : ∀ j, j ≠ 52 → b' 210 j = b 210 j) (rc : b' 210 52 = b 210 52 + 1) (rr : ∀ j, b' 217 j = if j = 72 + 3 * m + 2 then z else if j = 72 + 3 * m + 1 then y else if j = 72 + 3 * m then x else b 217 j) (hb : x < a 3 0 ∧ z < a 3 1) : DQ a' b' := by
  refine ⟨?_, ?_, ?_, ?_, ?_, ?_, ?_, ?_, ?_, ?_, ?_, ?_, ?_, ?_, ?_, ?_, ?_, ?_, ?_, ?_, ?_, ?_⟩
  · rw [r3 0 (by omega), r10 44 (by omega)]; exact h.C
  · rw [r3 1 (by omega), r10 45 (by omega)]; exact h.S
  · rw [r3 2 (by omega), rb 209 (by omega)]; exact h.L
  · rw [r3 3 (by omega), r3 0 (by omega), r10 46 (by omega)]; exact h.D
  · rw [r3 4 (by omega), r10 53 (by omega)]; exact h.M
  · rw [r3 5 (by omega), r10 54 (by omega)]; exact h.X
  · rw [ra 4 (by omega), ra 5 (by omega), ra 6 (by omega), rb 211 (by omega)]; exact h.ch
  · rw [ra 7 (by omega), r10 47 (by omega)]; exact h.E
  · rw [ra 7 (by omega), ra 8 (by omega), ra 9 (by omega), ra 10 (by omega), ra 11 (by omega), r3 0 (by omega), rb 212 (by omega)]; exact h.ea
  · rw [ra 12 (by omega), r10 48 (by omega)]; exact h.T
  · rw [ra 12 (by omega), ra 13 (by omega), ra 14 (by omega), ra 15 (by omega), r3 0 (by omega), r3 1 (by omega), rb 213 (by omega)]; exact h.st
  · rw [ra 16 (by omega), r10 49 (by omega)]; exact h.W
  · rw [ra 16 (by omega), ra 17 (by omega), ra 18 (by omega), rb 214 (by omega)]; exact h.wi
  · rw [ra 20 (by omega), r10 50 (by omega)]; exact h.F
  · rw [ra 20 (by omega), ra 21 (by omega), ra 22 (by omega), ra 23 (by omega), ra 7 (by omega), r3 1 (by omega), rb 215 (by omega)]; exact h.fo
  · rw [ra 24 (by omega), r10 51 (by omega)]; exact h.G
  · rw [ra 24 (by omega), ra 25 (by omega), ra 26 (by omega), ra 27 (by omega), r3 0 (by omega), r3 1 (by omega), rb 216 (by omega)]; exact h.de
  · rw [c0, rc]; have := h.H; omega
  · rw [c0, r3 0 (by omega), r3 1 (by omega)]
    intro s hs
    rw [c1, c2, c3, rr, rr, rr]
    by_cases e : s = m
    · subst e
      refine ⟨⟨?_, ?_, ?_⟩, ?_⟩
      · rw [if_pos rfl, if_neg (by omega), if_neg (by omega), if_pos (by omega)]
      · rw [if_pos rfl, if_neg (by omega), if_pos (by omega)]
      · rw [if_pos rfl, if_pos (by omega)]
      · simpa using hb
    · have g := h.fu s (by omega)
      refine ⟨⟨?_, ?_, ?_⟩, ?_⟩
      · rw [if_neg e, if_neg (by omega), if_neg (by omega), if_neg (by omega)]; exact g.1.1
      · rw [if_neg e, if_neg (by omega), if_neg (by omega), if_neg (by omega)]; exact g.1.2.1
      · rw [if_neg e, if_neg (by omega), if_neg (by omega), if_neg (by omega)]; exact g.1.2.2
      · simpa [e] using g.2
  · rw [r3 2 (by omega), r3 0 (by omega), r3 1 (by omega)]; exact h.ps
  · rw [r3 2 (by omega)]; intro e; exact absurd e hn
  · rw [r3 2 (by omega)]; exact h.z
theorem DQ.wind {a b a' b' : VS} (h : DQ a b) {m : Nat} {x y : Int} (hm : a 16 0 = m) (hlt : m < 6) (r3 : ∀ j, j < 6 → a' 3 j = a 3 j) (ra : ∀ k, (3 ≤ k ∧ k < 16) ∨ (19 < k ∧ k ≤ 31) → a' k = a k) (c0 : a' 16 0 = m + 1) (c1 : ∀ i, a' 17 i = if i = m then x else a 17 i) (c2 : ∀ i, a' 18 i = if i = m then y else a 18 i) (rb : ∀ k, k = 209 ∨ (211 ≤ k ∧ k < 214) ∨ (214 < k ∧ k ≤ 217) → b' k = b k) (r10 : ∀ j, j ≠ 49 → b' 210 j = b 210 j) (rc : b' 210 49 = b 210 49 + 1) (rr : ∀ j, b' 214 j = if j = 48 + 2 * m + 1 then x else if j = 48 + 2 * m then y else b 214 j) : DQ a' b' := by
  refine ⟨?_, ?_, ?_, ?_, ?_, ?_, ?_, ?_, ?_, ?_, ?_, ?_, ?_, ?_, ?_, ?_, ?_, ?_, ?_, ?_, ?_, ?_⟩
  · rw [r3 0 (by omega), r10 44 (by omega)]; exact h.C
  · rw [r3 1 (by omega), r10 45 (by omega)]; exact h.S
  · rw [r3 2 (by omega), rb 209 (by omega)]; exact h.L
  · rw [r3 3 (by omega), r3 0 (by omega), r10 46 (by omega)]; exact h.D
  · rw [r3 4 (by omega), r10 53 (by omega)]; exact h.M
  · rw [r3 5 (by omega), r10 54 (by omega)]; exact h.X
  · rw [ra 4 (by omega), ra 5 (by omega), ra 6 (by omega), rb 211 (by omega)]; exact h.ch
  · rw [ra 7 (by omega), r10 47 (by omega)]; exact h.E
  · rw [ra 7 (by omega), ra 8 (by omega), ra 9 (by omega), ra 10 (by omega), ra 11 (by omega), r3 0 (by omega), rb 212 (by omega)]; exact h.ea
  · rw [ra 12 (by omega), r10 48 (by omega)]; exact h.T
  · rw [ra 12 (by omega), ra 13 (by omega), ra 14 (by omega), ra 15 (by omega), r3 0 (by omega), r3 1 (by omega), rb 213 (by omega)]; exact h.st
  · rw [c0, rc]; have := h.W; omega
  · rw [c0]
    intro s hs
    rw [c1, c2, rr, rr]
    by_cases e : s = m
    · subst e
      refine ⟨?_, ?_⟩
      · rw [if_pos rfl, if_pos (by omega)]
      · rw [if_pos rfl, if_neg (by omega), if_pos (by omega)]
    · have g := h.wi s (by omega)
      refine ⟨?_, ?_⟩
      · rw [if_neg e, if_neg (by omega), if_neg (by omega)]; exact g.1
      · rw [if_neg e, if_neg (by omega), if_neg (by omega)]; exact g.2
  · rw [ra 20 (by omega), r10 50 (by omega)]; exact h.F
  · rw [ra 20 (by omega), ra 21 (by omega), ra 22 (by omega), ra 23 (by omega), ra 7 (by omega), r3 1 (by omega), rb 215 (by omega)]; exact h.fo
  · rw [ra 24 (by omega), r10 51 (by omega)]; exact h.G
  · rw [ra 24 (by omega), ra 25 (by omega), ra 26 (by omega), ra 27 (by omega), r3 0 (by omega), r3 1 (by omega), rb 216 (by omega)]; exact h.de
  · rw [ra 28 (by omega), r10 52 (by omega)]; exact h.H
  · rw [ra 28 (by omega), ra 29 (by omega), ra 30 (by omega), ra 31 (by omega), r3 0 (by omega), r3 1 (by omega), rb 217 (by omega)]; exact h.fu
  · rw [r3 2 (by omega), r3 0 (by omega), r3 1 (by omega)]; exact h.ps
  · rw [ra 7 (by omega), ra 12 (by omega), ra 20 (by omega), ra 24 (by omega), ra 28 (by omega), r3 2 (by omega), r3 0 (by omega), r3 1 (by omega), r3 3 (by omega)]; exact h.nl
  · rw [r3 2 (by omega)]; exact h.z
theorem DQ.ear {a b a' b' : VS} (h : DQ a b) {m : Nat} {x y z w : Int} (hm : a 7 0 = m) (hlt : m < 12) (hn : a 3 2 ≠ 0) (r3 : ∀ j, j < 6 → a' 3 j = a 3 j) (ra : ∀ k, (3 ≤ k ∧ k < 7) ∨ (11 < k ∧ k ≤ 31) → a' k = a k) (c0 : a' 7 0 = m + 1) (c1 : ∀ i, a' 8 i = if i = m then x else a 8 i) (c2 : ∀ i, a' 9 i = if i = m then y else a 9 i) (c3 : ∀ i, a' 10 i = if i = m then z else a 10 i) (c4 : ∀ i, a' 11 i = if i = m then w else a 11 i) (rb : ∀ k, k = 209 ∨ k = 211 ∨ (212 < k ∧ k ≤ 217) → b' k = b k) (r10 : ∀ j, j ≠ 47 → b' 210 j = b 210 j) (rc : b' 210 47 = b 210 47 + 1) (rr : ∀ j, b' 212 j = if j = 192 + 4 * m + 3 then w else if j = 192 + 4 * m + 2 then z else if j = 192 + 4 * m + 1 then y else if j = 192 + 4 * m then x else b 212 j) (hb : x < a 3 0 ∧ y < a 3 0 ∧ 1 ≤ z) : DQ a' b' := by
  refine ⟨?_, ?_, ?_, ?_, ?_, ?_, ?_, ?_, ?_, ?_, ?_, ?_, ?_, ?_, ?_, ?_, ?_, ?_, ?_, ?_, ?_, ?_⟩
  · rw [r3 0 (by omega), r10 44 (by omega)]; exact h.C
  · rw [r3 1 (by omega), r10 45 (by omega)]; exact h.S
  · rw [r3 2 (by omega), rb 209 (by omega)]; exact h.L
  · rw [r3 3 (by omega), r3 0 (by omega), r10 46 (by omega)]; exact h.D
  · rw [r3 4 (by omega), r10 53 (by omega)]; exact h.M
  · rw [r3 5 (by omega), r10 54 (by omega)]; exact h.X
  · rw [ra 4 (by omega), ra 5 (by omega), ra 6 (by omega), rb 211 (by omega)]; exact h.ch
  · rw [c0, rc]; have := h.E; omega
  · rw [c0, r3 0 (by omega)]
    intro s hs
    rw [c1, c2, c3, c4, rr, rr, rr, rr]
    by_cases e : s = m
    · subst e
      refine ⟨⟨?_, ?_, ?_, ?_⟩, ?_⟩
      · rw [if_pos rfl, if_neg (by omega), if_neg (by omega), if_neg (by omega), if_pos (by omega)]
      · rw [if_pos rfl, if_neg (by omega), if_neg (by omega), if_pos (by omega)]
      · rw [if_pos rfl, if_neg (by omega), if_pos (by omega)]
      · rw [if_pos rfl, if_pos (by omega)]
      · simpa using hb
    · have g := h.ea s (by omega)
      refine ⟨⟨?_, ?_, ?_, ?_⟩, ?_⟩
      · rw [if_neg e, if_neg (by omega), if_neg (by omega), if_neg (by omega), if_neg (by omega)]; exact g.1.1
      · rw [if_neg e, if_neg (by omega), if_neg (by omega), if_neg (by omega), if_neg (by omega)]; exact g.1.2.1
      · rw [if_neg e, if_neg (by omega), if_neg (by omega), if_neg (by omega), if_neg (by omega)]; exact g.1.2.2.1
      · rw [if_neg e, if_neg (by omega), if_neg (by omega), if_neg (by omega), if_neg (by omega)]; exact g.1.2.2.2
      · simpa [e] using g.2
  · rw [ra 12 (by omega), r10 48 (by omega)]; exact h.T
  · rw [ra 12 (by omega), ra 13 (by omega), ra 14 (by omega), ra 15 (by omega), r3 0 (by omega), r3 1 (by omega), rb 213 (by omega)]; exact h.st
  · rw [ra 16 (by omega), r10 49 (by omega)]; exact h.W
  · rw [ra 16 (by omega), ra 17 (by omega), ra 18 (by omega), rb 214 (by omega)]; exact h.wi
  · rw [ra 20 (by omega), r10 50 (by omega)]; exact h.F
  · rw [ra 20 (by omega), ra 21 (by omega), ra 22 (by omega), ra 23 (by omega), r3 1 (by omega), rb 215 (by omega), c0]
    intro s hs
    have g := h.fo s hs
    exact ⟨g.1, by have := g.2.1; omega, g.2.2⟩
  · rw [ra 24 (by omega), r10 51 (by omega)]; exact h.G
  · rw [ra 24 (by omega), ra 25 (by omega), ra 26 (by omega), ra 27 (by omega), r3 0 (by omega), r3 1 (by omega), rb 216 (by omega)]; exact h.de
  · rw [ra 28 (by omega), r10 52 (by omega)]; exact h.H
  · rw [ra 28 (by omega), ra 29 (by omega), ra 30 (by omega), ra 31 (by omega), r3 0 (by omega), r3 1 (by omega), rb 217 (by omega)]; exact h.fu
  · rw [r3 2 (by omega), r3 0 (by omega), r3 1 (by omega)]; exact h.ps
  · rw [r3 2 (by omega)]; intro e; exact absurd e hn
  · rw [r3 2 (by omega)]; exact h.z
theorem DQ.church {a b a' b' : VS} (h : DQ a b) {m : Nat} {x y z : Int} (hm : a 3 3 = m) (hlt : a 3 3 < a 3 0) (hn : a 3 2 ≠ 0) (r3 : ∀ j, j ≠ 3 → a' 3 j = a 3 j) (ra : ∀ k, 6 < k ∧ k ≤ 31 → a' k = a k) (c0 : a' 3 3 = m + 1) (c1 : ∀ i, a' 4 i = if i = m then x else a 4 i) (c2 : ∀ i, a' 5 i = if i = m then y else a 5 i) (c3 : ∀ i, a' 6 i = if i = m then z else a 6 i) (rb : ∀ k, k = 209 ∨ (211 < k ∧ k ≤ 217) → b' k = b k) (r10 : ∀ j, j ≠ 46 → b' 210 j = b 210 j) (rc : b' 210 46 = b 210 46 + 1) (rr : ∀ j, b' 211 j = if j = 108 + 3 * m + 2 then z else if j = 108 + 3 * m + 1 then y else if j = 108 + 3 * m then x else b 211 j) : DQ a' b' := by
  refine ⟨?_, ?_, ?_, ?_, ?_, ?_, ?_, ?_, ?_, ?_, ?_, ?_, ?_, ?_, ?_, ?_, ?_, ?_, ?_, ?_, ?_, ?_⟩
  · rw [r3 0 (by omega), r10 44 (by omega)]; exact h.C
  · rw [r3 1 (by omega), r10 45 (by omega)]; exact h.S
  · rw [r3 2 (by omega), rb 209 (by omega)]; exact h.L
  · rw [c0, rc, r3 0 (by omega)]; have := h.D; omega
  · rw [r3 4 (by omega), r10 53 (by omega)]; exact h.M
  · rw [r3 5 (by omega), r10 54 (by omega)]; exact h.X
  · intro s hs
    rw [c1, c2, c3, rr, rr, rr]
    by_cases e : s = m
    · subst e
      refine ⟨?_, ?_, ?_⟩
      · rw [if_pos rfl, if_neg (by omega), if_neg (by omega), if_pos (by omega)]
      · rw [if_pos rfl, if_neg (by omega), if_pos (by omega)]
      · rw [if_pos rfl, if_pos (by omega)]
    · have g := h.ch s hs
      refine ⟨?_, ?_, ?_⟩
      · rw [if_neg e, if_neg (by omega), if_neg (by omega), if_neg (by omega)]; exact g.1
      · rw [if_neg e, if_neg (by omega), if_neg (by omega), if_neg (by omega)]; exact g.2.1
      · rw [if_neg e, if_neg (by omega), if_neg (by omega), if_neg (by omega)]; exact g.2.2
  · rw [ra 7 (by omega), r10 47 (by omega)]; exact h.E
  · rw [ra 7 (by omega), ra 8 (by omega), ra 9 (by omega), ra 10 (by omega), ra 11 (by omega), r3 0 (by omega), rb 212 (by omega)]; exact h.ea
  · rw [ra 12 (by omega), r10 48 (by omega)]; exact h.T
  · rw [ra 12 (by omega), ra 13 (by omega), ra 14 (by omega), ra 15 (by omega), r3 0 (by omega), r3 1 (by omega), rb 213 (by omega)]; exact h.st
  · rw [ra 16 (by omega), r10 49 (by omega)]; exact h.W
  · rw [ra 16 (by omega), ra 17 (by omega), ra 18 (by omega), rb 214 (by omega)]; exact h.wi
  · rw [ra 20 (by omega), r10 50 (by omega)]; exact h.F
  · rw [ra 20 (by omega), ra 21 (by omega), ra 22 (by omega), ra 23 (by omega), ra 7 (by omega), r3 1 (by omega), rb 215 (by omega)]; exact h.fo
  · rw [ra 24 (by omega), r10 51 (by omega)]; exact h.G
  · rw [ra 24 (by omega), ra 25 (by omega), ra 26 (by omega), ra 27 (by omega), r3 0 (by omega), r3 1 (by omega), rb 216 (by omega)]; exact h.de
  · rw [ra 28 (by omega), r10 52 (by omega)]; exact h.H
  · rw [ra 28 (by omega), ra 29 (by omega), ra 30 (by omega), ra 31 (by omega), r3 0 (by omega), r3 1 (by omega), rb 217 (by omega)]; exact h.fu
  · rw [r3 2 (by omega), r3 0 (by omega), r3 1 (by omega)]; exact h.ps
  · rw [r3 2 (by omega)]; intro e; exact absurd e hn
  · rw [r3 2 (by omega)]; exact h.z
theorem DQ.bay0 {a b a' b' : VS} (h : DQ a b) {x y : Int} (hn : a 3 2 = 0) (r3 : ∀ j, j ≠ 0 → j ≠ 1 → a' 3 j = a 3 j) (ra : ∀ k, 3 < k ∧ k ≤ 31 → a' k = a k) (c0 : a' 3 0 = x) (c1 : a' 3 1 = y) (rb : ∀ k, k = 209 ∨ (210 < k ∧ k ≤ 217) → b' k = b k) (r10 : ∀ j, j ≠ 44 → j ≠ 45 → b' 210 j = b 210 j) (d0 : b' 210 44 = x) (d1 : b' 210 45 = y) (hx : 1 ≤ x ∧ x ≤ 9) (hy : 1 ≤ y ∧ y ≤ 300) (u : VS) (hu : u = v2 a' 3 2 1) (w : VS) (hw : w = v2 b' 209 4 1) : DQ u w := by
  obtain ⟨n1, n2, n3, n4, n5, n6, n7, n8⟩ := h.nl hn
  have u3 : ∀ j, u 3 j = if j = 2 then 1 else a' 3 j := fun j => by rw [hu, v2_eq]; by_cases e : j = 2 <;> simp [e]
  have uk : ∀ k, 3 < k ∧ k ≤ 31 → u k = a k := fun k hk => by rw [hu, v2_row (by omega), ra k hk]
  have w9 : w 209 4 = 1 := by rw [hw, v2_eq, if_pos ⟨rfl, rfl⟩]
  have wk : ∀ k, k ≠ 209 → w k = b' k := fun k hk => by rw [hw, v2_row hk]
  refine ⟨?_, ?_, ?_, ?_, ?_, ?_, ?_, ?_, ?_, ?_, ?_, ?_, ?_, ?_, ?_, ?_, ?_, ?_, ?_, ?_, ?_, ?_⟩
  · rw [u3, if_neg (by omega), c0, wk 210 (by omega), d0]; omega
  · rw [u3, if_neg (by omega), c1, wk 210 (by omega), d1]; omega
  · rw [u3, if_pos rfl, w9]
  · rw [u3, if_neg (by omega), r3 3 (by omega) (by omega), u3, if_neg (by omega), c0, wk 210 (by omega), r10 46 (by omega) (by omega)]; have := h.D; omega
  · rw [u3 4, if_neg (by omega), r3 4 (by omega) (by omega), wk 210 (by omega), r10 53 (by omega) (by omega)]; exact h.M
  · rw [u3 5, if_neg (by omega), r3 5 (by omega) (by omega), wk 210 (by omega), r10 54 (by omega) (by omega)]; exact h.X
  · rw [uk 4 (by omega), uk 5 (by omega), uk 6 (by omega), wk 211 (by omega), rb 211 (by omega)]; exact h.ch
  · rw [uk 7 (by omega), wk 210 (by omega), r10 47 (by omega) (by omega)]; exact h.E
  · rw [uk 7 (by omega), n4]; intro s hs; omega
  · rw [uk 12 (by omega), wk 210 (by omega), r10 48 (by omega) (by omega)]; exact h.T
  · rw [uk 12 (by omega), n5]; intro s hs; omega
  · rw [uk 16 (by omega), wk 210 (by omega), r10 49 (by omega) (by omega)]; exact h.W
  · rw [uk 16 (by omega), uk 17 (by omega), uk 18 (by omega), wk 214 (by omega), rb 214 (by omega)]; exact h.wi
  · rw [uk 20 (by omega), wk 210 (by omega), r10 50 (by omega) (by omega)]; exact h.F
  · rw [uk 20 (by omega), n6]; intro s hs; omega
  · rw [uk 24 (by omega), wk 210 (by omega), r10 51 (by omega) (by omega)]; exact h.G
  · rw [uk 24 (by omega), n7]; intro s hs; omega
  · rw [uk 28 (by omega), wk 210 (by omega), r10 52 (by omega) (by omega)]; exact h.H
  · rw [uk 28 (by omega), n8]; intro s hs; omega
  · intro _; rw [u3, if_neg (by omega), c0, u3, if_neg (by omega), c1]; omega
  · rw [u3, if_pos rfl]; intro e; omega
  · rw [u3, if_pos rfl]; omega
theorem DQ.more {a b : VS} (h : DQ a b) (hp : 1 ≤ a 3 0 ∧ 1 ≤ a 3 1) (u : VS) (hu : u = v2 a 3 2 (a 3 2 + 1)) (w : VS) (hw : w = v2 b 209 4 (b 209 4 + 1)) : DQ u w := by
  have u3 : ∀ j, u 3 j = if j = 2 then a 3 2 + 1 else a 3 j := fun j => by rw [hu, v2_eq]; by_cases e : j = 2 <;> simp [e]
  have uk : ∀ k, 3 < k ∧ k ≤ 31 → u k = a k := fun k hk => by rw [hu, v2_row (by omega)]
  have w9 : w 209 4 = b 209 4 + 1 := by rw [hw, v2_eq, if_pos ⟨rfl, rfl⟩]
  have wk : ∀ k, k ≠ 209 → w k = b k := fun k hk => by rw [hw, v2_row hk]
  have hz := h.z
  refine ⟨?_, ?_, ?_, ?_, ?_, ?_, ?_, ?_, ?_, ?_, ?_, ?_, ?_, ?_, ?_, ?_, ?_, ?_, ?_, ?_, ?_, ?_⟩
  · rw [u3 0, if_neg (by omega), wk 210 (by omega)]; exact h.C
  · rw [u3 1, if_neg (by omega), wk 210 (by omega)]; exact h.S
  · rw [u3, if_pos rfl, w9, h.L]
  · rw [u3 3, if_neg (by omega), u3 0, if_neg (by omega), wk 210 (by omega)]; exact h.D
  · rw [u3 4, if_neg (by omega), wk 210 (by omega)]; exact h.M
  · rw [u3 5, if_neg (by omega), wk 210 (by omega)]; exact h.X
  · rw [uk 4 (by omega), uk 5 (by omega), uk 6 (by omega), wk 211 (by omega)]; exact h.ch
  · rw [uk 7 (by omega), wk 210 (by omega)]; exact h.E
  · rw [uk 7 (by omega), uk 8 (by omega), uk 9 (by omega), uk 10 (by omega), uk 11 (by omega), u3 0, if_neg (by omega), wk 212 (by omega)]; exact h.ea
  · rw [uk 12 (by omega), wk 210 (by omega)]; exact h.T
  · rw [uk 12 (by omega), uk 13 (by omega), uk 14 (by omega), uk 15 (by omega), u3 0, if_neg (by omega), u3 1, if_neg (by omega), wk 213 (by omega)]; exact h.st
  · rw [uk 16 (by omega), wk 210 (by omega)]; exact h.W
  · rw [uk 16 (by omega), uk 17 (by omega), uk 18 (by omega), wk 214 (by omega)]; exact h.wi
  · rw [uk 20 (by omega), wk 210 (by omega)]; exact h.F
  · rw [uk 20 (by omega), uk 21 (by omega), uk 22 (by omega), uk 23 (by omega), uk 7 (by omega), u3 1, if_neg (by omega), wk 215 (by omega)]; exact h.fo
  · rw [uk 24 (by omega), wk 210 (by omega)]; exact h.G
  · rw [uk 24 (by omega), uk 25 (by omega), uk 26 (by omega), uk 27 (by omega), u3 0, if_neg (by omega), u3 1, if_neg (by omega), wk 216 (by omega)]; exact h.de
  · rw [uk 28 (by omega), wk 210 (by omega)]; exact h.H
  · rw [uk 28 (by omega), uk 29 (by omega), uk 30 (by omega), uk 31 (by omega), u3 0, if_neg (by omega), u3 1, if_neg (by omega), wk 217 (by omega)]; exact h.fu
  · intro _; rw [u3, if_neg (by omega), u3, if_neg (by omega)]; exact hp
  · rw [u3, if_pos rfl]; intro e; omega
  · rw [u3, if_pos rfl]; omega
