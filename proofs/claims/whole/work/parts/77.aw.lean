/-! what holds of the run of a bay, apart from machines -/
def acnt (f : Nat → Int) (c : Int) : Nat → Int
  | 0 => 0
  | n + 1 => acnt f c n + (if f n = c then 1 else 0)
theorem acnt_congr {f g : Nat → Int} {c : Int} : ∀ n : Nat, (∀ i, i < n → f i = g i) → acnt f c n = acnt g c n := by
  intro n
  induction n with
  | zero => intro _; rfl
  | succ n ih => intro h; rw [acnt, acnt, ih (fun i hi => h i (by omega)), h n (by omega)]
def PW (P : VS) : Prop :=
  (0 ≤ P 0 0 ∧ P 0 0 ≤ 9) ∧
  (0 ≤ P 0 1 ∧ P 0 1 ≤ P 0 2 ∧ P 0 2 ≤ 300) ∧
  (0 ≤ P 0 3 ∧ P 0 3 ≤ 12) ∧
  (∀ l t : Nat, 0 ≤ P (400 + l) t) ∧
  (∀ e t : Nat, (e : Int) < P 0 3 → (t : Int) < P 0 2 → 0 ≤ P (100 + e) t) ∧
  (∀ c : Nat, (c : Int) < P 0 0 → 0 ≤ P 3 c) ∧
  (0 ≤ P 0 9 ∧ P 0 9 ≤ 5) ∧
  (∀ k : Nat, (k : Int) < P 0 9 → (0 ≤ P 8 k ∧ P 8 k < P 0 2) ∧ (0 ≤ P 9 k ∧ P 9 k < P 0 0) ∧ (1 ≤ P 10 k ∧ P 10 k ≤ 99))
theorem PW.C {P : VS} (h : PW P) : 0 ≤ P 0 0 ∧ P 0 0 ≤ 9 := h.1
theorem PW.T {P : VS} (h : PW P) : 0 ≤ P 0 1 ∧ P 0 1 ≤ P 0 2 ∧ P 0 2 ≤ 300 := h.2.1
theorem PW.E {P : VS} (h : PW P) : 0 ≤ P 0 3 ∧ P 0 3 ≤ 12 := h.2.2.1
theorem PW.fu {P : VS} (h : PW P) : ∀ l t : Nat, 0 ≤ P (400 + l) t := h.2.2.2.1
theorem PW.tk {P : VS} (h : PW P) : ∀ e t : Nat, (e : Int) < P 0 3 → (t : Int) < P 0 2 → 0 ≤ P (100 + e) t := h.2.2.2.2.1
theorem PW.la {P : VS} (h : PW P) : ∀ c : Nat, (c : Int) < P 0 0 → 0 ≤ P 3 c := h.2.2.2.2.2.1
theorem PW.ns {P : VS} (h : PW P) : 0 ≤ P 0 9 ∧ P 0 9 ≤ 5 := h.2.2.2.2.2.2.1
theorem PW.st {P : VS} (h : PW P) : ∀ k : Nat, (k : Int) < P 0 9 → (0 ≤ P 8 k ∧ P 8 k < P 0 2) ∧ (0 ≤ P 9 k ∧ P 9 k < P 0 0) ∧ (1 ≤ P 10 k ∧ P 10 k ≤ 99) := h.2.2.2.2.2.2.2
def AW (P : VS) (t : Nat) (c : Nat) (a : SS) : Prop :=
  (0 ≤ a.1 0 0 ∧ a.1 0 0 ≤ 300) ∧
  (∀ (t' c' : Nat) (x : Int × Int × Int), x ∈ a.2 t' c' → (1 ≤ x.1 ∧ x.1 ≤ 99) ∧ (-1 ≤ x.2.1 ∧ x.2.1 < a.1 0 0) ∧ (-1 ≤ x.2.2 ∧ x.2.2 < P 0 3)) ∧
  (∀ i : Nat, (i : Int) < a.1 0 0 → (0 ≤ a.1 1 i ∧ a.1 1 i < P 0 1) ∧ (0 ≤ a.1 2 i ∧ a.1 2 i < P 0 0) ∧ (1 ≤ a.1 3 i ∧ a.1 3 i ≤ 99) ∧ (-1 ≤ a.1 4 i ∧ a.1 4 i < i) ∧ (-1 ≤ a.1 5 i ∧ a.1 5 i < P 0 3)) ∧
  (∀ i : Nat, (i : Int) < a.1 0 0 → a.1 1 i < t ∨ (a.1 1 i = t ∧ a.1 2 i < c)) ∧
  (∀ i j : Nat, i < j → (j : Int) < a.1 0 0 → a.1 1 i < a.1 1 j ∨ (a.1 1 i = a.1 1 j ∧ a.1 2 i < a.1 2 j)) ∧
  (∀ k : Nat, a.1 12 k = 0 ∨ a.1 12 k = 1) ∧
  (∀ k : Nat, a.1 12 k = 0 → a.1 10 k = -1 ∧ a.1 11 k = 0 ∧ a.1 13 k = -1 ∧ ∀ i : Nat, (i : Int) < a.1 0 0 → a.1 2 i ≠ k) ∧
  (∀ k : Nat, a.1 12 k = 1 → 0 ≤ a.1 10 k ∧ (0 ≤ a.1 13 k ∧ a.1 13 k < a.1 0 0) ∧ a.1 2 (a.1 13 k).toNat = k ∧ ∀ i : Nat, (i : Int) < a.1 13 k → a.1 2 i ≠ k) ∧
  (∀ k : Nat, a.1 14 k = acnt (a.1 2) k (a.1 0 0).toNat) ∧
  (a.1 0 1 = 0 ∨ a.1 0 1 = 1) ∧
  (a.1 0 1 = 0 → a.1 0 0 < 300)
theorem AW.n {P : VS} {t : Nat} {c : Nat} {a : SS} (h : AW P t c a) : 0 ≤ a.1 0 0 ∧ a.1 0 0 ≤ 300 := h.1
theorem AW.du {P : VS} {t : Nat} {c : Nat} {a : SS} (h : AW P t c a) : ∀ (t' c' : Nat) (x : Int × Int × Int), x ∈ a.2 t' c' → (1 ≤ x.1 ∧ x.1 ≤ 99) ∧ (-1 ≤ x.2.1 ∧ x.2.1 < a.1 0 0) ∧ (-1 ≤ x.2.2 ∧ x.2.2 < P 0 3) := h.2.1
theorem AW.st {P : VS} {t : Nat} {c : Nat} {a : SS} (h : AW P t c a) : ∀ i : Nat, (i : Int) < a.1 0 0 → (0 ≤ a.1 1 i ∧ a.1 1 i < P 0 1) ∧ (0 ≤ a.1 2 i ∧ a.1 2 i < P 0 0) ∧ (1 ≤ a.1 3 i ∧ a.1 3 i ≤ 99) ∧ (-1 ≤ a.1 4 i ∧ a.1 4 i < i) ∧ (-1 ≤ a.1 5 i ∧ a.1 5 i < P 0 3) := h.2.2.1
theorem AW.ps {P : VS} {t : Nat} {c : Nat} {a : SS} (h : AW P t c a) : ∀ i : Nat, (i : Int) < a.1 0 0 → a.1 1 i < t ∨ (a.1 1 i = t ∧ a.1 2 i < c) := h.2.2.2.1
theorem AW.od {P : VS} {t : Nat} {c : Nat} {a : SS} (h : AW P t c a) : ∀ i j : Nat, i < j → (j : Int) < a.1 0 0 → a.1 1 i < a.1 1 j ∨ (a.1 1 i = a.1 1 j ∧ a.1 2 i < a.1 2 j) := h.2.2.2.2.1
theorem AW.b {P : VS} {t : Nat} {c : Nat} {a : SS} (h : AW P t c a) : ∀ k : Nat, a.1 12 k = 0 ∨ a.1 12 k = 1 := h.2.2.2.2.2.1
theorem AW.no {P : VS} {t : Nat} {c : Nat} {a : SS} (h : AW P t c a) : ∀ k : Nat, a.1 12 k = 0 → a.1 10 k = -1 ∧ a.1 11 k = 0 ∧ a.1 13 k = -1 ∧ ∀ i : Nat, (i : Int) < a.1 0 0 → a.1 2 i ≠ k := h.2.2.2.2.2.2.1
theorem AW.ye {P : VS} {t : Nat} {c : Nat} {a : SS} (h : AW P t c a) : ∀ k : Nat, a.1 12 k = 1 → 0 ≤ a.1 10 k ∧ (0 ≤ a.1 13 k ∧ a.1 13 k < a.1 0 0) ∧ a.1 2 (a.1 13 k).toNat = k ∧ ∀ i : Nat, (i : Int) < a.1 13 k → a.1 2 i ≠ k := h.2.2.2.2.2.2.2.1
theorem AW.mn {P : VS} {t : Nat} {c : Nat} {a : SS} (h : AW P t c a) : ∀ k : Nat, a.1 14 k = acnt (a.1 2) k (a.1 0 0).toNat := h.2.2.2.2.2.2.2.2.1
theorem AW.ov {P : VS} {t : Nat} {c : Nat} {a : SS} (h : AW P t c a) : a.1 0 1 = 0 ∨ a.1 0 1 = 1 := h.2.2.2.2.2.2.2.2.2.1
theorem AW.nn {P : VS} {t : Nat} {c : Nat} {a : SS} (h : AW P t c a) : a.1 0 1 = 0 → a.1 0 0 < 300 := h.2.2.2.2.2.2.2.2.2.2
theorem AW.of {P : VS} {t c : Nat} {a a' : SS} (h : AW P t c a) (e : ∀ k, k < 6 ∨ 9 < k → a'.1 k = a.1 k) (e2 : a'.2 = a.2) : AW P t c a' := by
  unfold AW at *
  rw [e 0 (by omega), e 1 (by omega), e 2 (by omega), e 3 (by omega), e 4 (by omega), e 5 (by omega), e 10 (by omega), e 11 (by omega), e 12 (by omega), e 13 (by omega), e 14 (by omega), e2]
  exact h
theorem AW.inc {P : VS} {t c : Nat} {a : SS} (h : AW P t c a) {k j : Nat} (hk : 6 ≤ k ∧ k ≤ 9) : AW P t c (ainc a k j) := h.of (fun k' hk' => ainc_row (by omega)) rfl
theorem AW.next {P : VS} {t c c' : Nat} {a : SS} (h : AW P t c a) (hc : c ≤ c') : AW P t c' a := by
  obtain ⟨h1, h2, h3, h4, h5⟩ := h
  refine ⟨h1, h2, h3, fun i hi => ?_, h5⟩
  have := h4 i hi
  omega
theorem AW.succ {P : VS} {t c : Nat} {a : SS} (h : AW P t c a) : AW P (t + 1) 0 a := by
  obtain ⟨h1, h2, h3, h4, h5⟩ := h
  refine ⟨h1, h2, h3, fun i hi => ?_, h5⟩
  have := h4 i hi
  omega
theorem aput_due {a : SS} {t c : Nat} {x : Int × Int × Int} (t' c' : Nat) : (aput a t c x).2 t' c' = if t' = t ∧ c' = c then a.2 t c ++ [x] else a.2 t' c' := by
  unfold aput
  simp only [fset_at]
  by_cases e1 : t' = t
  · subst e1
    by_cases e2 : c' = c
    · subst e2; simp [fset_at]
    · simp [fset_at, e2]
  · simp [e1]
theorem AW.put {P : VS} {t c t' c' : Nat} {a : SS} {x : Int × Int × Int} (h : AW P t c a) (hx : (1 ≤ x.1 ∧ x.1 ≤ 99) ∧ (-1 ≤ x.2.1 ∧ x.2.1 < a.1 0 0) ∧ (-1 ≤ x.2.2 ∧ x.2.2 < P 0 3)) : AW P t c (aput a t' c' x) := by
  obtain ⟨h1, h2, h3⟩ := h
  refine ⟨h1, fun t1 c1 y hy => ?_, h3⟩
  rw [aput_due] at hy
  split at hy
  · rw [List.mem_append] at hy
    rcases hy with hy | hy
    · exact h2 _ _ _ hy
    · rw [List.mem_singleton] at hy
      subst hy
      exact hx
  · exact h2 _ _ _ hy
theorem AW.hear {P : VS} {t c t' l i e : Nat} {a : SS} (hP : PW P) (h : AW P t c a) (hi : (i : Int) < a.1 0 0) (he : (e : Int) < P 0 3) : AW P t c (ahear P a i e t' l) := by
  have hs := h.st i hi
  have hf := hP.fu l t'
  unfold ahear
  split
  · exact h.inc (by omega)
  · split
    · exact h.inc (by omega)
    · refine AW.put (h.inc (by omega)) ?_
      rw [ainc_row (show 0 ≠ 8 by omega)]
      refine ⟨⟨?_, ?_⟩, ⟨?_, ?_⟩, ?_, ?_⟩
      · show 1 ≤ a.1 3 i + P (400 + l) t'
        omega
      · show a.1 3 i + P (400 + l) t' ≤ 99
        omega
      · show (-1 : Int) ≤ (i : Int)
        omega
      · exact hi
      · show (-1 : Int) ≤ (e : Int)
        omega
      · exact he
theorem AW.carry {P : VS} {t c i e : Nat} {a : SS} (hP : PW P) (h : AW P t c a) (hi : (i : Int) < a.1 0 0) (he : (e : Int) < P 0 3) : AW P t c (acarry P a i e) := by
  unfold acarry
  split
  · exact h.inc (by omega)
  · split
    · exact (h.inc (by omega)).inc (by omega)
    · split
      · exact h.inc (by omega)
      · exact h.hear hP hi he
theorem AW.goE {P : VS} {t c i e : Nat} {a : SS} (hP : PW P) (h : AW P t c a) (hi : (i : Int) < a.1 0 0) (he : (e : Int) < P 0 3) : AW P t c (agoE P a i e) := by
  unfold agoE
  split
  · exact (h.inc (by omega)).carry hP (by rw [ainc_row (by omega)]; exact hi) he
  · exact h
theorem AW.goL {P : VS} {t c i : Nat} {a : SS} (hP : PW P) (h : AW P t c a) (hi : (i : Int) < a.1 0 0) : ∀ m : Nat, (m : Int) ≤ P 0 3 → AW P t c (agoL P i m a) := by
  intro m
  induction m with
  | zero => intro _; exact h
  | succ m ih =>
    intro hm
    exact (ih (by omega)).goE hP (by rw [agoL_n]; exact hi) (by omega)
theorem AW.go {P : VS} {t c i : Nat} {a : SS} (hP : PW P) (h : AW P t c a) (hi : (i : Int) < a.1 0 0) : AW P t c (ago P a i) := by
  unfold ago
  split
  · exact h
  · exact h.goL hP hi _ (by have := hP.E; omega)
theorem abest_mem : ∀ (l : List (Int × Int × Int)) (x : Int × Int × Int), abest x l ∈ x :: l := by
  intro l
  induction l with
  | nil => intro x; exact List.mem_cons_self
  | cons y l ih =>
    intro x
    have e : abest x (y :: l) = abest (if x.1 < y.1 then y else x) l := rfl
    rw [e]
    have q := ih (if x.1 < y.1 then y else x)
    rw [List.mem_cons] at q
    rcases q with q | q
    · rw [q]
      split
      · exact List.mem_cons_of_mem _ List.mem_cons_self
      · exact List.mem_cons_self
    · exact List.mem_cons_of_mem _ (List.mem_cons_of_mem _ q)
theorem aring_r2 {P : VS} {a : SS} {t c i : Nat} {x : Int × Int × Int} :
    (aring P a t c x).1 13 i = (if i = c then (if a.1 12 c = 1 then a.1 13 c else a.1 0 0) else a.1 13 i) ∧
    (aring P a t c x).1 14 i = (if i = c then a.1 14 c + 1 else a.1 14 i) := by
  refine ⟨?_, ?_⟩ <;> simp [aring, v2_eq]
theorem AW.ring {P : VS} {t c : Nat} {a : SS} {x : Int × Int × Int} (hP : PW P) (h : AW P t c a) (hn : a.1 0 0 < 300) (ht : (t : Int) < P 0 1) (hc : (c : Int) < P 0 0) (hx : (1 ≤ x.1 ∧ x.1 ≤ 99) ∧ (-1 ≤ x.2.1 ∧ x.2.1 < a.1 0 0) ∧ (-1 ≤ x.2.2 ∧ x.2.2 < P 0 3)) : AW P t (c + 1) (aring P a t c x) := by
  have h0 := h.n
  obtain ⟨N, hN⟩ : ∃ N : Nat, a.1 0 0 = N := ⟨(a.1 0 0).toNat, by omega⟩
  have hNt : (a.1 0 0).toNat = N := by omega
  have r00 : (aring P a t c x).1 0 0 = (N : Int) + 1 := by rw [(aring_r (i := 0)).1, hN]
  have r01 : (aring P a t c x).1 0 1 = (if auw P t c (a.1 0 0 + 1) = 1 ∨ 300 ≤ a.1 0 0 + 1 then 1 else 0) := (aring_r (i := 0)).2.2.1
  have r1 : ∀ i, (aring P a t c x).1 1 i = (if i = N then (t : Int) else a.1 1 i) := fun i => by rw [← hNt]; exact (aring_r (i := i)).2.2.2.1
  have r2 : ∀ i, (aring P a t c x).1 2 i = (if i = N then (c : Int) else a.1 2 i) := fun i => by rw [← hNt]; exact (aring_r (i := i)).2.2.2.2.1
  have r3 : ∀ i, (aring P a t c x).1 3 i = (if i = N then x.1 else a.1 3 i) := fun i => by rw [← hNt]; exact (aring_r (i := i)).2.2.2.2.2.1
  have r4 : ∀ i, (aring P a t c x).1 4 i = (if i = N then x.2.1 else a.1 4 i) := fun i => by rw [← hNt]; exact (aring_r (i := i)).2.2.2.2.2.2.1
  have r5 : ∀ i, (aring P a t c x).1 5 i = (if i = N then x.2.2 else a.1 5 i) := fun i => by rw [← hNt]; exact (aring_r (i := i)).2.2.2.2.2.2.2.1
  have r10 : ∀ i, (aring P a t c x).1 10 i = (if i = c then (t : Int) else a.1 10 i) := fun i => (aring_r (i := i)).2.2.2.2.2.2.2.2.2.2.2.2.1
  have r11 : ∀ i, (aring P a t c x).1 11 i = (if i = c then x.1 else a.1 11 i) := fun i => (aring_r (i := i)).2.2.2.2.2.2.2.2.2.2.2.2.2.1
  have r12 : ∀ i, (aring P a t c x).1 12 i = (if i = c then 1 else a.1 12 i) := fun i => (aring_r (i := i)).2.2.2.2.2.2.2.2.2.2.2.2.2.2
  have r13 : ∀ i, (aring P a t c x).1 13 i = (if i = c then (if a.1 12 c = 1 then a.1 13 c else a.1 0 0) else a.1 13 i) := fun i => (aring_r2 (i := i)).1
  have r14 : ∀ i, (aring P a t c x).1 14 i = (if i = c then a.1 14 c + 1 else a.1 14 i) := fun i => (aring_r2 (i := i)).2
  have rd : (aring P a t c x).2 = a.2 := rfl
  obtain ⟨h1, h2, h3, h4, h5, h6, h7, h8, h9, h10, h11⟩ := h
  rw [hN] at hx hn h0
  refine ⟨?_, ?_, ?_, ?_, ?_, ?_, ?_, ?_, ?_, ?_, ?_⟩
  · rw [r00]; omega
  · intro t' c' y hy
    rw [rd] at hy
    have q := h2 t' c' y hy
    rw [hN] at q
    rw [r00]
    omega
  · intro i hi
    rw [r00] at hi
    rw [r1, r2, r3, r4, r5]
    by_cases q : i = N
    · rw [if_pos q, if_pos q, if_pos q, if_pos q, if_pos q]
      omega
    · rw [if_neg q, if_neg q, if_neg q, if_neg q, if_neg q]
      exact h3 i (by omega)
  · intro i hi
    rw [r00] at hi
    rw [r1, r2]
    by_cases q : i = N
    · rw [if_pos q, if_pos q]; omega
    · rw [if_neg q, if_neg q]
      have := h4 i (by omega)
      omega
  · intro i j hij hj
    rw [r00] at hj
    rw [r1, r1, r2, r2, if_neg (show ¬ i = N by omega), if_neg (show ¬ i = N by omega)]
    by_cases q : j = N
    · rw [if_pos q, if_pos q]
      have := h4 i (by omega)
      omega
    · rw [if_neg q, if_neg q]
      exact h5 i j hij (by omega)
  · intro k
    rw [r12]
    split
    · exact Or.inr rfl
    · exact h6 k
  · intro k hk
    rw [r12] at hk
    split at hk
    · omega
    · rename_i q
      obtain ⟨g1, g2, g3, g4⟩ := h7 k hk
      rw [r10, r11, r13, if_neg q, if_neg q, if_neg q]
      refine ⟨g1, g2, g3, fun i hi => ?_⟩
      rw [r00] at hi
      rw [r2]
      split
      · omega
      · exact g4 i (by omega)
  · intro k hk
    rw [r12] at hk
    rw [r00, r10, r13]
    by_cases q : k = c
    · rw [if_pos q, if_pos q]
      subst q
      by_cases q2 : a.1 12 k = 1
      · rw [if_pos q2]
        obtain ⟨g1, g2, g3, g4⟩ := h8 k q2
        refine ⟨by omega, by omega, ?_, fun i hi => ?_⟩
        · rw [r2, if_neg (by omega)]; exact g3
        · rw [r2, if_neg (by omega)]; exact g4 i hi
      · rw [if_neg q2, hN]
        have g := (h7 k (by have := h6 k; omega)).2.2.2
        refine ⟨by omega, by omega, ?_, fun i hi => ?_⟩
        · rw [r2, if_pos (by omega)]
        · rw [r2, if_neg (by omega)]; exact g i (by omega)
    · rw [if_neg q] at hk
      rw [if_neg q, if_neg q]
      obtain ⟨g1, g2, g3, g4⟩ := h8 k hk
      refine ⟨by omega, by omega, ?_, fun i hi => ?_⟩
      · rw [r2, if_neg (by omega)]; exact g3
      · rw [r2, if_neg (by omega)]; exact g4 i hi
  · intro k
    rw [r14, r00, show ((N : Int) + 1).toNat = N + 1 by omega, acnt, acnt_congr (g := a.1 2) N (fun i hi => by rw [r2, if_neg (by omega)]), r2, if_pos rfl]
    have g := h9 k
    rw [hNt] at g
    by_cases q : k = c
    · subst q
      rw [if_pos rfl, if_pos rfl, g]
    · rw [if_neg q, if_neg (by omega), g]
      omega
  · rw [r01]
    split
    · exact Or.inr rfl
    · exact Or.inl rfl
  · rw [r01, r00]
    intro q
    split at q
    · omega
    · rename_i q2
      apply Int.lt_of_not_ge
      intro q3
      exact q2 (Or.inr (by omega))
theorem AW.vis {P : VS} {t c : Nat} {a : SS} (hP : PW P) (h : AW P t c a) (ho : a.1 0 1 = 0) (ht : (t : Int) < P 0 1) (hc : (c : Int) < P 0 0) : AW P t (c + 1) (avis P a t c) := by
  have hl : ∀ r k, AW P t (c + 1) (alose a r k) := fun r k => by
    have g : AW P t c (alose a r k) := h.of (fun k' hk' => by
      show v2 (v2 a.1 6 7 (a.1 6 7 + r)) 6 k (a.1 6 k + 1) k' = _
      rw [v2_row (by omega), v2_row (by omega)]) rfl
    exact g.next (by omega)
  unfold avis
  split
  · exact h.next (by omega)
  · rename_i x r hd
    unfold avisL
    split
    · exact hl _ _
    · split
      · exact hl _ _
      · split
        · exact hl _ _
        · have e0 : (aoth a r.length).1 0 = a.1 0 := by
            show v2 a.1 6 7 (a.1 6 7 + (r.length : Int)) 0 = _
            rw [v2_row (by omega)]
          have h1 : AW P t c (aoth a r.length) := h.of (fun k' hk' => by
            show v2 a.1 6 7 (a.1 6 7 + (r.length : Int)) k' = _
            rw [v2_row (by omega)]) rfl
          have hb := h.du t c (abest x r) (by rw [hd]; exact abest_mem r x)
          have h2 := h1.ring hP (x := abest x r) (by rw [e0]; exact h.nn ho) ht hc (by rw [e0]; exact hb)
          refine h2.go hP ?_
          rw [(aring_r (i := 0)).1, e0]
          have := h.n
          omega
theorem AW.step {P : VS} {t c : Nat} {a : SS} (hP : PW P) (h : AW P t c a) (ht : (t : Int) < P 0 1) (hc : (c : Int) < P 0 0) : AW P t (c + 1) (astep P a t c) := by
  unfold astep
  split
  · exact h.next (by omega)
  · rename_i q
    exact h.vis hP (by omega) ht hc
theorem AW.inL {P : VS} {t : Nat} {a : SS} (hP : PW P) (h : AW P t 0 a) (ht : (t : Int) < P 0 1) : ∀ k : Nat, (k : Int) ≤ P 0 0 → AW P t k (ainL P t k a) := by
  intro k
  induction k with
  | zero => intro _; exact h
  | succ k ih => intro hk; exact (ih (by omega)).step hP ht (by omega)
theorem AW.outL {P : VS} {a : SS} (hP : PW P) (h : AW P 0 0 a) : ∀ k : Nat, (k : Int) ≤ P 0 1 → AW P k 0 (aoutL P k a) := by
  intro k
  induction k with
  | zero => intro _; exact h
  | succ k ih => intro hk; exact ((ih (by omega)).inL hP (by omega) _ (by have := hP.C; omega)).succ
theorem AW.nil (P : VS) : AW P 0 0 anil := by
  refine ⟨?_, ?_, ?_, ?_, ?_, ?_, ?_, ?_, ?_, ?_, ?_⟩
  · show (0 : Int) ≤ 0 ∧ (0 : Int) ≤ 300
    omega
  · intro t c x hx
    have hx : x ∈ ([] : List (Int × Int × Int)) := hx
    simp at hx
  · intro i hi
    have hi : (i : Int) < 0 := hi
    omega
  · intro i hi
    have hi : (i : Int) < 0 := hi
    omega
  · intro i j _ hj
    have hj : (j : Int) < 0 := hj
    omega
  · intro k
    exact Or.inl rfl
  · intro k _
    refine ⟨rfl, rfl, rfl, fun i hi => ?_⟩
    have hi : (i : Int) < 0 := hi
    omega
  · intro k hk
    have hk : (0 : Int) = 1 := hk
    omega
  · intro k
    rfl
  · exact Or.inl rfl
  · intro _
    show (0 : Int) < 300
    omega
theorem AW.begL {P : VS} (hP : PW P) : ∀ m : Nat, (m : Int) ≤ P 0 9 → AW P 0 0 (abegL P m anil) := by
  intro m
  induction m with
  | zero => intro _; exact AW.nil P
  | succ m ih =>
    intro hm
    refine (ih (by omega)).put ?_
    have q := hP.st m (by omega)
    have qE := hP.E
    rw [abegL_1]
    show (1 ≤ P 10 m ∧ P 10 m ≤ 99) ∧ ((-1 : Int) ≤ -1 ∧ (-1 : Int) < 0) ∧ ((-1 : Int) ≤ -1 ∧ (-1 : Int) < P 0 3)
    omega
theorem AW.beg {P : VS} (hP : PW P) : AW P 0 0 (abeg P) := AW.begL hP _ (by have := hP.ns; omega)
theorem AW.run {P : VS} (hP : PW P) : AW P (P 0 1).toNat 0 (arun P) := (AW.beg hP).outL hP _ (by have := hP.T; omega)
