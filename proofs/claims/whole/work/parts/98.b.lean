
/-! words -/
theorem wf_succ (t : Nat → Int) : ∀ (m : Nat) (k w : Int) (p : Nat), wfold t (m + 1) k w p = if 11 < k + m then -1 else 27 * wfold t m k w p + t (p + m) - 96 := by
  intro m
  induction m with
  | zero =>
    intro k w p
    rw [wfold, wfold, wfold]
    simp
  | succ m ih =>
    intro k w p
    rw [wfold, ih (k + 1) _ (p + 1), wfold, show p + 1 + m = p + (m + 1) by omega]
    by_cases z : 11 < k + ((m + 1 : Nat) : Int)
    · rw [if_pos z, if_pos (by omega)]
    · rw [if_neg z, if_neg (by omega)]
def LTR (t : Nat → Int) (p m : Nat) : Prop := ∀ j : Nat, p ≤ j → j < p + m → 97 ≤ t j ∧ t j ≤ 122
theorem wf_nn (t : Nat → Int) (p : Nat) : ∀ m : Nat, m ≤ 12 → LTR t p m → 0 ≤ wfold t m 0 0 p ∧ (0 < m → 0 < wfold t m 0 0 p) := by
  intro m
  induction m with
  | zero => intro _ _; rw [wfold]; omega
  | succ m ih =>
    intro h1 h2
    have a := ih (by omega) (fun j x y => h2 j x (by omega))
    have b := h2 (p + m) (by omega) (by omega)
    rw [wf_succ, if_neg (by omega)]
    omega
theorem wf_big (t : Nat → Int) (p m : Nat) (h : 12 < m) : wfold t m 0 0 p = -1 := by
  obtain ⟨q, rfl⟩ : ∃ q, m = q + 1 := ⟨m - 1, by omega⟩
  rw [wf_succ, if_pos (by omega)]
def rnum : List Int → Int
  | [] => 0
  | c :: R => 27 * rnum R + c - 96
def rlet : List Int → Prop
  | [] => True
  | c :: R => (97 ≤ c ∧ c ≤ 122) ∧ rlet R
def rmat (t : Nat → Int) (p : Nat) : List Int → Prop
  | [] => True
  | c :: R => t (p + R.length) = c ∧ rmat t p R
theorem rnum_nn : ∀ R : List Int, rlet R → 0 ≤ rnum R := by
  intro R
  induction R with
  | nil => intro _; exact Int.le_refl _
  | cons c R ih =>
    intro h
    have a := ih h.2
    have b := h.1
    rw [rnum]
    omega
theorem wf_iff (t : Nat → Int) (p : Nat) : ∀ (R : List Int) (m : Nat), rlet R → LTR t p m → (wfold t m 0 0 p = rnum R ↔ m ≤ 12 ∧ m = R.length ∧ rmat t p R) := by
  intro R
  induction R with
  | nil =>
    intro m _ h
    rw [rnum]
    by_cases z : m ≤ 12
    · have a := wf_nn t p m z h
      constructor
      · intro e
        exact ⟨z, by show m = 0; omega, trivial⟩
      · intro e
        have e2 : m = 0 := e.2.1
        rw [e2, wfold]
    · rw [wf_big t p m (by omega)]
      constructor
      · intro e; omega
      · intro e; omega
  | cons c R ih =>
    intro m hr h
    have a := rnum_nn R hr.2
    have b := hr.1
    rw [rnum, rmat]
    by_cases z : m ≤ 12
    · cases m with
      | zero =>
        rw [wfold]
        constructor
        · intro e; omega
        · intro e
          have e2 : 0 = R.length + 1 := e.2.1
          omega
      | succ m =>
        have h' : LTR t p m := fun j x y => h j x (by omega)
        have ih' := ih m hr.2 h'
        have g := wf_nn t p m (by omega) h'
        have l := h (p + m) (by omega) (by omega)
        rw [wf_succ, if_neg (by omega)]
        constructor
        · intro e
          have e1 : wfold t m 0 0 p = rnum R := by omega
          obtain ⟨i1, i2, i3⟩ := ih'.mp e1
          refine ⟨z, by rw [List.length_cons]; omega, ?_, i3⟩
          rw [← i2]
          omega
        · intro e
          obtain ⟨_, e1, e2, e3⟩ := e
          rw [List.length_cons] at e1
          have e4 : m = R.length := by omega
          rw [ih'.mpr ⟨by omega, e4, e3⟩]
          rw [← e4] at e2
          omega
    · rw [wf_big t p m (by omega)]
      constructor
      · intro e; omega
      · intro e; omega
/-- class and reference stand at the same token -/
def RT (a b : VS) (n : Nat) : Prop :=
  (TK a b n) ∧
  (a 2 1 = b 203 12) ∧
  (a 2 1 ≠ 0 → a 2 2 = b 203 13) ∧
  (a 2 1 = 0 → a 2 2 = -1) ∧
  (a 2 5 = b 203 8) ∧
  (a 2 6 = b 203 9) ∧
  (a 2 7 = b 203 7) ∧
  (0 ≤ a 2 6 ∧ a 2 6 ≤ a 2 7 ∧ a 2 7 ≤ n) ∧
  (a 2 5 ≠ 0 → a 2 6 < a 2 7) ∧
  (a 2 5 = 2 → a 2 8 = min 1000000 (b 203 10) ∧ 0 ≤ b 203 10) ∧
  (a 2 5 = 1 → b 203 11 = wfold (a 1) (a 2 7 - a 2 6).toNat 0 0 (a 2 6).toNat ∧ LTR (a 1) (a 2 6).toNat (a 2 7 - a 2 6).toNat)
theorem RT.tk {a b : VS} {n : Nat} (h : RT a b n) : TK a b n := h.1
theorem RT.f {a b : VS} {n : Nat} (h : RT a b n) : a 2 1 = b 203 12 := h.2.1
theorem RT.p {a b : VS} {n : Nat} (h : RT a b n) : a 2 1 ≠ 0 → a 2 2 = b 203 13 := h.2.2.1
theorem RT.z {a b : VS} {n : Nat} (h : RT a b n) : a 2 1 = 0 → a 2 2 = -1 := h.2.2.2.1
theorem RT.k {a b : VS} {n : Nat} (h : RT a b n) : a 2 5 = b 203 8 := h.2.2.2.2.1
theorem RT.e {a b : VS} {n : Nat} (h : RT a b n) : a 2 6 = b 203 9 := h.2.2.2.2.2.1
theorem RT.t {a b : VS} {n : Nat} (h : RT a b n) : a 2 7 = b 203 7 := h.2.2.2.2.2.2.1
theorem RT.lo {a b : VS} {n : Nat} (h : RT a b n) : 0 ≤ a 2 6 ∧ a 2 6 ≤ a 2 7 ∧ a 2 7 ≤ n := h.2.2.2.2.2.2.2.1
theorem RT.st {a b : VS} {n : Nat} (h : RT a b n) : a 2 5 ≠ 0 → a 2 6 < a 2 7 := h.2.2.2.2.2.2.2.2.1
theorem RT.nu {a b : VS} {n : Nat} (h : RT a b n) : a 2 5 = 2 → a 2 8 = min 1000000 (b 203 10) ∧ 0 ≤ b 203 10 := h.2.2.2.2.2.2.2.2.2.1
theorem RT.wo {a b : VS} {n : Nat} (h : RT a b n) : a 2 5 = 1 → b 203 11 = wfold (a 1) (a 2 7 - a 2 6).toNat 0 0 (a 2 6).toNat ∧ LTR (a 1) (a 2 6).toNat (a 2 7 - a 2 6).toNat := h.2.2.2.2.2.2.2.2.2.2
theorem RT.of {a b a' b' : VS} {n : Nat} (h : RT a b n) (e1 : a' 1 = a 1) (e2 : a' 2 = a 2) (e3 : b' 203 = b 203) (e8 : b' 208 = b 208) : RT a' b' n := by
  refine ⟨h.tk.of e1 (by rw [e2]) e8 (by rw [e3]), ?_, ?_, ?_, ?_, ?_, ?_, ?_, ?_, ?_, ?_⟩
  · rw [e2, e3]; exact h.f
  · rw [e2, e3]; exact h.p
  · rw [e2]; exact h.z
  · rw [e2, e3]; exact h.k
  · rw [e2, e3]; exact h.e
  · rw [e2, e3]; exact h.t
  · rw [e2]; exact h.lo
  · rw [e2]; exact h.st
  · rw [e2, e3]; exact h.nu
  · rw [e2, e3, e1]; exact h.wo
theorem RT.word {a b : VS} {n : Nat} (h : RT a b n) (R : List Int) (hr : rlet R) (W : Int) (hW : rnum R = W) (hl : R.length ≤ 12) {p : Nat} (hp : a 2 6 = p) : (a 2 5 = 1 ∧ b 203 11 = W) ↔ (a 2 5 = 1 ∧ (R.length : Int) = a 2 7 - a 2 6 ∧ rmat (a 1) p R) := by
  constructor
  · intro ⟨x, y⟩
    obtain ⟨w1, w2⟩ := h.wo x
    rw [w1, hp, toN, ← hW] at y
    rw [hp, toN] at w2
    obtain ⟨_, g1, g2⟩ := (wf_iff (a 1) p R _ hr w2).mp y
    have := h.lo
    exact ⟨x, by omega, g2⟩
  · intro ⟨x, y, z⟩
    obtain ⟨w1, w2⟩ := h.wo x
    rw [hp, toN] at w1 w2
    have := h.lo
    refine ⟨x, ?_⟩
    rw [w1, ← hW]
    exact (wf_iff (a 1) p R _ hr w2).mpr ⟨by omega, by omega, z⟩
theorem at_0 {a b : VS} {n : Nat} (h : RT a b n) : cl_isAt0 a = if a 2 5 = 1 ∧ b 203 11 = 1510 then 1 else 0 := by
  obtain ⟨p, hp⟩ := Int.eq_ofNat_of_zero_le h.lo.1
  have key := h.word ([121, 97, 98] : List Int) (by simp [rlet]) 1510 (by simp [rnum]) (by decide) hp
  simp only [rmat, List.length_cons, List.length_nil, Nat.zero_add, Nat.reduceAdd, and_true] at key
  unfold cl_isAt0
  rw [hp] at key ⊢
  rw [show ((p : Int) + 0).toNat = p + 0 from rfl]
  rw [show ((p : Int) + 1).toNat = p + 1 from rfl]
  rw [show ((p : Int) + 2).toNat = p + 2 from rfl]
  by_cases g : a 2 5 = 1 ∧ b 203 11 = 1510
  · rw [if_pos g]
    have k := key.mp g
    rw [if_pos (by omega), if_pos (by omega), if_pos (by omega), if_pos (by omega), if_pos (by omega)]
  · rw [if_neg g]
    have k : ¬ _ := fun y => g (key.mpr y)
    repeat' split
    all_goals first | rfl | (exfalso; omega)

theorem at_1 {a b : VS} {n : Nat} (h : RT a b n) : cl_isAt1 a = if a 2 5 = 1 ∧ b 203 11 = 34791381541 then 1 else 0 := by
  obtain ⟨p, hp⟩ := Int.eq_ofNat_of_zero_le h.lo.1
  have key := h.word ([115, 101, 104, 99, 114, 117, 104, 99] : List Int) (by simp [rlet]) 34791381541 (by simp [rnum]) (by decide) hp
  simp only [rmat, List.length_cons, List.length_nil, Nat.zero_add, Nat.reduceAdd, and_true] at key
  unfold cl_isAt1
  rw [hp] at key ⊢
  rw [show ((p : Int) + 0).toNat = p + 0 from rfl]
  rw [show ((p : Int) + 1).toNat = p + 1 from rfl]
  rw [show ((p : Int) + 2).toNat = p + 2 from rfl]
  rw [show ((p : Int) + 3).toNat = p + 3 from rfl]
  rw [show ((p : Int) + 4).toNat = p + 4 from rfl]
  rw [show ((p : Int) + 5).toNat = p + 5 from rfl]
  rw [show ((p : Int) + 6).toNat = p + 6 from rfl]
  rw [show ((p : Int) + 7).toNat = p + 7 from rfl]
  by_cases g : a 2 5 = 1 ∧ b 203 11 = 34791381541
  · rw [if_pos g]
    have k := key.mp g
    rw [if_pos (by omega), if_pos (by omega), if_pos (by omega), if_pos (by omega), if_pos (by omega), if_pos (by omega), if_pos (by omega), if_pos (by omega), if_pos (by omega), if_pos (by omega)]
  · rw [if_neg g]
    have k : ¬ _ := fun y => g (key.mpr y)
    repeat' split
    all_goals first | rfl | (exfalso; omega)

theorem at_2 {a b : VS} {n : Nat} (h : RT a b n) : cl_isAt2 a = if a 2 5 = 1 ∧ b 203 11 = 7434633727 then 1 else 0 := by
  obtain ⟨p, hp⟩ := Int.eq_ofNat_of_zero_le h.lo.1
  have key := h.word ([115, 100, 110, 111, 99, 101, 115] : List Int) (by simp [rlet]) 7434633727 (by simp [rnum]) (by decide) hp
  simp only [rmat, List.length_cons, List.length_nil, Nat.zero_add, Nat.reduceAdd, and_true] at key
  unfold cl_isAt2
  rw [hp] at key ⊢
  rw [show ((p : Int) + 0).toNat = p + 0 from rfl]
  rw [show ((p : Int) + 1).toNat = p + 1 from rfl]
  rw [show ((p : Int) + 2).toNat = p + 2 from rfl]
  rw [show ((p : Int) + 3).toNat = p + 3 from rfl]
  rw [show ((p : Int) + 4).toNat = p + 4 from rfl]
  rw [show ((p : Int) + 5).toNat = p + 5 from rfl]
  rw [show ((p : Int) + 6).toNat = p + 6 from rfl]
  by_cases g : a 2 5 = 1 ∧ b 203 11 = 7434633727
  · rw [if_pos g]
    have k := key.mp g
    rw [if_pos (by omega), if_pos (by omega), if_pos (by omega), if_pos (by omega), if_pos (by omega), if_pos (by omega), if_pos (by omega), if_pos (by omega), if_pos (by omega)]
  · rw [if_neg g]
    have k : ¬ _ := fun y => g (key.mpr y)
    repeat' split
    all_goals first | rfl | (exfalso; omega)

theorem at_3 {a b : VS} {n : Nat} (h : RT a b n) : cl_isAt3 a = if a 2 5 = 1 ∧ b 203 11 = 47724803 then 1 else 0 := by
  obtain ⟨p, hp⟩ := Int.eq_ofNat_of_zero_le h.lo.1
  have key := h.word ([104, 99, 114, 117, 104, 99] : List Int) (by simp [rlet]) 47724803 (by simp [rnum]) (by decide) hp
  simp only [rmat, List.length_cons, List.length_nil, Nat.zero_add, Nat.reduceAdd, and_true] at key
  unfold cl_isAt3
  rw [hp] at key ⊢
  rw [show ((p : Int) + 0).toNat = p + 0 from rfl]
  rw [show ((p : Int) + 1).toNat = p + 1 from rfl]
  rw [show ((p : Int) + 2).toNat = p + 2 from rfl]
  rw [show ((p : Int) + 3).toNat = p + 3 from rfl]
  rw [show ((p : Int) + 4).toNat = p + 4 from rfl]
  rw [show ((p : Int) + 5).toNat = p + 5 from rfl]
  by_cases g : a 2 5 = 1 ∧ b 203 11 = 47724803
  · rw [if_pos g]
    have k := key.mp g
    rw [if_pos (by omega), if_pos (by omega), if_pos (by omega), if_pos (by omega), if_pos (by omega), if_pos (by omega), if_pos (by omega), if_pos (by omega)]
  · rw [if_neg g]
    have k : ¬ _ := fun y => g (key.mpr y)
    repeat' split
    all_goals first | rfl | (exfalso; omega)

theorem at_4 {a b : VS} {n : Nat} (h : RT a b n) : cl_isAt4 a = if a 2 5 = 1 ∧ b 203 11 = 237470 then 1 else 0 := by
  obtain ⟨p, hp⟩ := Int.eq_ofNat_of_zero_le h.lo.1
  have key := h.word ([101, 116, 97, 108] : List Int) (by simp [rlet]) 237470 (by simp [rnum]) (by decide) hp
  simp only [rmat, List.length_cons, List.length_nil, Nat.zero_add, Nat.reduceAdd, and_true] at key
  unfold cl_isAt4
  rw [hp] at key ⊢
  rw [show ((p : Int) + 0).toNat = p + 0 from rfl]
  rw [show ((p : Int) + 1).toNat = p + 1 from rfl]
  rw [show ((p : Int) + 2).toNat = p + 2 from rfl]
  rw [show ((p : Int) + 3).toNat = p + 3 from rfl]
  by_cases g : a 2 5 = 1 ∧ b 203 11 = 237470
  · rw [if_pos g]
    have k := key.mp g
    rw [if_pos (by omega), if_pos (by omega), if_pos (by omega), if_pos (by omega), if_pos (by omega), if_pos (by omega)]
  · rw [if_neg g]
    have k : ¬ _ := fun y => g (key.mpr y)
    repeat' split
    all_goals first | rfl | (exfalso; omega)

theorem at_5 {a b : VS} {n : Nat} (h : RT a b n) : cl_isAt5 a = if a 2 5 = 1 ∧ b 203 11 = 8868856 then 1 else 0 := by
  obtain ⟨p, hp⟩ := Int.eq_ofNat_of_zero_le h.lo.1
  have key := h.word ([100, 117, 111, 114, 112] : List Int) (by simp [rlet]) 8868856 (by simp [rnum]) (by decide) hp
  simp only [rmat, List.length_cons, List.length_nil, Nat.zero_add, Nat.reduceAdd, and_true] at key
  unfold cl_isAt5
  rw [hp] at key ⊢
  rw [show ((p : Int) + 0).toNat = p + 0 from rfl]
  rw [show ((p : Int) + 1).toNat = p + 1 from rfl]
  rw [show ((p : Int) + 2).toNat = p + 2 from rfl]
  rw [show ((p : Int) + 3).toNat = p + 3 from rfl]
  rw [show ((p : Int) + 4).toNat = p + 4 from rfl]
  by_cases g : a 2 5 = 1 ∧ b 203 11 = 8868856
  · rw [if_pos g]
    have k := key.mp g
    rw [if_pos (by omega), if_pos (by omega), if_pos (by omega), if_pos (by omega), if_pos (by omega), if_pos (by omega), if_pos (by omega)]
  · rw [if_neg g]
    have k : ¬ _ := fun y => g (key.mpr y)
    repeat' split
    all_goals first | rfl | (exfalso; omega)

theorem at_6 {a b : VS} {n : Nat} (h : RT a b n) : cl_isAt6 a = if a 2 5 = 1 ∧ b 203 11 = 2682144 then 1 else 0 := by
  obtain ⟨p, hp⟩ := Int.eq_ofNat_of_zero_le h.lo.1
  have key := h.word ([114, 101, 103, 97, 101] : List Int) (by simp [rlet]) 2682144 (by simp [rnum]) (by decide) hp
  simp only [rmat, List.length_cons, List.length_nil, Nat.zero_add, Nat.reduceAdd, and_true] at key
  unfold cl_isAt6
  rw [hp] at key ⊢
  rw [show ((p : Int) + 0).toNat = p + 0 from rfl]
  rw [show ((p : Int) + 1).toNat = p + 1 from rfl]
  rw [show ((p : Int) + 2).toNat = p + 2 from rfl]
  rw [show ((p : Int) + 3).toNat = p + 3 from rfl]
  rw [show ((p : Int) + 4).toNat = p + 4 from rfl]
  by_cases g : a 2 5 = 1 ∧ b 203 11 = 2682144
  · rw [if_pos g]
    have k := key.mp g
    rw [if_pos (by omega), if_pos (by omega), if_pos (by omega), if_pos (by omega), if_pos (by omega), if_pos (by omega), if_pos (by omega)]
  · rw [if_neg g]
    have k : ¬ _ := fun y => g (key.mpr y)
    repeat' split
    all_goals first | rfl | (exfalso; omega)

theorem at_7 {a b : VS} {n : Nat} (h : RT a b n) : cl_isAt7 a = if a 2 5 = 1 ∧ b 203 11 = 9678763 then 1 else 0 := by
  obtain ⟨p, hp⟩ := Int.eq_ofNat_of_zero_le h.lo.1
  have key := h.word ([115, 116, 115, 101, 114] : List Int) (by simp [rlet]) 9678763 (by simp [rnum]) (by decide) hp
  simp only [rmat, List.length_cons, List.length_nil, Nat.zero_add, Nat.reduceAdd, and_true] at key
  unfold cl_isAt7
  rw [hp] at key ⊢
  rw [show ((p : Int) + 0).toNat = p + 0 from rfl]
  rw [show ((p : Int) + 1).toNat = p + 1 from rfl]
  rw [show ((p : Int) + 2).toNat = p + 2 from rfl]
  rw [show ((p : Int) + 3).toNat = p + 3 from rfl]
  rw [show ((p : Int) + 4).toNat = p + 4 from rfl]
  by_cases g : a 2 5 = 1 ∧ b 203 11 = 9678763
  · rw [if_pos g]
    have k := key.mp g
    rw [if_pos (by omega), if_pos (by omega), if_pos (by omega), if_pos (by omega), if_pos (by omega), if_pos (by omega), if_pos (by omega)]
  · rw [if_neg g]
    have k : ¬ _ := fun y => g (key.mpr y)
    repeat' split
    all_goals first | rfl | (exfalso; omega)

theorem at_8 {a b : VS} {n : Nat} (h : RT a b n) : cl_isAt8 a = if a 2 5 = 1 ∧ b 203 11 = 3690 then 1 else 0 := by
  obtain ⟨p, hp⟩ := Int.eq_ofNat_of_zero_le h.lo.1
  have key := h.word ([114, 97, 101] : List Int) (by simp [rlet]) 3690 (by simp [rnum]) (by decide) hp
  simp only [rmat, List.length_cons, List.length_nil, Nat.zero_add, Nat.reduceAdd, and_true] at key
  unfold cl_isAt8
  rw [hp] at key ⊢
  rw [show ((p : Int) + 0).toNat = p + 0 from rfl]
  rw [show ((p : Int) + 1).toNat = p + 1 from rfl]
  rw [show ((p : Int) + 2).toNat = p + 2 from rfl]
  by_cases g : a 2 5 = 1 ∧ b 203 11 = 3690
  · rw [if_pos g]
    have k := key.mp g
    rw [if_pos (by omega), if_pos (by omega), if_pos (by omega), if_pos (by omega), if_pos (by omega)]
  · rw [if_neg g]
    have k : ¬ _ := fun y => g (key.mpr y)
    repeat' split
    all_goals first | rfl | (exfalso; omega)

theorem at_9 {a b : VS} {n : Nat} (h : RT a b n) : cl_isAt9 a = if a 2 5 = 1 ∧ b 203 11 = 411 then 1 else 0 := by
  obtain ⟨p, hp⟩ := Int.eq_ofNat_of_zero_le h.lo.1
  have key := h.word ([102, 111] : List Int) (by simp [rlet]) 411 (by simp [rnum]) (by decide) hp
  simp only [rmat, List.length_cons, List.length_nil, Nat.zero_add, Nat.reduceAdd, and_true] at key
  unfold cl_isAt9
  rw [hp] at key ⊢
  rw [show ((p : Int) + 0).toNat = p + 0 from rfl]
  rw [show ((p : Int) + 1).toNat = p + 1 from rfl]
  by_cases g : a 2 5 = 1 ∧ b 203 11 = 411
  · rw [if_pos g]
    have k := key.mp g
    rw [if_pos (by omega), if_pos (by omega), if_pos (by omega), if_pos (by omega)]
  · rw [if_neg g]
    have k : ¬ _ := fun y => g (key.mpr y)
    repeat' split
    all_goals first | rfl | (exfalso; omega)

theorem at_10 {a b : VS} {n : Nat} (h : RT a b n) : cl_isAt10 a = if a 2 5 = 1 ∧ b 203 11 = 10656676 then 1 else 0 := by
  obtain ⟨p, hp⟩ := Int.eq_ofNat_of_zero_le h.lo.1
  have key := h.word ([115, 101, 107, 97, 116] : List Int) (by simp [rlet]) 10656676 (by simp [rnum]) (by decide) hp
  simp only [rmat, List.length_cons, List.length_nil, Nat.zero_add, Nat.reduceAdd, and_true] at key
  unfold cl_isAt10
  rw [hp] at key ⊢
  rw [show ((p : Int) + 0).toNat = p + 0 from rfl]
  rw [show ((p : Int) + 1).toNat = p + 1 from rfl]
  rw [show ((p : Int) + 2).toNat = p + 2 from rfl]
  rw [show ((p : Int) + 3).toNat = p + 3 from rfl]
  rw [show ((p : Int) + 4).toNat = p + 4 from rfl]
  by_cases g : a 2 5 = 1 ∧ b 203 11 = 10656676
  · rw [if_pos g]
    have k := key.mp g
    rw [if_pos (by omega), if_pos (by omega), if_pos (by omega), if_pos (by omega), if_pos (by omega), if_pos (by omega), if_pos (by omega)]
  · rw [if_neg g]
    have k : ¬ _ := fun y => g (key.mpr y)
    repeat' split
    all_goals first | rfl | (exfalso; omega)

theorem at_11 {a b : VS} {n : Nat} (h : RT a b n) : cl_isAt11 a = if a 2 5 = 1 ∧ b 203 11 = 778957 then 1 else 0 := by
  obtain ⟨p, hp⟩ := Int.eq_ofNat_of_zero_le h.lo.1
  have key := h.word ([103, 110, 111, 108, 97] : List Int) (by simp [rlet]) 778957 (by simp [rnum]) (by decide) hp
  simp only [rmat, List.length_cons, List.length_nil, Nat.zero_add, Nat.reduceAdd, and_true] at key
  unfold cl_isAt11
  rw [hp] at key ⊢
  rw [show ((p : Int) + 0).toNat = p + 0 from rfl]
  rw [show ((p : Int) + 1).toNat = p + 1 from rfl]
  rw [show ((p : Int) + 2).toNat = p + 2 from rfl]
  rw [show ((p : Int) + 3).toNat = p + 3 from rfl]
  rw [show ((p : Int) + 4).toNat = p + 4 from rfl]
  by_cases g : a 2 5 = 1 ∧ b 203 11 = 778957
  · rw [if_pos g]
    have k := key.mp g
    rw [if_pos (by omega), if_pos (by omega), if_pos (by omega), if_pos (by omega), if_pos (by omega), if_pos (by omega), if_pos (by omega)]
  · rw [if_neg g]
    have k : ¬ _ := fun y => g (key.mpr y)
    repeat' split
    all_goals first | rfl | (exfalso; omega)

theorem at_12 {a b : VS} {n : Nat} (h : RT a b n) : cl_isAt12 a = if a 2 5 = 1 ∧ b 203 11 = 488582165 then 1 else 0 := by
  obtain ⟨p, hp⟩ := Int.eq_ofNat_of_zero_le h.lo.1
  have key := h.word ([116, 115, 110, 105, 97, 103, 97] : List Int) (by simp [rlet]) 488582165 (by simp [rnum]) (by decide) hp
  simp only [rmat, List.length_cons, List.length_nil, Nat.zero_add, Nat.reduceAdd, and_true] at key
  unfold cl_isAt12
  rw [hp] at key ⊢
  rw [show ((p : Int) + 0).toNat = p + 0 from rfl]
  rw [show ((p : Int) + 1).toNat = p + 1 from rfl]
  rw [show ((p : Int) + 2).toNat = p + 2 from rfl]
  rw [show ((p : Int) + 3).toNat = p + 3 from rfl]
  rw [show ((p : Int) + 4).toNat = p + 4 from rfl]
  rw [show ((p : Int) + 5).toNat = p + 5 from rfl]
  rw [show ((p : Int) + 6).toNat = p + 6 from rfl]
  by_cases g : a 2 5 = 1 ∧ b 203 11 = 488582165
  · rw [if_pos g]
    have k := key.mp g
    rw [if_pos (by omega), if_pos (by omega), if_pos (by omega), if_pos (by omega), if_pos (by omega), if_pos (by omega), if_pos (by omega), if_pos (by omega), if_pos (by omega)]
  · rw [if_neg g]
    have k : ¬ _ := fun y => g (key.mpr y)
    repeat' split
    all_goals first | rfl | (exfalso; omega)

theorem at_13 {a b : VS} {n : Nat} (h : RT a b n) : cl_isAt13 a = if a 2 5 = 1 ∧ b 203 11 = 16308991 then 1 else 0 := by
  obtain ⟨p, hp⟩ := Int.eq_ofNat_of_zero_le h.lo.1
  have key := h.word ([115, 115, 111, 114, 99, 97] : List Int) (by simp [rlet]) 16308991 (by simp [rnum]) (by decide) hp
  simp only [rmat, List.length_cons, List.length_nil, Nat.zero_add, Nat.reduceAdd, and_true] at key
  unfold cl_isAt13
  rw [hp] at key ⊢
  rw [show ((p : Int) + 0).toNat = p + 0 from rfl]
  rw [show ((p : Int) + 1).toNat = p + 1 from rfl]
  rw [show ((p : Int) + 2).toNat = p + 2 from rfl]
  rw [show ((p : Int) + 3).toNat = p + 3 from rfl]
  rw [show ((p : Int) + 4).toNat = p + 4 from rfl]
  rw [show ((p : Int) + 5).toNat = p + 5 from rfl]
  by_cases g : a 2 5 = 1 ∧ b 203 11 = 16308991
  · rw [if_pos g]
    have k := key.mp g
    rw [if_pos (by omega), if_pos (by omega), if_pos (by omega), if_pos (by omega), if_pos (by omega), if_pos (by omega), if_pos (by omega), if_pos (by omega)]
  · rw [if_neg g]
    have k : ¬ _ := fun y => g (key.mpr y)
    repeat' split
    all_goals first | rfl | (exfalso; omega)

theorem at_14 {a b : VS} {n : Nat} (h : RT a b n) : cl_isAt14 a = if a 2 5 = 1 ∧ b 203 11 = 459652 then 1 else 0 := by
  obtain ⟨p, hp⟩ := Int.eq_ofNat_of_zero_le h.lo.1
  have key := h.word ([100, 110, 105, 119] : List Int) (by simp [rlet]) 459652 (by simp [rnum]) (by decide) hp
  simp only [rmat, List.length_cons, List.length_nil, Nat.zero_add, Nat.reduceAdd, and_true] at key
  unfold cl_isAt14
  rw [hp] at key ⊢
  rw [show ((p : Int) + 0).toNat = p + 0 from rfl]
  rw [show ((p : Int) + 1).toNat = p + 1 from rfl]
  rw [show ((p : Int) + 2).toNat = p + 2 from rfl]
  rw [show ((p : Int) + 3).toNat = p + 3 from rfl]
  by_cases g : a 2 5 = 1 ∧ b 203 11 = 459652
  · rw [if_pos g]
    have k := key.mp g
    rw [if_pos (by omega), if_pos (by omega), if_pos (by omega), if_pos (by omega), if_pos (by omega), if_pos (by omega)]
  · rw [if_neg g]
    have k : ¬ _ := fun y => g (key.mpr y)
    repeat' split
    all_goals first | rfl | (exfalso; omega)

theorem at_15 {a b : VS} {n : Nat} (h : RT a b n) : cl_isAt15 a = if a 2 5 = 1 ∧ b 203 11 = 47 then 1 else 0 := by
  obtain ⟨p, hp⟩ := Int.eq_ofNat_of_zero_le h.lo.1
  have key := h.word ([116, 97] : List Int) (by simp [rlet]) 47 (by simp [rnum]) (by decide) hp
  simp only [rmat, List.length_cons, List.length_nil, Nat.zero_add, Nat.reduceAdd, and_true] at key
  unfold cl_isAt15
  rw [hp] at key ⊢
  rw [show ((p : Int) + 0).toNat = p + 0 from rfl]
  rw [show ((p : Int) + 1).toNat = p + 1 from rfl]
  by_cases g : a 2 5 = 1 ∧ b 203 11 = 47
  · rw [if_pos g]
    have k := key.mp g
    rw [if_pos (by omega), if_pos (by omega), if_pos (by omega), if_pos (by omega)]
  · rw [if_neg g]
    have k : ¬ _ := fun y => g (key.mpr y)
    repeat' split
    all_goals first | rfl | (exfalso; omega)

theorem at_16 {a b : VS} {n : Nat} (h : RT a b n) : cl_isAt16 a = if a 2 5 = 1 ∧ b 203 11 = 4786 then 1 else 0 := by
  obtain ⟨p, hp⟩ := Int.eq_ofNat_of_zero_le h.lo.1
  have key := h.word ([103, 111, 102] : List Int) (by simp [rlet]) 4786 (by simp [rnum]) (by decide) hp
  simp only [rmat, List.length_cons, List.length_nil, Nat.zero_add, Nat.reduceAdd, and_true] at key
  unfold cl_isAt16
  rw [hp] at key ⊢
  rw [show ((p : Int) + 0).toNat = p + 0 from rfl]
  rw [show ((p : Int) + 1).toNat = p + 1 from rfl]
  rw [show ((p : Int) + 2).toNat = p + 2 from rfl]
  by_cases g : a 2 5 = 1 ∧ b 203 11 = 4786
  · rw [if_pos g]
    have k := key.mp g
    rw [if_pos (by omega), if_pos (by omega), if_pos (by omega), if_pos (by omega), if_pos (by omega)]
  · rw [if_neg g]
    have k : ¬ _ := fun y => g (key.mpr y)
    repeat' split
    all_goals first | rfl | (exfalso; omega)

theorem at_17 {a b : VS} {n : Nat} (h : RT a b n) : cl_isAt17 a = if a 2 5 = 1 ∧ b 203 11 = 419 then 1 else 0 := by
  obtain ⟨p, hp⟩ := Int.eq_ofNat_of_zero_le h.lo.1
  have key := h.word ([110, 111] : List Int) (by simp [rlet]) 419 (by simp [rnum]) (by decide) hp
  simp only [rmat, List.length_cons, List.length_nil, Nat.zero_add, Nat.reduceAdd, and_true] at key
  unfold cl_isAt17
  rw [hp] at key ⊢
  rw [show ((p : Int) + 0).toNat = p + 0 from rfl]
  rw [show ((p : Int) + 1).toNat = p + 1 from rfl]
  by_cases g : a 2 5 = 1 ∧ b 203 11 = 419
  · rw [if_pos g]
    have k := key.mp g
    rw [if_pos (by omega), if_pos (by omega), if_pos (by omega), if_pos (by omega)]
  · rw [if_neg g]
    have k : ¬ _ := fun y => g (key.mpr y)
    repeat' split
    all_goals first | rfl | (exfalso; omega)

theorem at_18 {a b : VS} {n : Nat} (h : RT a b n) : cl_isAt18 a = if a 2 5 = 1 ∧ b 203 11 = 131638 then 1 else 0 := by
  obtain ⟨p, hp⟩ := Int.eq_ofNat_of_zero_le h.lo.1
  have key := h.word ([109, 111, 114, 102] : List Int) (by simp [rlet]) 131638 (by simp [rnum]) (by decide) hp
  simp only [rmat, List.length_cons, List.length_nil, Nat.zero_add, Nat.reduceAdd, and_true] at key
  unfold cl_isAt18
  rw [hp] at key ⊢
  rw [show ((p : Int) + 0).toNat = p + 0 from rfl]
  rw [show ((p : Int) + 1).toNat = p + 1 from rfl]
  rw [show ((p : Int) + 2).toNat = p + 2 from rfl]
  rw [show ((p : Int) + 3).toNat = p + 3 from rfl]
  by_cases g : a 2 5 = 1 ∧ b 203 11 = 131638
  · rw [if_pos g]
    have k := key.mp g
    rw [if_pos (by omega), if_pos (by omega), if_pos (by omega), if_pos (by omega), if_pos (by omega), if_pos (by omega)]
  · rw [if_neg g]
    have k : ¬ _ := fun y => g (key.mpr y)
    repeat' split
    all_goals first | rfl | (exfalso; omega)

theorem at_19 {a b : VS} {n : Nat} (h : RT a b n) : cl_isAt19 a = if a 2 5 = 1 ∧ b 203 11 = 555 then 1 else 0 := by
  obtain ⟨p, hp⟩ := Int.eq_ofNat_of_zero_le h.lo.1
  have key := h.word ([111, 116] : List Int) (by simp [rlet]) 555 (by simp [rnum]) (by decide) hp
  simp only [rmat, List.length_cons, List.length_nil, Nat.zero_add, Nat.reduceAdd, and_true] at key
  unfold cl_isAt19
  rw [hp] at key ⊢
  rw [show ((p : Int) + 0).toNat = p + 0 from rfl]
  rw [show ((p : Int) + 1).toNat = p + 1 from rfl]
  by_cases g : a 2 5 = 1 ∧ b 203 11 = 555
  · rw [if_pos g]
    have k := key.mp g
    rw [if_pos (by omega), if_pos (by omega), if_pos (by omega), if_pos (by omega)]
  · rw [if_neg g]
    have k : ¬ _ := fun y => g (key.mpr y)
    repeat' split
    all_goals first | rfl | (exfalso; omega)

theorem at_20 {a b : VS} {n : Nat} (h : RT a b n) : cl_isAt20 a = if a 2 5 = 1 ∧ b 203 11 = 82410 then 1 else 0 := by
  obtain ⟨p, hp⟩ := Int.eq_ofNat_of_zero_le h.lo.1
  have key := h.word ([102, 97, 101, 100] : List Int) (by simp [rlet]) 82410 (by simp [rnum]) (by decide) hp
  simp only [rmat, List.length_cons, List.length_nil, Nat.zero_add, Nat.reduceAdd, and_true] at key
  unfold cl_isAt20
  rw [hp] at key ⊢
  rw [show ((p : Int) + 0).toNat = p + 0 from rfl]
  rw [show ((p : Int) + 1).toNat = p + 1 from rfl]
  rw [show ((p : Int) + 2).toNat = p + 2 from rfl]
  rw [show ((p : Int) + 3).toNat = p + 3 from rfl]
  by_cases g : a 2 5 = 1 ∧ b 203 11 = 82410
  · rw [if_pos g]
    have k := key.mp g
    rw [if_pos (by omega), if_pos (by omega), if_pos (by omega), if_pos (by omega), if_pos (by omega), if_pos (by omega)]
  · rw [if_neg g]
    have k : ¬ _ := fun y => g (key.mpr y)
    repeat' split
    all_goals first | rfl | (exfalso; omega)

theorem at_21 {a b : VS} {n : Nat} (h : RT a b n) : cl_isAt21 a = if a 2 5 = 1 ∧ b 203 11 = 2633401731 then 1 else 0 := by
  obtain ⟨p, hp⟩ := Int.eq_ofNat_of_zero_le h.lo.1
  have key := h.word ([108, 97, 114, 101, 110, 117, 102] : List Int) (by simp [rlet]) 2633401731 (by simp [rnum]) (by decide) hp
  simp only [rmat, List.length_cons, List.length_nil, Nat.zero_add, Nat.reduceAdd, and_true] at key
  unfold cl_isAt21
  rw [hp] at key ⊢
  rw [show ((p : Int) + 0).toNat = p + 0 from rfl]
  rw [show ((p : Int) + 1).toNat = p + 1 from rfl]
  rw [show ((p : Int) + 2).toNat = p + 2 from rfl]
  rw [show ((p : Int) + 3).toNat = p + 3 from rfl]
  rw [show ((p : Int) + 4).toNat = p + 4 from rfl]
  rw [show ((p : Int) + 5).toNat = p + 5 from rfl]
  rw [show ((p : Int) + 6).toNat = p + 6 from rfl]
  by_cases g : a 2 5 = 1 ∧ b 203 11 = 2633401731
  · rw [if_pos g]
    have k := key.mp g
    rw [if_pos (by omega), if_pos (by omega), if_pos (by omega), if_pos (by omega), if_pos (by omega), if_pos (by omega), if_pos (by omega), if_pos (by omega), if_pos (by omega)]
  · rw [if_neg g]
    have k : ¬ _ := fun y => g (key.mpr y)
    repeat' split
    all_goals first | rfl | (exfalso; omega)

theorem at_22 {a b : VS} {n : Nat} (h : RT a b n) : cl_isAt22 a = if a 2 5 = 1 ∧ b 203 11 = 283291417 then 1 else 0 := by
  obtain ⟨p, hp⟩ := Int.eq_ofNat_of_zero_le h.lo.1
  have key := h.word ([115, 116, 114, 97, 116, 115] : List Int) (by simp [rlet]) 283291417 (by simp [rnum]) (by decide) hp
  simp only [rmat, List.length_cons, List.length_nil, Nat.zero_add, Nat.reduceAdd, and_true] at key
  unfold cl_isAt22
  rw [hp] at key ⊢
  rw [show ((p : Int) + 0).toNat = p + 0 from rfl]
  rw [show ((p : Int) + 1).toNat = p + 1 from rfl]
  rw [show ((p : Int) + 2).toNat = p + 2 from rfl]
  rw [show ((p : Int) + 3).toNat = p + 3 from rfl]
  rw [show ((p : Int) + 4).toNat = p + 4 from rfl]
  rw [show ((p : Int) + 5).toNat = p + 5 from rfl]
  by_cases g : a 2 5 = 1 ∧ b 203 11 = 283291417
  · rw [if_pos g]
    have k := key.mp g
    rw [if_pos (by omega), if_pos (by omega), if_pos (by omega), if_pos (by omega), if_pos (by omega), if_pos (by omega), if_pos (by omega), if_pos (by omega)]
  · rw [if_neg g]
    have k : ¬ _ := fun y => g (key.mpr y)
    repeat' split
    all_goals first | rfl | (exfalso; omega)

theorem at_23 {a b : VS} {n : Nat} (h : RT a b n) : cl_isAt23 a = if a 2 5 = 1 ∧ b 203 11 = 168984 then 1 else 0 := by
  obtain ⟨p, hp⟩ := Int.eq_ofNat_of_zero_le h.lo.1
  have key := h.word ([114, 117, 111, 104] : List Int) (by simp [rlet]) 168984 (by simp [rnum]) (by decide) hp
  simp only [rmat, List.length_cons, List.length_nil, Nat.zero_add, Nat.reduceAdd, and_true] at key
  unfold cl_isAt23
  rw [hp] at key ⊢
  rw [show ((p : Int) + 0).toNat = p + 0 from rfl]
  rw [show ((p : Int) + 1).toNat = p + 1 from rfl]
  rw [show ((p : Int) + 2).toNat = p + 2 from rfl]
  rw [show ((p : Int) + 3).toNat = p + 3 from rfl]
  by_cases g : a 2 5 = 1 ∧ b 203 11 = 168984
  · rw [if_pos g]
    have k := key.mp g
    rw [if_pos (by omega), if_pos (by omega), if_pos (by omega), if_pos (by omega), if_pos (by omega), if_pos (by omega)]
  · rw [if_neg g]
    have k : ¬ _ := fun y => g (key.mpr y)
    repeat' split
    all_goals first | rfl | (exfalso; omega)
