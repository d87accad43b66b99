
/-! the search for the least set, apart from machines -/
theorem bt_b (x : Int) (c : Int) : bt x c = 0 ∨ bt x c = 1 := by
  unfold bt
  omega
theorem bt_ext12 {x y : Int} (hx : 0 ≤ x ∧ x < 4096) (hy : 0 ≤ y ∧ y < 4096) (h : ∀ c : Nat, c < 12 → bt x c = bt y c) : x = y := by
  obtain ⟨a, rfl⟩ : ∃ a : Nat, x = a := ⟨x.toNat, by omega⟩
  obtain ⟨b, rfl⟩ : ∃ b : Nat, y = b := ⟨y.toNat, by omega⟩
  have : a = b := by
    apply Nat.eq_of_testBit_eq
    intro i
    by_cases q : i < 12
    · have := h i q
      rw [bt_test, bt_test] at this
      by_cases q1 : a.testBit i = true <;> by_cases q2 : b.testBit i = true <;> simp_all
    · have p : 2 ^ 12 ≤ 2 ^ i := Nat.pow_le_pow_right (by omega) (by omega)
      rw [Nat.testBit_lt_two_pow (show a < 2 ^ i by omega), Nat.testBit_lt_two_pow (show b < 2 ^ i by omega)]
  rw [this]
def dsj (T M : Int) : Prop := ∀ i : Nat, i < 12 → bt T i = 1 → bt M i = 0
def sub5 (T S : Int) : Prop := ∀ i : Nat, i < 12 → bt T i = 1 → bt S i = 1
theorem sub5_le {T S : Int} (hT : 0 ≤ T ∧ T < 4096) (hS : 0 ≤ S ∧ S < 4096) (h : sub5 T S) : T ≤ S := by
  obtain ⟨a, rfl⟩ : ∃ a : Nat, T = a := ⟨T.toNat, by omega⟩
  obtain ⟨b, rfl⟩ : ∃ b : Nat, S = b := ⟨S.toNat, by omega⟩
  have e : a &&& b = a := by
    apply Nat.eq_of_testBit_eq
    intro i
    rw [Nat.testBit_and]
    by_cases q : a.testBit i = true
    · have i12 : i < 12 := by
        rcases Nat.lt_or_ge i 12 with y | y
        · exact y
        · have p : 2 ^ 12 ≤ 2 ^ i := Nat.pow_le_pow_right (by omega) y
          rw [Nat.testBit_lt_two_pow (show a < 2 ^ i by omega)] at q
          exact absurd q (by decide)
      have := h i i12 (by rw [bt_test, if_pos q])
      rw [bt_test] at this
      by_cases z : b.testBit i = true
      · simp [q, z]
      · rw [if_neg z] at this; omega
    · simp [q]
  have := Nat.and_le_right (n := a) (m := b)
  omega
theorem popc_le {T : Int} {N : Nat} (hN : N ≤ 12) (hT : 0 ≤ T ∧ T < (2 : Int) ^ N) : popc T ≤ N := by
  have z : ∀ i : Nat, N ≤ i → bt T i = 0 := fun i hi => by
    obtain ⟨a, rfl⟩ : ∃ a : Nat, T = a := ⟨T.toNat, by omega⟩
    have p : 2 ^ N ≤ 2 ^ i := Nat.pow_le_pow_right (by omega) hi
    have e : ((2 ^ N : Nat) : Int) = (2 : Int) ^ N := by simp
    rw [bt_test, Nat.testBit_lt_two_pow (show a < 2 ^ i by omega)]
    rfl
  have b0 := bt_b T 0
  have b1 := bt_b T 1
  have b2 := bt_b T 2
  have b3 := bt_b T 3
  have b4 := bt_b T 4
  have b5 := bt_b T 5
  have b6 := bt_b T 6
  have b7 := bt_b T 7
  have b8 := bt_b T 8
  have b9 := bt_b T 9
  have b10 := bt_b T 10
  have b11 := bt_b T 11
  have c0 : N ≤ 0 → bt T 0 = 0 := z 0
  have c1 : N ≤ 1 → bt T 1 = 0 := z 1
  have c2 : N ≤ 2 → bt T 2 = 0 := z 2
  have c3 : N ≤ 3 → bt T 3 = 0 := z 3
  have c4 : N ≤ 4 → bt T 4 = 0 := z 4
  have c5 : N ≤ 5 → bt T 5 = 0 := z 5
  have c6 : N ≤ 6 → bt T 6 = 0 := z 6
  have c7 : N ≤ 7 → bt T 7 = 0 := z 7
  have c8 : N ≤ 8 → bt T 8 = 0 := z 8
  have c9 : N ≤ 9 → bt T 9 = 0 := z 9
  have c10 : N ≤ 10 → bt T 10 = 0 := z 10
  have c11 : N ≤ 11 → bt T 11 = 0 := z 11
  have d : ∀ (x : Int) (m : Nat), (x = 0 ∨ x = 1) → (N ≤ m → x = 0) → x ≤ (if m < N then 1 else 0) := fun x m h1 h2 => by
    split
    · omega
    · have := h2 (by omega); omega
  have d0 := d _ 0 b0 c0
  have d1 := d _ 1 b1 c1
  have d2 := d _ 2 b2 c2
  have d3 := d _ 3 b3 c3
  have d4 := d _ 4 b4 c4
  have d5 := d _ 5 b5 c5
  have d6 := d _ 6 b6 c6
  have d7 := d _ 7 b7 c7
  have d8 := d _ 8 b8 c8
  have d9 := d _ 9 b9 c9
  have d10 := d _ 10 b10 c10
  have d11 := d _ 11 b11 c11
  clear b0 b1 b2 b3 b4 b5 b6 b7 b8 b9 b10 b11 c0 c1 c2 c3 c4 c5 c6 c7 c8 c9 c10 c11 d z
  unfold popc
  have : N = 0 ∨ N = 1 ∨ N = 2 ∨ N = 3 ∨ N = 4 ∨ N = 5 ∨ N = 6 ∨ N = 7 ∨ N = 8 ∨ N = 9 ∨ N = 10 ∨ N = 11 ∨ N = 12 := by omega
  rcases this with rfl | rfl | rfl | rfl | rfl | rfl | rfl | rfl | rfl | rfl | rfl | rfl | rfl <;> simp at d0 d1 d2 d3 d4 d5 d6 d7 d8 d9 d10 d11 <;> omega
theorem popc_sub {T S : Int} (hT : 0 ≤ T ∧ T < 4096) (hS : 0 ≤ S ∧ S < 4096) (h : sub5 T S) (hp : popc S ≤ popc T) : T = S := by
  have le : ∀ i : Nat, i < 12 → bt T i ≤ bt S i := fun i hi => by
    rcases bt_b T i with q | q
    · rcases bt_b S i with z | z <;> omega
    · have := h i hi q
      omega
  have l0 : bt T 0 ≤ bt S 0 := le 0 (by omega)
  have l1 : bt T 1 ≤ bt S 1 := le 1 (by omega)
  have l2 : bt T 2 ≤ bt S 2 := le 2 (by omega)
  have l3 : bt T 3 ≤ bt S 3 := le 3 (by omega)
  have l4 : bt T 4 ≤ bt S 4 := le 4 (by omega)
  have l5 : bt T 5 ≤ bt S 5 := le 5 (by omega)
  have l6 : bt T 6 ≤ bt S 6 := le 6 (by omega)
  have l7 : bt T 7 ≤ bt S 7 := le 7 (by omega)
  have l8 : bt T 8 ≤ bt S 8 := le 8 (by omega)
  have l9 : bt T 9 ≤ bt S 9 := le 9 (by omega)
  have l10 : bt T 10 ≤ bt S 10 := le 10 (by omega)
  have l11 : bt T 11 ≤ bt S 11 := le 11 (by omega)
  unfold popc at hp
  refine bt_ext12 hT hS (fun c hc => ?_)
  have : c = 0 ∨ c = 1 ∨ c = 2 ∨ c = 3 ∨ c = 4 ∨ c = 5 ∨ c = 6 ∨ c = 7 ∨ c = 8 ∨ c = 9 ∨ c = 10 ∨ c = 11 := by omega
  rcases this with rfl | rfl | rfl | rfl | rfl | rfl | rfl | rfl | rfl | rfl | rfl | rfl
  · show bt T 0 = bt S 0; omega
  · show bt T 1 = bt S 1; omega
  · show bt T 2 = bt S 2; omega
  · show bt T 3 = bt S 3; omega
  · show bt T 4 = bt S 4; omega
  · show bt T 5 = bt S 5; omega
  · show bt T 6 = bt S 6; omega
  · show bt T 7 = bt S 7; omega
  · show bt T 8 = bt S 8; omega
  · show bt T 9 = bt S 9; omega
  · show bt T 10 = bt S 10; omega
  · show bt T 11 = bt S 11; omega
theorem popc_setb {s : Int} {j : Nat} (hs : 0 ≤ s ∧ s < 4096) (hj : j < 12) (h0 : bt s j = 0) : popc (setb s j) = popc s + 1 := by
  have e : ∀ i : Nat, bt (setb s j) i = if j = i then 1 else bt s i := fun i => bt_setb hs hj
  have e0 : bt (setb s j) 0 = if j = 0 then 1 else bt s 0 := e 0
  have e1 : bt (setb s j) 1 = if j = 1 then 1 else bt s 1 := e 1
  have e2 : bt (setb s j) 2 = if j = 2 then 1 else bt s 2 := e 2
  have e3 : bt (setb s j) 3 = if j = 3 then 1 else bt s 3 := e 3
  have e4 : bt (setb s j) 4 = if j = 4 then 1 else bt s 4 := e 4
  have e5 : bt (setb s j) 5 = if j = 5 then 1 else bt s 5 := e 5
  have e6 : bt (setb s j) 6 = if j = 6 then 1 else bt s 6 := e 6
  have e7 : bt (setb s j) 7 = if j = 7 then 1 else bt s 7 := e 7
  have e8 : bt (setb s j) 8 = if j = 8 then 1 else bt s 8 := e 8
  have e9 : bt (setb s j) 9 = if j = 9 then 1 else bt s 9 := e 9
  have e10 : bt (setb s j) 10 = if j = 10 then 1 else bt s 10 := e 10
  have e11 : bt (setb s j) 11 = if j = 11 then 1 else bt s 11 := e 11
  unfold popc
  rw [e0, e1, e2, e3, e4, e5, e6, e7, e8, e9, e10, e11]
  have : j = 0 ∨ j = 1 ∨ j = 2 ∨ j = 3 ∨ j = 4 ∨ j = 5 ∨ j = 6 ∨ j = 7 ∨ j = 8 ∨ j = 9 ∨ j = 10 ∨ j = 11 := by omega
  rcases this with q | q | q | q | q | q | q | q | q | q | q | q
  · have h0 : bt s 0 = 0 := by rw [q] at h0; exact h0
    rw [q, h0]; simp; omega
  · have h0 : bt s 1 = 0 := by rw [q] at h0; exact h0
    rw [q, h0]; simp; omega
  · have h0 : bt s 2 = 0 := by rw [q] at h0; exact h0
    rw [q, h0]; simp; omega
  · have h0 : bt s 3 = 0 := by rw [q] at h0; exact h0
    rw [q, h0]; simp; omega
  · have h0 : bt s 4 = 0 := by rw [q] at h0; exact h0
    rw [q, h0]; simp; omega
  · have h0 : bt s 5 = 0 := by rw [q] at h0; exact h0
    rw [q, h0]; simp; omega
  · have h0 : bt s 6 = 0 := by rw [q] at h0; exact h0
    rw [q, h0]; simp; omega
  · have h0 : bt s 7 = 0 := by rw [q] at h0; exact h0
    rw [q, h0]; simp; omega
  · have h0 : bt s 8 = 0 := by rw [q] at h0; exact h0
    rw [q, h0]; simp; omega
  · have h0 : bt s 9 = 0 := by rw [q] at h0; exact h0
    rw [q, h0]; simp; omega
  · have h0 : bt s 10 = 0 := by rw [q] at h0; exact h0
    rw [q, h0]; simp; omega
  · have h0 : bt s 11 = 0 := by rw [q] at h0; exact h0
    rw [q, h0]; simp
theorem pow_le12 {N : Nat} (hN : N ≤ 12) : (1 : Int) ≤ (2 : Int) ^ N ∧ (2 : Int) ^ N ≤ 4096 := by
  have : N = 0 ∨ N = 1 ∨ N = 2 ∨ N = 3 ∨ N = 4 ∨ N = 5 ∨ N = 6 ∨ N = 7 ∨ N = 8 ∨ N = 9 ∨ N = 10 ∨ N = 11 ∨ N = 12 := by omega
  rcases this with rfl | rfl | rfl | rfl | rfl | rfl | rfl | rfl | rfl | rfl | rfl | rfl | rfl <;> omega
/-- the answer of a search: the smallest good set apart from M, the least of these -/
def LSS (good : Int → Prop) (N : Nat) (M : Int) (r : Int) : Prop :=
  (r = -1 ∧ ∀ T : Int, 0 ≤ T → T < (2 : Int) ^ N → dsj T M → ¬ good T) ∨
  ((0 ≤ r ∧ r < (2 : Int) ^ N) ∧ dsj r M ∧ good r ∧ ∀ T : Int, 0 ≤ T → T < (2 : Int) ^ N → dsj T M → good T → popc r < popc T ∨ (popc r = popc T ∧ r ≤ T))
theorem LSS.uniq {good : Int → Prop} {N : Nat} {M r r' : Int} (h : LSS good N M r) (h' : LSS good N M r') : r = r' := by
  rcases h with ⟨a1, a2⟩ | ⟨a1, a2, a3, a4⟩
  · rcases h' with ⟨b1, b2⟩ | ⟨b1, b2, b3, b4⟩
    · omega
    · exact absurd b3 (a2 r' b1.1 b1.2 b2)
  · rcases h' with ⟨b1, b2⟩ | ⟨b1, b2, b3, b4⟩
    · exact absurd a3 (b2 r a1.1 a1.2 a2)
    · have x := a4 r' b1.1 b1.2 b2 b3
      have y := b4 r a1.1 a1.2 a2 a3
      omega
def SI (good : Int → Prop) (N : Nat) (M : Int) (O : Nat → Int) (k s : Int) : Prop :=
  (∀ T : Int, 0 ≤ T → T < (2 : Int) ^ N → dsj T M → good T → k < popc T ∨ (popc T = k ∧ s ≤ T)) ∧
  (∀ S : Int, 0 ≤ S → S < (2 : Int) ^ N → dsj S M → good S → ∃ T : Nat, O T = 1 ∧ (T : Int) < (2 : Int) ^ N ∧ sub5 T S ∧ ((popc T = k ∧ s ≤ T) ∨ popc T = k + 1)) ∧
  (∀ T : Nat, O T = 1 → (T : Int) < (2 : Int) ^ N → dsj T M)
theorem SI.a {good : Int → Prop} {N : Nat} {M : Int} {O : Nat → Int} {k s : Int} (h : SI good N M O k s) : ∀ T : Int, 0 ≤ T → T < (2 : Int) ^ N → dsj T M → good T → k < popc T ∨ (popc T = k ∧ s ≤ T) := h.1
theorem SI.b {good : Int → Prop} {N : Nat} {M : Int} {O : Nat → Int} {k s : Int} (h : SI good N M O k s) : ∀ S : Int, 0 ≤ S → S < (2 : Int) ^ N → dsj S M → good S → ∃ T : Nat, O T = 1 ∧ (T : Int) < (2 : Int) ^ N ∧ sub5 T S ∧ ((popc T = k ∧ s ≤ T) ∨ popc T = k + 1) := h.2.1
theorem SI.c {good : Int → Prop} {N : Nat} {M : Int} {O : Nat → Int} {k s : Int} (h : SI good N M O k s) : ∀ T : Nat, O T = 1 → (T : Int) < (2 : Int) ^ N → dsj T M := h.2.2
theorem SI.skip {good : Int → Prop} {N : Nat} {M k : Int} {O : Nat → Int} {s : Nat} (hN : N ≤ 12) (h : SI good N M O k s) (hs : (s : Int) < (2 : Int) ^ N) (hn : ¬ (O s = 1 ∧ popc s = k)) : SI good N M O k ((s + 1 : Nat) : Int) := by
  have p := pow_le12 hN
  refine ⟨fun T t1 t2 t3 t4 => ?_, fun S t1 t2 t3 t4 => ?_, h.c⟩
  · rcases h.a T t1 t2 t3 t4 with q | ⟨q1, q2⟩
    · exact Or.inl q
    · by_cases e : T = s
      · exfalso
        obtain ⟨U, u1, u2, u3, u4⟩ := h.b T t1 t2 t3 t4
        have : (U : Int) = T := popc_sub (by omega) (by omega) u3 (by omega)
        have e2 : U = s := by omega
        rw [e2] at u1
        rw [e] at q1
        exact hn ⟨u1, q1⟩
      · exact Or.inr ⟨q1, by omega⟩
  · obtain ⟨U, u1, u2, u3, u4⟩ := h.b S t1 t2 t3 t4
    refine ⟨U, u1, u2, u3, ?_⟩
    rcases u4 with ⟨q1, q2⟩ | q
    · by_cases e : U = s
      · rw [e] at u1 q1
        exact absurd ⟨u1, q1⟩ hn
      · exact Or.inl ⟨q1, by omega⟩
    · exact Or.inr q
theorem SI.bad {good : Int → Prop} {N : Nat} {M k n : Int} {O O' : Nat → Int} {s : Nat} (hN : N ≤ 12) (h : SI good N M O k s) (hs : (s : Int) < (2 : Int) ^ N) (hO : O s = 1) (hk : popc s = k) (hb : ¬ good s) (hd : ∀ j : Nat, j < 12 → bt n j = 1 → bt s j = 0 ∧ bt M j = 0) (k2 : ∀ S : Int, 0 ≤ S → S < (2 : Int) ^ N → dsj S M → sub5 s S → (∀ j : Nat, j < 12 → bt n j = 1 → bt S j = 0) → ¬ good S) (hO' : ∀ T : Nat, O' T = 1 ↔ O T = 1 ∨ ∃ j : Nat, j < 12 ∧ bt n j = 1 ∧ T = (setb s j).toNat) : SI good N M O' k ((s + 1 : Nat) : Int) := by
  have p := pow_le12 hN
  have hsb : ∀ j : Nat, j < 12 → 0 ≤ setb s j ∧ setb s j < 4096 := fun j hj => setb_in (k := 12) (by omega) (by omega)
  refine ⟨fun T t1 t2 t3 t4 => ?_, fun S t1 t2 t3 t4 => ?_, fun T t1 t2 => ?_⟩
  · rcases h.a T t1 t2 t3 t4 with q | ⟨q1, q2⟩
    · exact Or.inl q
    · by_cases e : T = s
      · rw [e] at t4; exact absurd t4 hb
      · exact Or.inr ⟨q1, by omega⟩
  · obtain ⟨U, u1, u2, u3, u4⟩ := h.b S t1 t2 t3 t4
    by_cases e : U = s
    · rw [e] at u3
      have : ∃ j : Nat, j < 12 ∧ bt n j = 1 ∧ bt S j = 1 := Classical.byContradiction (fun w => k2 S t1 t2 t3 u3 (fun j j1 j2 => (bt_b S j).elim id (fun y => absurd ⟨j, j1, j2, y⟩ w)) t4)
      obtain ⟨j, j1, j2, j3⟩ := this
      obtain ⟨d1, d2⟩ := hd j j1 j2
      have hb2 := hsb j j1
      have hsub : sub5 (setb s j) S := fun i hi q => by
        rw [bt_setb (by omega) j1] at q
        by_cases x : j = i
        · rw [← x]; exact j3
        · rw [if_neg x] at q; exact u3 i hi q
      have hlt : setb s j < (2 : Int) ^ N := by
        have := sub5_le hb2 ⟨t1, by omega⟩ hsub
        omega
      refine ⟨(setb s j).toNat, (hO' _).mpr (Or.inr ⟨j, j1, j2, rfl⟩), by omega, ?_, Or.inr ?_⟩
      · rw [show (((setb s j).toNat : Nat) : Int) = setb s j by omega]; exact hsub
      · rw [show (((setb s j).toNat : Nat) : Int) = setb s j by omega, popc_setb (by omega) j1 d1, hk]
    · refine ⟨U, (hO' _).mpr (Or.inl u1), u2, u3, ?_⟩
      rcases u4 with ⟨q1, q2⟩ | q
      · exact Or.inl ⟨q1, by omega⟩
      · exact Or.inr q
  · rcases (hO' T).mp t1 with q | ⟨j, j1, j2, j3⟩
    · exact h.c T q t2
    · have hb2 := hsb j j1
      intro i hi q
      rw [j3, show (((setb s j).toNat : Nat) : Int) = setb s j by omega, bt_setb (by omega) j1] at q
      by_cases x : j = i
      · rw [← x]; exact (hd j j1 j2).2
      · rw [if_neg x] at q
        exact h.c s hO hs i hi q
theorem SI.next {good : Int → Prop} {N : Nat} {M k s : Int} {O : Nat → Int} (h : SI good N M O k s) (hs : (2 : Int) ^ N ≤ s) : SI good N M O (k + 1) 0 := by
  refine ⟨fun T t1 t2 t3 t4 => ?_, fun S t1 t2 t3 t4 => ?_, h.c⟩
  · rcases h.a T t1 t2 t3 t4 with q | ⟨q1, q2⟩
    · by_cases e : popc T = k + 1
      · exact Or.inr ⟨e, t1⟩
      · exact Or.inl (by omega)
    · omega
  · obtain ⟨U, u1, u2, u3, u4⟩ := h.b S t1 t2 t3 t4
    refine ⟨U, u1, u2, u3, Or.inl ?_⟩
    rcases u4 with ⟨q1, q2⟩ | q
    · omega
    · exact ⟨q, by omega⟩
theorem SI.found {good : Int → Prop} {N : Nat} {M k : Int} {O : Nat → Int} {s : Nat} (h : SI good N M O k s) (hs : (s : Int) < (2 : Int) ^ N) (hO : O s = 1) (hk : popc s = k) (hg : good s) : LSS good N M s := by
  refine Or.inr ⟨⟨by omega, hs⟩, h.c s hO hs, hg, fun T t1 t2 t3 t4 => ?_⟩
  rcases h.a T t1 t2 t3 t4 with q | ⟨q1, q2⟩
  · exact Or.inl (by omega)
  · exact Or.inr ⟨by omega, q2⟩
theorem SI.none {good : Int → Prop} {N : Nat} {M k s : Int} {O : Nat → Int} (hN : N ≤ 12) (h : SI good N M O k s) (hs : (2 : Int) ^ N ≤ s) (hk : (N : Int) < k + 1) : LSS good N M (-1) := by
  refine Or.inl ⟨rfl, fun T t1 t2 t3 t4 => ?_⟩
  have := popc_le hN ⟨t1, t2⟩
  rcases h.a T t1 t2 t3 t4 with q | ⟨q1, q2⟩
  · omega
  · omega
theorem SI.init {good : Int → Prop} {N : Nat} {M : Int} {O : Nat → Int} (hN : N ≤ 12) (h0 : O 0 = 1) (h1 : ∀ T : Nat, (T : Int) < (2 : Int) ^ N → O T = 1 → T = 0) : SI good N M O 0 0 := by
  have p := pow_le12 hN
  have z : ∀ i : Int, bt 0 i = 0 := fun i => by unfold bt; simp
  have z0 : popc 0 = 0 := by
    unfold popc
    simp [z]
  have nn : ∀ T : Int, 0 ≤ popc T := fun T => by
    have b0 := bt_b T 0
    have b1 := bt_b T 1
    have b2 := bt_b T 2
    have b3 := bt_b T 3
    have b4 := bt_b T 4
    have b5 := bt_b T 5
    have b6 := bt_b T 6
    have b7 := bt_b T 7
    have b8 := bt_b T 8
    have b9 := bt_b T 9
    have b10 := bt_b T 10
    have b11 := bt_b T 11
    have d : ∀ x : Int, (x = 0 ∨ x = 1) → 0 ≤ x := fun x h => by omega
    have := d _ b0
    have := d _ b1
    have := d _ b2
    have := d _ b3
    have := d _ b4
    have := d _ b5
    have := d _ b6
    have := d _ b7
    have := d _ b8
    have := d _ b9
    have := d _ b10
    have := d _ b11
    unfold popc
    clear b0 b1 b2 b3 b4 b5 b6 b7 b8 b9 b10 b11 d
    omega
  refine ⟨fun T t1 t2 t3 t4 => ?_, fun S t1 t2 t3 t4 => ⟨0, h0, by omega, fun i hi q => ?_, Or.inl ⟨z0, by omega⟩⟩, fun T t1 t2 i hi q => ?_⟩
  · have := nn T
    omega
  · have q : bt 0 i = 1 := q
    rw [z] at q
    omega
  · rw [h1 T t2 t1] at q
    have q : bt 0 i = 1 := q
    rw [z] at q
    omega
/-! the reference's search -/
def RI (good : Int → Prop) (N : Nat) (M : Int) (g s : Int) : Prop :=
  (g = -1 ∧ ∀ T : Int, 0 ≤ T → T < s → dsj T M → ¬ good T) ∨
  ((0 ≤ g ∧ g < s) ∧ dsj g M ∧ good g ∧ ∀ T : Int, 0 ≤ T → T < s → dsj T M → good T → popc g < popc T ∨ (popc g = popc T ∧ g ≤ T))
theorem RI.no {good : Int → Prop} {N : Nat} {M g s : Int} (h : RI good N M g s) (hn : ¬ (dsj s M ∧ good s) ∨ (g ≠ -1 ∧ popc g ≤ popc s)) : RI good N M g (s + 1) := by
  rcases h with ⟨a1, a2⟩ | ⟨a1, a2, a3, a4⟩
  · refine Or.inl ⟨a1, fun T t1 t2 t3 t4 => ?_⟩
    by_cases e : T = s
    · rw [e] at t3 t4
      rcases hn with q | q
      · exact q ⟨t3, t4⟩
      · exact q.1 a1
    · exact a2 T t1 (by omega) t3 t4
  · refine Or.inr ⟨by omega, a2, a3, fun T t1 t2 t3 t4 => ?_⟩
    by_cases e : T = s
    · rw [e] at t3 t4 ⊢
      rcases hn with q | q
      · exact absurd ⟨t3, t4⟩ q
      · omega
    · exact a4 T t1 (by omega) t3 t4
theorem RI.yes {good : Int → Prop} {N : Nat} {M g s : Int} (h : RI good N M g s) (h0 : 0 ≤ s) (hd : dsj s M) (hg : good s) (hl : g = -1 ∨ popc s < popc g) : RI good N M s (s + 1) := by
  refine Or.inr ⟨by omega, hd, hg, fun T t1 t2 t3 t4 => ?_⟩
  by_cases e : T = s
  · rw [e]; omega
  · rcases h with ⟨a1, a2⟩ | ⟨a1, a2, a3, a4⟩
    · exact absurd t4 (a2 T t1 (by omega) t3)
    · have := a4 T t1 (by omega) t3 t4
      omega
theorem RI.end {good : Int → Prop} {N : Nat} {M g : Int} (h : RI good N M g ((2 : Int) ^ N)) : LSS good N M g := h
