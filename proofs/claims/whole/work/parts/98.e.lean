
/-! steps of reading -/
def ST (a b a' b' : VS) (n : Nat) : Prop :=
  (RT a' b' n) ∧
  (a' 2 1 = 0 → a 2 1 = 0) ∧
  (a 2 6 ≤ a' 2 6) ∧
  (∀ k : Nat, k ≠ 2 → a' k = a k) ∧
  (∀ k : Nat, k ≠ 203 → b' k = b k)
theorem ST.r {a b a' b' : VS} {n : Nat} (h : ST a b a' b' n) : RT a' b' n := h.1
theorem ST.al {a b a' b' : VS} {n : Nat} (h : ST a b a' b' n) : a' 2 1 = 0 → a 2 1 = 0 := h.2.1
theorem ST.mo {a b a' b' : VS} {n : Nat} (h : ST a b a' b' n) : a 2 6 ≤ a' 2 6 := h.2.2.1
theorem ST.ra {a b a' b' : VS} {n : Nat} (h : ST a b a' b' n) : ∀ k : Nat, k ≠ 2 → a' k = a k := h.2.2.2.1
theorem ST.rb {a b a' b' : VS} {n : Nat} (h : ST a b a' b' n) : ∀ k : Nat, k ≠ 203 → b' k = b k := h.2.2.2.2
theorem fail_ok {a b : VS} {n : Nat} (h : RT a b n) (k : Int) (hk : k ≠ 0) : ST a b (cl_fail a k) (mo_fails b k) n ∧ (cl_fail a k) 2 1 ≠ 0 := by
  refine ⟨⟨?_, ?_, ?_, fun k hk => o_cl_fail (by omega), fun k hk => o_mo_fails (by omega)⟩, ?_⟩
  · unfold cl_fail mo_fails
    rw [← h.f]
    by_cases z : a 2 1 = 0
    · rw [if_pos z, if_pos z]
      refine ⟨h.tk.of (by simp [v2_row]) (by simp [v2_eq]) (by simp [v2_row]) (by simp [v2_eq]), by simp [v2_eq], fun _ => by simp [v2_eq, h.e], fun y => absurd y (by simp [v2_eq, hk]), by simp [v2_eq, h.k], by simp [v2_eq, h.e], by simp [v2_eq, h.t], ?_, ?_, ?_, ?_⟩
      · simp only [v2_eq]; exact h.lo
      · simp only [v2_eq]; exact h.st
      · simp only [v2_eq]; exact h.nu
      · simp only [v2_eq]; exact h.wo
    · rw [if_neg z, if_neg z]; exact h
  · unfold cl_fail
    by_cases z : a 2 1 = 0
    · intro _; exact z
    · rw [if_neg z]; exact id
  · unfold cl_fail
    split
    · simp [v2_eq]
    · exact Int.le_refl _
  · unfold cl_fail
    split
    · simp [v2_eq, hk]
    · assumption
theorem adv_st {a b : VS} {n : Nat} (h : RT a b n) : ST a b (cl_advance a) (mo_next b) n := by
  obtain ⟨g1, g2, g3⟩ := adv_ok h
  have := h.lo
  exact ⟨g1, fun y => by rw [g3] at y; exact y, by omega, fun k hk => o_cl_advance (by omega), fun k hk => o_mo_next (by omega)⟩
theorem asks_at {b : VS} {W : Int} (h0 : b 203 12 = 0) (h : b 203 8 = 1 ∧ b 203 11 = W) : mo_asks b W = mo_next b := by
  have e : mo_takesW b W = (1, mo_next b) := by unfold mo_takesW; rw [if_pos ⟨h0, h⟩]
  unfold mo_asks
  rw [e]
  exact if_neg (show ¬ (1 : Int) = 0 by omega)
theorem asks_no {b : VS} {W : Int} (h : ¬ (b 203 12 = 0 ∧ b 203 8 = 1 ∧ b 203 11 = W)) : mo_asks b W = mo_fails b 1 := by
  have e : mo_takesW b W = (0, b) := by unfold mo_takesW; rw [if_neg h]
  unfold mo_asks
  rw [e]
  exact if_pos rfl
theorem asks_not {b : VS} {W : Int} (h : ¬ (b 203 8 = 1 ∧ b 203 11 = W)) : mo_asks b W = mo_fails b 1 := asks_no (fun g => h g.2)
theorem word_ok {a b a' : VS} {n : Nat} (h : RT a b n) {i W : Int} (hi : i = if a 2 5 = 1 ∧ b 203 11 = W then 1 else 0) (ea : a' = if a 2 1 = 0 then (if i = 0 then cl_fail a 1 else cl_advance a) else cl_fail a 1) : ST a b a' (mo_asks b W) n := by
  have hk := h.k
  have hf := h.f
  by_cases x : a 2 1 = 0
  · rw [if_pos x] at ea
    by_cases y : a 2 5 = 1 ∧ b 203 11 = W
    · rw [if_pos y] at hi
      rw [if_neg (by omega)] at ea
      rw [asks_at (by omega) (by omega), ea]
      exact adv_st h
    · rw [if_neg y] at hi
      rw [if_pos hi] at ea
      rw [asks_not (by omega), ea]
      exact (fail_ok h 1 (by omega)).1
  · rw [if_neg x] at ea
    rw [asks_no (by omega), ea]
    exact (fail_ok h 1 (by omega)).1
theorem number_ok {a b : VS} {n : Nat} (h : RT a b n) (l g : Int) (hg : g < 1000000) : ∃ (x : Int) (a' b' : VS), cl_number a l g = (x, a') ∧ mo_number b l g = (x, b') ∧ ST a b a' b' n ∧ (a' 2 1 = 0 → l ≤ x ∧ x ≤ g) := by
  unfold cl_number mo_number
  rw [← h.f, ← h.k]
  by_cases x : a 2 1 = 0
  · rw [if_pos x, if_pos x]
    by_cases y : a 2 5 = 2
    · rw [if_pos y, if_pos y]
      obtain ⟨u1, u2⟩ := h.nu y
      by_cases w : l ≤ b 203 10 ∧ b 203 10 ≤ g
      · have e : a 2 8 = b 203 10 := by omega
        rw [if_neg (show ¬ a 2 8 < l by omega), if_neg (show ¬ g < a 2 8 by omega), if_pos w, e]
        exact ⟨_, _, _, rfl, rfl, adv_st h, fun _ => w⟩
      · rw [if_neg w]
        obtain ⟨f1, f2⟩ := fail_ok h 2 (by omega)
        refine ⟨l, cl_fail a 2, mo_fails b 2, ?_, rfl, f1, fun z => absurd z f2⟩
        by_cases c : a 2 8 < l
        · rw [if_pos c]
        · rw [if_neg c, if_pos (by omega)]
    · rw [if_neg y, if_neg y]
      obtain ⟨f1, f2⟩ := fail_ok h 1 (by omega)
      exact ⟨_, _, _, rfl, rfl, f1, fun z => absurd z f2⟩
  · rw [if_neg x, if_neg x]
    exact ⟨_, _, _, rfl, rfl, ⟨h, id, Int.le_refl _, fun _ _ => rfl, fun _ _ => rfl⟩, fun z => absurd z x⟩
theorem ends_dead {b : VS} (h : b 203 12 ≠ 0) : mo_ends b = b := by
  have e : mo_fails b 1 = b := by unfold mo_fails; rw [if_neg h]
  unfold mo_ends
  rw [e, if_neg h, ite_self]
theorem ends_if (b : VS) : (if b 203 12 = 0 then mo_ends b else b) = mo_ends b := by
  by_cases z : b 203 12 = 0
  · rw [if_pos z]
  · rw [if_neg z, ends_dead z]
theorem stop_ok {a b : VS} {n : Nat} (h : RT a b n) : ST a b (cl_stop a) (mo_ends b) n ∧ ((cl_stop a) 2 1 = 0 → a 2 6 < (cl_stop a) 2 6) := by
  by_cases x : a 2 1 = 0
  · unfold cl_stop mo_ends
    rw [if_pos x, ← h.f, ← h.k, if_pos x]
    by_cases y : a 2 5 = 3
    · rw [if_pos y, if_pos y]
      have := (adv_ok h).2.1
      have s := h.st (by omega)
      exact ⟨adv_st h, fun _ => by omega⟩
    · rw [if_neg y, if_neg y]
      obtain ⟨f1, f2⟩ := fail_ok h 1 (by omega)
      rw [if_neg (by rw [← f1.r.f]; exact f2)]
      exact ⟨f1, fun z => absurd z f2⟩
  · have e : cl_stop a = a := by
      unfold cl_stop cl_fail
      rw [if_neg x, if_neg x]
    rw [e, ends_dead (by rw [← h.f]; exact x)]
    exact ⟨⟨h, id, Int.le_refl _, fun _ _ => rfl, fun _ _ => rfl⟩, fun z => absurd z x⟩
theorem RT.put {a b : VS} {n k j : Nat} {x : Int} (h : RT a b n) (hk : k ≠ 203) (hk2 : k ≠ 208) : RT a (v2 b k j x) n := h.of rfl rfl (v2_row (by omega)) (v2_row (by omega))
/-- what the reference leaves as it is while it reads -/
def FR (b b' : VS) : Prop :=
  (∀ k : Nat, k < 203 ∨ (203 < k ∧ k < 209) ∨ 217 < k → b' k = b k) ∧
  (∀ j : Nat, j < 4 → b' 209 j = b 209 j) ∧
  (∀ j : Nat, j < 44 → b' 210 j = b 210 j) ∧
  (∀ j : Nat, j < 108 → b' 211 j = b 211 j) ∧
  (∀ j : Nat, j < 192 → b' 212 j = b 212 j) ∧
  (∀ j : Nat, j < 60 → b' 213 j = b 213 j) ∧
  (∀ j : Nat, j < 48 → b' 214 j = b 214 j) ∧
  (∀ j : Nat, j < 72 → b' 215 j = b 215 j) ∧
  (∀ j : Nat, j < 72 → b' 216 j = b 216 j) ∧
  (∀ j : Nat, j < 72 → b' 217 j = b 217 j)
theorem FR.o {b b' : VS} (h : FR b b') : ∀ k : Nat, k < 203 ∨ (203 < k ∧ k < 209) ∨ 217 < k → b' k = b k := h.1
theorem FR.r9 {b b' : VS} (h : FR b b') : ∀ j : Nat, j < 4 → b' 209 j = b 209 j := h.2.1
theorem FR.r10 {b b' : VS} (h : FR b b') : ∀ j : Nat, j < 44 → b' 210 j = b 210 j := h.2.2.1
theorem FR.r11 {b b' : VS} (h : FR b b') : ∀ j : Nat, j < 108 → b' 211 j = b 211 j := h.2.2.2.1
theorem FR.r12 {b b' : VS} (h : FR b b') : ∀ j : Nat, j < 192 → b' 212 j = b 212 j := h.2.2.2.2.1
theorem FR.r13 {b b' : VS} (h : FR b b') : ∀ j : Nat, j < 60 → b' 213 j = b 213 j := h.2.2.2.2.2.1
theorem FR.r14 {b b' : VS} (h : FR b b') : ∀ j : Nat, j < 48 → b' 214 j = b 214 j := h.2.2.2.2.2.2.1
theorem FR.r15 {b b' : VS} (h : FR b b') : ∀ j : Nat, j < 72 → b' 215 j = b 215 j := h.2.2.2.2.2.2.2.1
theorem FR.r16 {b b' : VS} (h : FR b b') : ∀ j : Nat, j < 72 → b' 216 j = b 216 j := h.2.2.2.2.2.2.2.2.1
theorem FR.r17 {b b' : VS} (h : FR b b') : ∀ j : Nat, j < 72 → b' 217 j = b 217 j := h.2.2.2.2.2.2.2.2.2
theorem FR.refl (b : VS) : FR b b := ⟨fun _ _ => rfl, fun _ _ => rfl, fun _ _ => rfl, fun _ _ => rfl, fun _ _ => rfl, fun _ _ => rfl, fun _ _ => rfl, fun _ _ => rfl, fun _ _ => rfl, fun _ _ => rfl⟩
theorem FR.trans {b c d : VS} (h : FR b c) (g : FR c d) : FR b d := ⟨fun k x => (g.o k x).trans (h.o k x), fun k x => (g.r9 k x).trans (h.r9 k x), fun k x => (g.r10 k x).trans (h.r10 k x), fun k x => (g.r11 k x).trans (h.r11 k x), fun k x => (g.r12 k x).trans (h.r12 k x), fun k x => (g.r13 k x).trans (h.r13 k x), fun k x => (g.r14 k x).trans (h.r14 k x), fun k x => (g.r15 k x).trans (h.r15 k x), fun k x => (g.r16 k x).trans (h.r16 k x), fun k x => (g.r17 k x).trans (h.r17 k x)⟩
theorem FR.step {b c d : VS} (h : FR b c) (rb : ∀ k : Nat, k ≠ 203 → d k = c k) : FR b d := h.trans ⟨fun k x => rb k (by omega), fun j _ => by rw [rb 209 (by omega)], fun j _ => by rw [rb 210 (by omega)], fun j _ => by rw [rb 211 (by omega)], fun j _ => by rw [rb 212 (by omega)], fun j _ => by rw [rb 213 (by omega)], fun j _ => by rw [rb 214 (by omega)], fun j _ => by rw [rb 215 (by omega)], fun j _ => by rw [rb 216 (by omega)], fun j _ => by rw [rb 217 (by omega)]⟩
theorem FR.put {b c : VS} (h : FR b c) {k j : Nat} {x : Int} (hk : (k = 209 ∧ 4 ≤ j) ∨ (k = 210 ∧ 44 ≤ j) ∨ (k = 211 ∧ 108 ≤ j) ∨ (k = 212 ∧ 192 ≤ j) ∨ (k = 213 ∧ 60 ≤ j) ∨ (k = 214 ∧ 48 ≤ j) ∨ (k = 215 ∧ 72 ≤ j) ∨ (k = 216 ∧ 72 ≤ j) ∨ (k = 217 ∧ 72 ≤ j)) : FR b (v2 c k j x) := h.trans ⟨fun q y => v2_row (by omega), fun i y => by rw [v2_eq, if_neg (by omega)], fun i y => by rw [v2_eq, if_neg (by omega)], fun i y => by rw [v2_eq, if_neg (by omega)], fun i y => by rw [v2_eq, if_neg (by omega)], fun i y => by rw [v2_eq, if_neg (by omega)], fun i y => by rw [v2_eq, if_neg (by omega)], fun i y => by rw [v2_eq, if_neg (by omega)], fun i y => by rw [v2_eq, if_neg (by omega)], fun i y => by rw [v2_eq, if_neg (by omega)]⟩
theorem wd_0 {a b : VS} {n : Nat} (h : RT a b n) : ST a b (cl_word0 a) (mo_asks b 1510) n := word_ok h (at_0 h) rfl
theorem wd_1 {a b : VS} {n : Nat} (h : RT a b n) : ST a b (cl_word1 a) (mo_asks b 34791381541) n := word_ok h (at_1 h) rfl
theorem wd_2 {a b : VS} {n : Nat} (h : RT a b n) : ST a b (cl_word2 a) (mo_asks b 7434633727) n := word_ok h (at_2 h) rfl
theorem wd_4 {a b : VS} {n : Nat} (h : RT a b n) : ST a b (cl_word4 a) (mo_asks b 237470) n := word_ok h (at_4 h) rfl
theorem wd_5 {a b : VS} {n : Nat} (h : RT a b n) : ST a b (cl_word5 a) (mo_asks b 8868856) n := word_ok h (at_5 h) rfl
theorem wd_6 {a b : VS} {n : Nat} (h : RT a b n) : ST a b (cl_word6 a) (mo_asks b 2682144) n := word_ok h (at_6 h) rfl
theorem wd_7 {a b : VS} {n : Nat} (h : RT a b n) : ST a b (cl_word7 a) (mo_asks b 9678763) n := word_ok h (at_7 h) rfl
theorem wd_9 {a b : VS} {n : Nat} (h : RT a b n) : ST a b (cl_word9 a) (mo_asks b 411) n := word_ok h (at_9 h) rfl
theorem wd_10 {a b : VS} {n : Nat} (h : RT a b n) : ST a b (cl_word10 a) (mo_asks b 10656676) n := word_ok h (at_10 h) rfl
theorem wd_11 {a b : VS} {n : Nat} (h : RT a b n) : ST a b (cl_word11 a) (mo_asks b 778957) n := word_ok h (at_11 h) rfl
theorem wd_12 {a b : VS} {n : Nat} (h : RT a b n) : ST a b (cl_word12 a) (mo_asks b 488582165) n := word_ok h (at_12 h) rfl
theorem wd_13 {a b : VS} {n : Nat} (h : RT a b n) : ST a b (cl_word13 a) (mo_asks b 16308991) n := word_ok h (at_13 h) rfl
theorem wd_15 {a b : VS} {n : Nat} (h : RT a b n) : ST a b (cl_word15 a) (mo_asks b 47) n := word_ok h (at_15 h) rfl
theorem wd_17 {a b : VS} {n : Nat} (h : RT a b n) : ST a b (cl_word17 a) (mo_asks b 419) n := word_ok h (at_17 h) rfl
theorem wd_18 {a b : VS} {n : Nat} (h : RT a b n) : ST a b (cl_word18 a) (mo_asks b 131638) n := word_ok h (at_18 h) rfl
theorem wd_19 {a b : VS} {n : Nat} (h : RT a b n) : ST a b (cl_word19 a) (mo_asks b 555) n := word_ok h (at_19 h) rfl
theorem wd_23 {a b : VS} {n : Nat} (h : RT a b n) : ST a b (cl_word23 a) (mo_asks b 168984) n := word_ok h (at_23 h) rfl
