/-! copies of a bay -/
def tk3 (v : VS) (p q m : Nat) : VS := vcp (vcp (vcp (v2 v q 0 (v p 0)) (p + 1) (q + 1) 0 0 m) (p + 2) (q + 2) 0 0 m) (p + 3) (q + 3) 0 0 m
def tk4 (v : VS) (p q m : Nat) : VS := vcp (vcp (vcp (vcp (v2 v q 0 (v p 0)) (p + 1) (q + 1) 0 0 m) (p + 2) (q + 2) 0 0 m) (p + 3) (q + 3) 0 0 m) (p + 4) (q + 4) 0 0 m
def tk0 (v : VS) (p q : Nat) : VS := vcp (vcp (vcp (v2 (v2 (v2 (v2 (v2 (v2 v q 0 (v p 0)) q 1 (v p 1)) q 2 (v p 2)) q 3 (v p 3)) q 4 (v p 4)) q 5 (v p 5)) (p + 1) (q + 1) 0 0 9) (p + 2) (q + 2) 0 0 9) (p + 3) (q + 3) 0 0 9
def cpy (v : VS) (p q : Nat) : VS := tk3 (tk3 (tk3 (tk3 (tk3 (tk4 (tk0 v p q) (p + 4) (q + 4) 12) (p + 9) (q + 9) 5) (p + 13) (q + 13) 6) (p + 17) (q + 17) 6) (p + 21) (q + 21) 6) (p + 25) (q + 25) 6
theorem vcq_row {v : VS} {p q m k : Nat} (h : k ≠ q) : vcp v p q 0 0 m k = v k := by unfold vcp; rw [fset_at, if_neg h]
theorem vcq_at {v : VS} {p q m j : Nat} (h : j < m) : vcp v p q 0 0 m q j = v p j := by
  unfold vcp va_cpy
  rw [fset_at, if_pos rfl, if_pos (by omega), Nat.zero_add, Nat.sub_zero]
theorem tk3_row {v : VS} {p q m k : Nat} (h : k < q ∨ q + 3 < k) : tk3 v p q m k = v k := by
  unfold tk3
  rw [vcq_row (by omega), vcq_row (by omega), vcq_row (by omega), v2_row (by omega)]
theorem tk4_row {v : VS} {p q m k : Nat} (h : k < q ∨ q + 4 < k) : tk4 v p q m k = v k := by
  unfold tk4
  rw [vcq_row (by omega), vcq_row (by omega), vcq_row (by omega), vcq_row (by omega), v2_row (by omega)]
theorem tk0_row {v : VS} {p q k : Nat} (h : k < q ∨ q + 3 < k) : tk0 v p q k = v k := by
  unfold tk0
  rw [vcq_row (by omega), vcq_row (by omega), vcq_row (by omega), v2_row (by omega), v2_row (by omega), v2_row (by omega), v2_row (by omega), v2_row (by omega), v2_row (by omega)]
theorem tk3_0 {v : VS} {p q m : Nat} : tk3 v p q m q 0 = v p 0 := by
  unfold tk3
  rw [vcq_row (by omega), vcq_row (by omega), vcq_row (by omega), v2_eq, if_pos ⟨rfl, rfl⟩]
theorem tk4_0 {v : VS} {p q m : Nat} : tk4 v p q m q 0 = v p 0 := by
  unfold tk4
  rw [vcq_row (by omega), vcq_row (by omega), vcq_row (by omega), vcq_row (by omega), v2_eq, if_pos ⟨rfl, rfl⟩]
theorem tk3_d {v : VS} {p q m d j : Nat} (hd : 1 ≤ d ∧ d ≤ 3) (hj : j < m) (hpq : p + 3 < q ∨ q + 3 < p) : tk3 v p q m (q + d) j = v (p + d) j := by
  have : d = 1 ∨ d = 2 ∨ d = 3 := by omega
  unfold tk3
  rcases this with rfl | rfl | rfl
  · rw [vcq_row (by omega), vcq_row (by omega), vcq_at hj, v2_row (by omega)]
  · rw [vcq_row (by omega), vcq_at hj, vcq_row (by omega), v2_row (by omega)]
  · rw [vcq_at hj, vcq_row (by omega), vcq_row (by omega), v2_row (by omega)]
theorem tk4_d {v : VS} {p q m d j : Nat} (hd : 1 ≤ d ∧ d ≤ 4) (hj : j < m) (hpq : p + 4 < q ∨ q + 4 < p) : tk4 v p q m (q + d) j = v (p + d) j := by
  have : d = 1 ∨ d = 2 ∨ d = 3 ∨ d = 4 := by omega
  unfold tk4
  rcases this with rfl | rfl | rfl | rfl
  · rw [vcq_row (by omega), vcq_row (by omega), vcq_row (by omega), vcq_at hj, v2_row (by omega)]
  · rw [vcq_row (by omega), vcq_row (by omega), vcq_at hj, vcq_row (by omega), v2_row (by omega)]
  · rw [vcq_row (by omega), vcq_at hj, vcq_row (by omega), vcq_row (by omega), v2_row (by omega)]
  · rw [vcq_at hj, vcq_row (by omega), vcq_row (by omega), vcq_row (by omega), v2_row (by omega)]
theorem tk0_d {v : VS} {p q d j : Nat} (hd : 1 ≤ d ∧ d ≤ 3) (hj : j < 9) (hpq : p + 3 < q ∨ q + 3 < p) : tk0 v p q (q + d) j = v (p + d) j := by
  have : d = 1 ∨ d = 2 ∨ d = 3 := by omega
  unfold tk0
  rcases this with rfl | rfl | rfl
  · rw [vcq_row (by omega), vcq_row (by omega), vcq_at hj, v2_row (by omega), v2_row (by omega), v2_row (by omega), v2_row (by omega), v2_row (by omega), v2_row (by omega)]
  · rw [vcq_row (by omega), vcq_at hj, vcq_row (by omega), v2_row (by omega), v2_row (by omega), v2_row (by omega), v2_row (by omega), v2_row (by omega), v2_row (by omega)]
  · rw [vcq_at hj, vcq_row (by omega), vcq_row (by omega), v2_row (by omega), v2_row (by omega), v2_row (by omega), v2_row (by omega), v2_row (by omega), v2_row (by omega)]
theorem tk0_0 {v : VS} {p q j : Nat} (hj : j < 6) : tk0 v p q q j = v p j := by
  have : j = 0 ∨ j = 1 ∨ j = 2 ∨ j = 3 ∨ j = 4 ∨ j = 5 := by omega
  unfold tk0
  rw [vcq_row (by omega), vcq_row (by omega), vcq_row (by omega)]
  simp only [v2_eq]
  rcases this with rfl | rfl | rfl | rfl | rfl | rfl <;> simp
def wid (d : Nat) : Nat := if d = 0 then 6 else if d ≤ 3 then 9 else if d = 4 then 1 else if d ≤ 8 then 12 else if d = 9 then 1 else if d ≤ 12 then 5 else if d = 13 then 1 else if d ≤ 16 then 6 else if d = 17 then 1 else if d ≤ 20 then 6 else if d = 21 then 1 else if d ≤ 24 then 6 else if d = 25 then 1 else 6
def CPB (a b : Nat) (w s : VS) : Prop := ∀ d i : Nat, d ≤ 28 → i < wid d → w (a + d) i = s (b + d) i
theorem cpy_row {v : VS} {p q k : Nat} (h : k < q ∨ q + 28 < k) : cpy v p q k = v k := by
  unfold cpy
  rw [tk3_row (by omega), tk3_row (by omega), tk3_row (by omega), tk3_row (by omega), tk3_row (by omega), tk4_row (by omega), tk0_row (by omega)]
theorem cpy_ok {v : VS} {p q : Nat} (h : p + 28 < q ∨ q + 28 < p) : CPB q p (cpy v p q) v := by
  intro d i hd hi
  unfold wid at hi
  unfold cpy
  by_cases z6 : 25 ≤ d
  · by_cases y : d = 25
    · subst y
      have hi0 : i = 0 := by
        simp at hi
        omega
      subst hi0
      rw [tk3_0, tk3_row (by omega), tk3_row (by omega), tk3_row (by omega), tk3_row (by omega), tk4_row (by omega), tk0_row (by omega)]
    · obtain ⟨e, rfl⟩ : ∃ e, d = 25 + e := ⟨d - 25, by omega⟩
      rw [if_neg (by omega), if_neg (by omega), if_neg (by omega), if_neg (by omega), if_neg (by omega), if_neg (by omega), if_neg (by omega), if_neg (by omega), if_neg (by omega), if_neg (by omega), if_neg (by omega), if_neg (by omega), if_neg (by omega)] at hi
      rw [← Nat.add_assoc, ← Nat.add_assoc, tk3_d (by omega) hi (by omega), tk3_row (by omega), tk3_row (by omega), tk3_row (by omega), tk3_row (by omega), tk4_row (by omega), tk0_row (by omega)]
  by_cases z5 : 21 ≤ d
  · by_cases y : d = 21
    · subst y
      have hi0 : i = 0 := by
        simp at hi
        omega
      subst hi0
      rw [tk3_row (by omega), tk3_0, tk3_row (by omega), tk3_row (by omega), tk3_row (by omega), tk4_row (by omega), tk0_row (by omega)]
    · obtain ⟨e, rfl⟩ : ∃ e, d = 21 + e := ⟨d - 21, by omega⟩
      rw [if_neg (by omega), if_neg (by omega), if_neg (by omega), if_neg (by omega), if_neg (by omega), if_neg (by omega), if_neg (by omega), if_neg (by omega), if_neg (by omega), if_neg (by omega), if_neg (by omega), if_pos (by omega)] at hi
      rw [← Nat.add_assoc, ← Nat.add_assoc, tk3_row (by omega), tk3_d (by omega) hi (by omega), tk3_row (by omega), tk3_row (by omega), tk3_row (by omega), tk4_row (by omega), tk0_row (by omega)]
  by_cases z4 : 17 ≤ d
  · by_cases y : d = 17
    · subst y
      have hi0 : i = 0 := by
        simp at hi
        omega
      subst hi0
      rw [tk3_row (by omega), tk3_row (by omega), tk3_0, tk3_row (by omega), tk3_row (by omega), tk4_row (by omega), tk0_row (by omega)]
    · obtain ⟨e, rfl⟩ : ∃ e, d = 17 + e := ⟨d - 17, by omega⟩
      rw [if_neg (by omega), if_neg (by omega), if_neg (by omega), if_neg (by omega), if_neg (by omega), if_neg (by omega), if_neg (by omega), if_neg (by omega), if_neg (by omega), if_pos (by omega)] at hi
      rw [← Nat.add_assoc, ← Nat.add_assoc, tk3_row (by omega), tk3_row (by omega), tk3_d (by omega) hi (by omega), tk3_row (by omega), tk3_row (by omega), tk4_row (by omega), tk0_row (by omega)]
  by_cases z3 : 13 ≤ d
  · by_cases y : d = 13
    · subst y
      have hi0 : i = 0 := by
        simp at hi
        omega
      subst hi0
      rw [tk3_row (by omega), tk3_row (by omega), tk3_row (by omega), tk3_0, tk3_row (by omega), tk4_row (by omega), tk0_row (by omega)]
    · obtain ⟨e, rfl⟩ : ∃ e, d = 13 + e := ⟨d - 13, by omega⟩
      rw [if_neg (by omega), if_neg (by omega), if_neg (by omega), if_neg (by omega), if_neg (by omega), if_neg (by omega), if_neg (by omega), if_pos (by omega)] at hi
      rw [← Nat.add_assoc, ← Nat.add_assoc, tk3_row (by omega), tk3_row (by omega), tk3_row (by omega), tk3_d (by omega) hi (by omega), tk3_row (by omega), tk4_row (by omega), tk0_row (by omega)]
  by_cases z2 : 9 ≤ d
  · by_cases y : d = 9
    · subst y
      have hi0 : i = 0 := by
        simp at hi
        omega
      subst hi0
      rw [tk3_row (by omega), tk3_row (by omega), tk3_row (by omega), tk3_row (by omega), tk3_0, tk4_row (by omega), tk0_row (by omega)]
    · obtain ⟨e, rfl⟩ : ∃ e, d = 9 + e := ⟨d - 9, by omega⟩
      rw [if_neg (by omega), if_neg (by omega), if_neg (by omega), if_neg (by omega), if_neg (by omega), if_pos (by omega)] at hi
      rw [← Nat.add_assoc, ← Nat.add_assoc, tk3_row (by omega), tk3_row (by omega), tk3_row (by omega), tk3_row (by omega), tk3_d (by omega) hi (by omega), tk4_row (by omega), tk0_row (by omega)]
  by_cases z1 : 4 ≤ d
  · by_cases y : d = 4
    · subst y
      have hi0 : i = 0 := by
        simp at hi
        omega
      subst hi0
      rw [tk3_row (by omega), tk3_row (by omega), tk3_row (by omega), tk3_row (by omega), tk3_row (by omega), tk4_0, tk0_row (by omega)]
    · obtain ⟨e, rfl⟩ : ∃ e, d = 4 + e := ⟨d - 4, by omega⟩
      rw [if_neg (by omega), if_neg (by omega), if_neg (by omega), if_pos (by omega)] at hi
      rw [← Nat.add_assoc, ← Nat.add_assoc, tk3_row (by omega), tk3_row (by omega), tk3_row (by omega), tk3_row (by omega), tk3_row (by omega), tk4_d (by omega) hi (by omega), tk0_row (by omega)]
  by_cases y : d = 0
  · subst y
    rw [tk3_row (by omega), tk3_row (by omega), tk3_row (by omega), tk3_row (by omega), tk3_row (by omega), tk4_row (by omega)]
    exact tk0_0 (by simpa using hi)
  · rw [if_neg y, if_pos (by omega)] at hi
    rw [tk3_row (by omega), tk3_row (by omega), tk3_row (by omega), tk3_row (by omega), tk3_row (by omega), tk4_row (by omega), tk0_d (by omega) hi (by omega)]
theorem CPB.c {a b : Nat} {w s : VS} (h : CPB a b w s) (i : Nat) (hi : i < 6) : w a i = s b i := h 0 i (by omega) (by simpa [wid] using hi)
theorem CPB.h {a b : Nat} {w s : VS} (h : CPB a b w s) (d : Nat) (hd : d = 4 ∨ d = 9 ∨ d = 13 ∨ d = 17 ∨ d = 21 ∨ d = 25) : w (a + d) 0 = s (b + d) 0 := by
  refine h d 0 (by omega) ?_
  rcases hd with rfl | rfl | rfl | rfl | rfl | rfl <;> simp [wid]
theorem CPB.r9 {a b : Nat} {w s : VS} (h : CPB a b w s) (d i : Nat) (hd : d = 1 ∨ d = 2 ∨ d = 3) (hi : i < 9) : w (a + d) i = s (b + d) i := by
  refine h d i (by omega) ?_
  rcases hd with rfl | rfl | rfl <;> simpa [wid] using hi
theorem CPB.r12 {a b : Nat} {w s : VS} (h : CPB a b w s) (d i : Nat) (hd : d = 5 ∨ d = 6 ∨ d = 7 ∨ d = 8) (hi : i < 12) : w (a + d) i = s (b + d) i := by
  refine h d i (by omega) ?_
  rcases hd with rfl | rfl | rfl | rfl <;> simpa [wid] using hi
theorem CPB.r5 {a b : Nat} {w s : VS} (h : CPB a b w s) (d i : Nat) (hd : d = 10 ∨ d = 11 ∨ d = 12) (hi : i < 5) : w (a + d) i = s (b + d) i := by
  refine h d i (by omega) ?_
  rcases hd with rfl | rfl | rfl <;> simpa [wid] using hi
theorem CPB.r6 {a b : Nat} {w s : VS} (h : CPB a b w s) (d i : Nat) (hd : d = 14 ∨ d = 15 ∨ d = 16 ∨ d = 18 ∨ d = 19 ∨ d = 20 ∨ d = 22 ∨ d = 23 ∨ d = 24 ∨ d = 26 ∨ d = 27 ∨ d = 28) (hi : i < 6) : w (a + d) i = s (b + d) i := by
  refine h d i (by omega) ?_
  rcases hd with rfl | rfl | rfl | rfl | rfl | rfl | rfl | rfl | rfl | rfl | rfl | rfl <;> simpa [wid] using hi
/-- how much a bay may hold -/
def BT (b : Nat) (s : VS) : Prop := s (b + 4) 0 ≤ 12 ∧ s (b + 9) 0 ≤ 5 ∧ s (b + 13) 0 ≤ 6 ∧ s (b + 17) 0 ≤ 6 ∧ s (b + 21) 0 ≤ 6 ∧ s (b + 25) 0 ≤ 6
theorem XI.bt {v : VS} (h : XI v) {k : Nat} (hk : k = 3 ∨ k = 33 ∨ k = 116 ∨ k = 145 ∨ k = 174) : BT k v := by
  rcases hk with rfl | rfl | rfl | rfl | rfl
  · have a1 : 0 ≤ v 7 0 ∧ v 7 0 ≤ 12 := h 7 0
    have a2 : 0 ≤ v 12 0 ∧ v 12 0 ≤ 4 := h 12 0
    have a3 : 0 ≤ v 16 0 ∧ v 16 0 ≤ 6 := h 16 0
    have a4 : 0 ≤ v 20 0 ∧ v 20 0 ≤ 6 := h 20 0
    have a5 : 0 ≤ v 24 0 ∧ v 24 0 ≤ 6 := h 24 0
    have a6 : 0 ≤ v 28 0 ∧ v 28 0 ≤ 6 := h 28 0
    exact ⟨a1.2, show v 12 0 ≤ 5 by omega, a3.2, a4.2, a5.2, a6.2⟩
  · have a1 : 0 ≤ v 37 0 ∧ v 37 0 ≤ 12 := h 37 0
    have a2 : 0 ≤ v 42 0 ∧ v 42 0 ≤ 4 := h 42 0
    have a3 : 0 ≤ v 46 0 ∧ v 46 0 ≤ 6 := h 46 0
    have a4 : 0 ≤ v 50 0 ∧ v 50 0 ≤ 6 := h 50 0
    have a5 : 0 ≤ v 54 0 ∧ v 54 0 ≤ 6 := h 54 0
    have a6 : 0 ≤ v 58 0 ∧ v 58 0 ≤ 6 := h 58 0
    exact ⟨a1.2, show v 42 0 ≤ 5 by omega, a3.2, a4.2, a5.2, a6.2⟩
  · have a1 : 0 ≤ v 120 0 ∧ v 120 0 ≤ 12 := h 120 0
    have a2 : 0 ≤ v 125 0 ∧ v 125 0 ≤ 4 := h 125 0
    have a3 : 0 ≤ v 129 0 ∧ v 129 0 ≤ 6 := h 129 0
    have a4 : 0 ≤ v 133 0 ∧ v 133 0 ≤ 6 := h 133 0
    have a5 : 0 ≤ v 137 0 ∧ v 137 0 ≤ 6 := h 137 0
    have a6 : 0 ≤ v 141 0 ∧ v 141 0 ≤ 6 := h 141 0
    exact ⟨a1.2, show v 125 0 ≤ 5 by omega, a3.2, a4.2, a5.2, a6.2⟩
  · have a1 : 0 ≤ v 149 0 ∧ v 149 0 ≤ 12 := h 149 0
    have a2 : 0 ≤ v 154 0 ∧ v 154 0 ≤ 4 := h 154 0
    have a3 : 0 ≤ v 158 0 ∧ v 158 0 ≤ 6 := h 158 0
    have a4 : 0 ≤ v 162 0 ∧ v 162 0 ≤ 6 := h 162 0
    have a5 : 0 ≤ v 166 0 ∧ v 166 0 ≤ 6 := h 166 0
    have a6 : 0 ≤ v 170 0 ∧ v 170 0 ≤ 6 := h 170 0
    exact ⟨a1.2, show v 154 0 ≤ 5 by omega, a3.2, a4.2, a5.2, a6.2⟩
  · have a1 : 0 ≤ v 178 0 ∧ v 178 0 ≤ 12 := h 178 0
    have a2 : 0 ≤ v 183 0 ∧ v 183 0 ≤ 4 := h 183 0
    have a3 : 0 ≤ v 187 0 ∧ v 187 0 ≤ 6 := h 187 0
    have a4 : 0 ≤ v 191 0 ∧ v 191 0 ≤ 6 := h 191 0
    have a5 : 0 ≤ v 195 0 ∧ v 195 0 ≤ 6 := h 195 0
    have a6 : 0 ≤ v 199 0 ∧ v 199 0 ≤ 6 := h 199 0
    exact ⟨a1.2, show v 183 0 ≤ 5 by omega, a3.2, a4.2, a5.2, a6.2⟩
theorem VB.cp {a b : Nat} {w s : VS} (h : VB b s) (t : BT b s) (c : CPB a b w s) : VB a w := by
  obtain ⟨t1, t2, t3, t4, t5, t6⟩ := t
  obtain ⟨h1, h2, h3, h4, h5, h6, h7⟩ := h
  have c0 := c.c 0 (by omega)
  have c1 := c.c 1 (by omega)
  have c2 := c.c 2 (by omega)
  have c4 := c.h 4 (by omega)
  have c9 := c.h 9 (by omega)
  have c17 := c.h 17 (by omega)
  have c21 := c.h 21 (by omega)
  have c25 := c.h 25 (by omega)
  refine ⟨by rw [c0, c1, c2]; exact h1, by rw [c0, c1, c2, c4, c9]; exact h2, fun e he => ?_, fun e he => ?_, fun e he => ?_, fun e he => ?_, fun e he => ?_⟩
  · rw [c4] at he
    rw [c.r12 5 e (by omega) (by omega), c.r12 6 e (by omega) (by omega), c.r12 7 e (by omega) (by omega), c0]
    exact h3 e he
  · rw [c9] at he
    rw [c.r5 10 e (by omega) (by omega), c.r5 11 e (by omega) (by omega), c.r5 12 e (by omega) (by omega), c0, c1]
    exact h4 e he
  · rw [c17] at he
    rw [c.r6 18 e (by omega) (by omega), c.r6 20 e (by omega) (by omega), c4, c1]
    exact h5 e he
  · rw [c21] at he
    rw [c.r6 22 e (by omega) (by omega), c.r6 24 e (by omega) (by omega), c0, c1]
    exact h6 e he
  · rw [c25] at he
    rw [c.r6 26 e (by omega) (by omega), c.r6 28 e (by omega) (by omega), c0, c1]
    exact h7 e he
def RCB (r : Nat) (q : Nat) (w : VS) (s : VS) : Prop :=
  (w 209 r = s 209 q) ∧
  (∀ i : Nat, i < 11 → w 210 (11 * r + i) = s 210 (11 * q + i)) ∧
  (∀ i : Nat, i < 27 → w 211 (27 * r + i) = s 211 (27 * q + i)) ∧
  (∀ i : Nat, i < 48 → w 212 (48 * r + i) = s 212 (48 * q + i)) ∧
  (∀ i : Nat, i < 15 → w 213 (15 * r + i) = s 213 (15 * q + i)) ∧
  (∀ i : Nat, i < 12 → w 214 (12 * r + i) = s 214 (12 * q + i)) ∧
  (∀ i : Nat, i < 18 → w 215 (18 * r + i) = s 215 (18 * q + i)) ∧
  (∀ i : Nat, i < 18 → w 216 (18 * r + i) = s 216 (18 * q + i)) ∧
  (∀ i : Nat, i < 18 → w 217 (18 * r + i) = s 217 (18 * q + i))
theorem RCB.c9 {r : Nat} {q : Nat} {w : VS} {s : VS} (h : RCB r q w s) : w 209 r = s 209 q := h.1
theorem RCB.c10 {r : Nat} {q : Nat} {w : VS} {s : VS} (h : RCB r q w s) : ∀ i : Nat, i < 11 → w 210 (11 * r + i) = s 210 (11 * q + i) := h.2.1
theorem RCB.c11 {r : Nat} {q : Nat} {w : VS} {s : VS} (h : RCB r q w s) : ∀ i : Nat, i < 27 → w 211 (27 * r + i) = s 211 (27 * q + i) := h.2.2.1
theorem RCB.c12 {r : Nat} {q : Nat} {w : VS} {s : VS} (h : RCB r q w s) : ∀ i : Nat, i < 48 → w 212 (48 * r + i) = s 212 (48 * q + i) := h.2.2.2.1
theorem RCB.c13 {r : Nat} {q : Nat} {w : VS} {s : VS} (h : RCB r q w s) : ∀ i : Nat, i < 15 → w 213 (15 * r + i) = s 213 (15 * q + i) := h.2.2.2.2.1
theorem RCB.c14 {r : Nat} {q : Nat} {w : VS} {s : VS} (h : RCB r q w s) : ∀ i : Nat, i < 12 → w 214 (12 * r + i) = s 214 (12 * q + i) := h.2.2.2.2.2.1
theorem RCB.c15 {r : Nat} {q : Nat} {w : VS} {s : VS} (h : RCB r q w s) : ∀ i : Nat, i < 18 → w 215 (18 * r + i) = s 215 (18 * q + i) := h.2.2.2.2.2.2.1
theorem RCB.c16 {r : Nat} {q : Nat} {w : VS} {s : VS} (h : RCB r q w s) : ∀ i : Nat, i < 18 → w 216 (18 * r + i) = s 216 (18 * q + i) := h.2.2.2.2.2.2.2.1
theorem RCB.c17 {r : Nat} {q : Nat} {w : VS} {s : VS} (h : RCB r q w s) : ∀ i : Nat, i < 18 → w 217 (18 * r + i) = s 217 (18 * q + i) := h.2.2.2.2.2.2.2.2
theorem BQ.cp {a b r q : Nat} {w s : VS} (h : BQ b q s) (t : BT b s) (c : CPB a b w s) (m : RCB r q w s) : BQ a r w := by
  obtain ⟨t1, t2, t3, t4, t5, t6⟩ := t
  have c4 := c.h 4 (by omega)
  have c9 := c.h 9 (by omega)
  have c13 := c.h 13 (by omega)
  have c17 := c.h 17 (by omega)
  have c21 := c.h 21 (by omega)
  have c25 := c.h 25 (by omega)
  have m0 : w 210 (11 * r) = s 210 (11 * q) := m.c10 0 (by omega)
  refine ⟨by rw [c.c 0 (by omega), m0]; exact h.C, by rw [c.c 1 (by omega), m.c10 1 (by omega)]; exact h.S, by rw [c.c 2 (by omega), m.c9]; exact h.L, by rw [c.c 3 (by omega), m.c10 2 (by omega)]; exact h.D, by rw [c.c 4 (by omega), m.c10 9 (by omega)]; exact h.M, by rw [c.c 5 (by omega), m.c10 10 (by omega)]; exact h.X, fun e he => ?_, by rw [c4, m.c10 3 (by omega)]; exact h.E, fun e he => ?_, by rw [c9, m.c10 4 (by omega)]; exact h.T, fun e he => ?_, by rw [c13, m.c10 5 (by omega)]; exact h.W, fun e he => ?_, by rw [c17, m.c10 6 (by omega)]; exact h.F, fun e he => ?_, by rw [c21, m.c10 7 (by omega)]; exact h.G, fun e he => ?_, by rw [c25, m.c10 8 (by omega)]; exact h.H, fun e he => ?_⟩
  · have x0 := m.c11 (3 * e) (by omega)
    have x1 := m.c11 (3 * e + 1) (by omega)
    have x2 := m.c11 (3 * e + 2) (by omega)
    rw [← Nat.add_assoc, ← Nat.add_assoc] at x1 x2
    rw [c.r9 1 e (by omega) he, c.r9 2 e (by omega) he, c.r9 3 e (by omega) he, x0, x1, x2]
    exact h.ch e he
  · rw [c4] at he
    have x0 := m.c12 (4 * e) (by omega)
    have x1 := m.c12 (4 * e + 1) (by omega)
    have x2 := m.c12 (4 * e + 2) (by omega)
    have x3 := m.c12 (4 * e + 3) (by omega)
    rw [← Nat.add_assoc, ← Nat.add_assoc] at x1 x2 x3
    rw [c.r12 5 e (by omega) (by omega), c.r12 6 e (by omega) (by omega), c.r12 7 e (by omega) (by omega), c.r12 8 e (by omega) (by omega), x0, x1, x2, x3]
    exact h.ea e he
  · rw [c9] at he
    by_cases e5 : e < 5
    · have x0 := m.c13 (3 * e) (by omega)
      have x1 := m.c13 (3 * e + 1) (by omega)
      have x2 := m.c13 (3 * e + 2) (by omega)
      rw [← Nat.add_assoc, ← Nat.add_assoc] at x1 x2
      rw [c.r5 10 e (by omega) e5, c.r5 11 e (by omega) e5, c.r5 12 e (by omega) e5, x0, x1, x2]
      exact h.st e he
    · omega
  · rw [c13] at he
    have x0 := m.c14 (2 * e) (by omega)
    have x1 := m.c14 (2 * e + 1) (by omega)
    rw [← Nat.add_assoc, ← Nat.add_assoc] at x1
    rw [c.r6 14 e (by omega) (by omega), c.r6 15 e (by omega) (by omega), x0, x1]
    exact h.wi e he
  · rw [c17] at he
    have x0 := m.c15 (3 * e) (by omega)
    have x1 := m.c15 (3 * e + 1) (by omega)
    have x2 := m.c15 (3 * e + 2) (by omega)
    rw [← Nat.add_assoc, ← Nat.add_assoc] at x1 x2
    rw [c.r6 18 e (by omega) (by omega), c.r6 19 e (by omega) (by omega), c.r6 20 e (by omega) (by omega), x0, x1, x2]
    exact h.fo e he
  · rw [c21] at he
    have x0 := m.c16 (3 * e) (by omega)
    have x1 := m.c16 (3 * e + 1) (by omega)
    have x2 := m.c16 (3 * e + 2) (by omega)
    rw [← Nat.add_assoc, ← Nat.add_assoc] at x1 x2
    rw [c.r6 22 e (by omega) (by omega), c.r6 23 e (by omega) (by omega), c.r6 24 e (by omega) (by omega), x0, x1, x2]
    exact h.de e he
  · rw [c25] at he
    have x0 := m.c17 (3 * e) (by omega)
    have x1 := m.c17 (3 * e + 1) (by omega)
    have x2 := m.c17 (3 * e + 2) (by omega)
    rw [← Nat.add_assoc, ← Nat.add_assoc] at x1 x2
    rw [c.r6 26 e (by omega) (by omega), c.r6 27 e (by omega) (by omega), c.r6 28 e (by omega) (by omega), x0, x1, x2]
    exact h.fu e he
theorem cr209 {i o : Nat} (hio : i ≠ o) : ∀ (f k : Nat) (v : VS), 1 < k + f → (∀ j : Nat, j < k → v 209 (1 * o + j) = v 209 (1 * i + j)) → (∀ j : Nat, j < 1 → (mo_cr209_3 f v i o k) 209 (1 * o + j) = v 209 (1 * i + j)) ∧ (∀ j : Nat, j < 1 * o ∨ 1 * o + 1 ≤ j → (mo_cr209_3 f v i o k) 209 j = v 209 j) := by
  intro f
  induction f with
  | zero => intro k v hf h; exact ⟨fun j hj => h j (by omega), fun j _ => rfl⟩
  | succ f ih =>
    intro k v hf h
    rw [mo_cr209_3, show (1 * (o : Int) + (k : Int)).toNat = 1 * o + k by omega, show (1 * (i : Int) + (k : Int)).toNat = 1 * i + k by omega, show ((k : Int) + 1) = ((k + 1 : Nat) : Int) by omega]
    by_cases q : (k : Int) < 1
    · rw [if_pos q]
      have sr : ∀ j : Nat, j < 1 → (v2 v 209 (1 * o + k) (v 209 (1 * i + k))) 209 (1 * i + j) = v 209 (1 * i + j) := fun j hj => by
        rw [v2_eq, if_neg]
        intro g
        rcases Nat.lt_or_gt_of_ne hio with z | z <;> omega
      obtain ⟨i1, i2⟩ := ih (k + 1) (v2 v 209 (1 * o + k) (v 209 (1 * i + k))) (by omega) (fun j hj => by
        rw [sr j (by omega), v2_eq]
        by_cases z : j = k
        · rw [if_pos ⟨rfl, by omega⟩, z]
        · rw [if_neg (by omega)]
          exact h j (by omega))
      refine ⟨fun j hj => by rw [i1 j hj, sr j hj], fun j hj => ?_⟩
      rw [i2 j hj, v2_eq, if_neg (by omega)]
    · rw [if_neg q]
      exact ⟨fun j hj => h j (by omega), fun j _ => rfl⟩
theorem cr210 {i o : Nat} (hio : i ≠ o) : ∀ (f k : Nat) (v : VS), 11 < k + f → (∀ j : Nat, j < k → v 210 (11 * o + j) = v 210 (11 * i + j)) → (∀ j : Nat, j < 11 → (mo_cr210_3 f v i o k) 210 (11 * o + j) = v 210 (11 * i + j)) ∧ (∀ j : Nat, j < 11 * o ∨ 11 * o + 11 ≤ j → (mo_cr210_3 f v i o k) 210 j = v 210 j) := by
  intro f
  induction f with
  | zero => intro k v hf h; exact ⟨fun j hj => h j (by omega), fun j _ => rfl⟩
  | succ f ih =>
    intro k v hf h
    rw [mo_cr210_3, show (11 * (o : Int) + (k : Int)).toNat = 11 * o + k by omega, show (11 * (i : Int) + (k : Int)).toNat = 11 * i + k by omega, show ((k : Int) + 1) = ((k + 1 : Nat) : Int) by omega]
    by_cases q : (k : Int) < 11
    · rw [if_pos q]
      have sr : ∀ j : Nat, j < 11 → (v2 v 210 (11 * o + k) (v 210 (11 * i + k))) 210 (11 * i + j) = v 210 (11 * i + j) := fun j hj => by
        rw [v2_eq, if_neg]
        intro g
        rcases Nat.lt_or_gt_of_ne hio with z | z <;> omega
      obtain ⟨i1, i2⟩ := ih (k + 1) (v2 v 210 (11 * o + k) (v 210 (11 * i + k))) (by omega) (fun j hj => by
        rw [sr j (by omega), v2_eq]
        by_cases z : j = k
        · rw [if_pos ⟨rfl, by omega⟩, z]
        · rw [if_neg (by omega)]
          exact h j (by omega))
      refine ⟨fun j hj => by rw [i1 j hj, sr j hj], fun j hj => ?_⟩
      rw [i2 j hj, v2_eq, if_neg (by omega)]
    · rw [if_neg q]
      exact ⟨fun j hj => h j (by omega), fun j _ => rfl⟩
theorem cr211 {i o : Nat} (hio : i ≠ o) : ∀ (f k : Nat) (v : VS), 27 < k + f → (∀ j : Nat, j < k → v 211 (27 * o + j) = v 211 (27 * i + j)) → (∀ j : Nat, j < 27 → (mo_cr211_3 f v i o k) 211 (27 * o + j) = v 211 (27 * i + j)) ∧ (∀ j : Nat, j < 27 * o ∨ 27 * o + 27 ≤ j → (mo_cr211_3 f v i o k) 211 j = v 211 j) := by
  intro f
  induction f with
  | zero => intro k v hf h; exact ⟨fun j hj => h j (by omega), fun j _ => rfl⟩
  | succ f ih =>
    intro k v hf h
    rw [mo_cr211_3, show (27 * (o : Int) + (k : Int)).toNat = 27 * o + k by omega, show (27 * (i : Int) + (k : Int)).toNat = 27 * i + k by omega, show ((k : Int) + 1) = ((k + 1 : Nat) : Int) by omega]
    by_cases q : (k : Int) < 27
    · rw [if_pos q]
      have sr : ∀ j : Nat, j < 27 → (v2 v 211 (27 * o + k) (v 211 (27 * i + k))) 211 (27 * i + j) = v 211 (27 * i + j) := fun j hj => by
        rw [v2_eq, if_neg]
        intro g
        rcases Nat.lt_or_gt_of_ne hio with z | z <;> omega
      obtain ⟨i1, i2⟩ := ih (k + 1) (v2 v 211 (27 * o + k) (v 211 (27 * i + k))) (by omega) (fun j hj => by
        rw [sr j (by omega), v2_eq]
        by_cases z : j = k
        · rw [if_pos ⟨rfl, by omega⟩, z]
        · rw [if_neg (by omega)]
          exact h j (by omega))
      refine ⟨fun j hj => by rw [i1 j hj, sr j hj], fun j hj => ?_⟩
      rw [i2 j hj, v2_eq, if_neg (by omega)]
    · rw [if_neg q]
      exact ⟨fun j hj => h j (by omega), fun j _ => rfl⟩
theorem cr212 {i o : Nat} (hio : i ≠ o) : ∀ (f k : Nat) (v : VS), 48 < k + f → (∀ j : Nat, j < k → v 212 (48 * o + j) = v 212 (48 * i + j)) → (∀ j : Nat, j < 48 → (mo_cr212_3 f v i o k) 212 (48 * o + j) = v 212 (48 * i + j)) ∧ (∀ j : Nat, j < 48 * o ∨ 48 * o + 48 ≤ j → (mo_cr212_3 f v i o k) 212 j = v 212 j) := by
  intro f
  induction f with
  | zero => intro k v hf h; exact ⟨fun j hj => h j (by omega), fun j _ => rfl⟩
  | succ f ih =>
    intro k v hf h
    rw [mo_cr212_3, show (48 * (o : Int) + (k : Int)).toNat = 48 * o + k by omega, show (48 * (i : Int) + (k : Int)).toNat = 48 * i + k by omega, show ((k : Int) + 1) = ((k + 1 : Nat) : Int) by omega]
    by_cases q : (k : Int) < 48
    · rw [if_pos q]
      have sr : ∀ j : Nat, j < 48 → (v2 v 212 (48 * o + k) (v 212 (48 * i + k))) 212 (48 * i + j) = v 212 (48 * i + j) := fun j hj => by
        rw [v2_eq, if_neg]
        intro g
        rcases Nat.lt_or_gt_of_ne hio with z | z <;> omega
      obtain ⟨i1, i2⟩ := ih (k + 1) (v2 v 212 (48 * o + k) (v 212 (48 * i + k))) (by omega) (fun j hj => by
        rw [sr j (by omega), v2_eq]
        by_cases z : j = k
        · rw [if_pos ⟨rfl, by omega⟩, z]
        · rw [if_neg (by omega)]
          exact h j (by omega))
      refine ⟨fun j hj => by rw [i1 j hj, sr j hj], fun j hj => ?_⟩
      rw [i2 j hj, v2_eq, if_neg (by omega)]
    · rw [if_neg q]
      exact ⟨fun j hj => h j (by omega), fun j _ => rfl⟩
theorem cr213 {i o : Nat} (hio : i ≠ o) : ∀ (f k : Nat) (v : VS), 15 < k + f → (∀ j : Nat, j < k → v 213 (15 * o + j) = v 213 (15 * i + j)) → (∀ j : Nat, j < 15 → (mo_cr213_3 f v i o k) 213 (15 * o + j) = v 213 (15 * i + j)) ∧ (∀ j : Nat, j < 15 * o ∨ 15 * o + 15 ≤ j → (mo_cr213_3 f v i o k) 213 j = v 213 j) := by
  intro f
  induction f with
  | zero => intro k v hf h; exact ⟨fun j hj => h j (by omega), fun j _ => rfl⟩
  | succ f ih =>
    intro k v hf h
    rw [mo_cr213_3, show (15 * (o : Int) + (k : Int)).toNat = 15 * o + k by omega, show (15 * (i : Int) + (k : Int)).toNat = 15 * i + k by omega, show ((k : Int) + 1) = ((k + 1 : Nat) : Int) by omega]
    by_cases q : (k : Int) < 15
    · rw [if_pos q]
      have sr : ∀ j : Nat, j < 15 → (v2 v 213 (15 * o + k) (v 213 (15 * i + k))) 213 (15 * i + j) = v 213 (15 * i + j) := fun j hj => by
        rw [v2_eq, if_neg]
        intro g
        rcases Nat.lt_or_gt_of_ne hio with z | z <;> omega
      obtain ⟨i1, i2⟩ := ih (k + 1) (v2 v 213 (15 * o + k) (v 213 (15 * i + k))) (by omega) (fun j hj => by
        rw [sr j (by omega), v2_eq]
        by_cases z : j = k
        · rw [if_pos ⟨rfl, by omega⟩, z]
        · rw [if_neg (by omega)]
          exact h j (by omega))
      refine ⟨fun j hj => by rw [i1 j hj, sr j hj], fun j hj => ?_⟩
      rw [i2 j hj, v2_eq, if_neg (by omega)]
    · rw [if_neg q]
      exact ⟨fun j hj => h j (by omega), fun j _ => rfl⟩
theorem cr214 {i o : Nat} (hio : i ≠ o) : ∀ (f k : Nat) (v : VS), 12 < k + f → (∀ j : Nat, j < k → v 214 (12 * o + j) = v 214 (12 * i + j)) → (∀ j : Nat, j < 12 → (mo_cr214_3 f v i o k) 214 (12 * o + j) = v 214 (12 * i + j)) ∧ (∀ j : Nat, j < 12 * o ∨ 12 * o + 12 ≤ j → (mo_cr214_3 f v i o k) 214 j = v 214 j) := by
  intro f
  induction f with
  | zero => intro k v hf h; exact ⟨fun j hj => h j (by omega), fun j _ => rfl⟩
  | succ f ih =>
    intro k v hf h
    rw [mo_cr214_3, show (12 * (o : Int) + (k : Int)).toNat = 12 * o + k by omega, show (12 * (i : Int) + (k : Int)).toNat = 12 * i + k by omega, show ((k : Int) + 1) = ((k + 1 : Nat) : Int) by omega]
    by_cases q : (k : Int) < 12
    · rw [if_pos q]
      have sr : ∀ j : Nat, j < 12 → (v2 v 214 (12 * o + k) (v 214 (12 * i + k))) 214 (12 * i + j) = v 214 (12 * i + j) := fun j hj => by
        rw [v2_eq, if_neg]
        intro g
        rcases Nat.lt_or_gt_of_ne hio with z | z <;> omega
      obtain ⟨i1, i2⟩ := ih (k + 1) (v2 v 214 (12 * o + k) (v 214 (12 * i + k))) (by omega) (fun j hj => by
        rw [sr j (by omega), v2_eq]
        by_cases z : j = k
        · rw [if_pos ⟨rfl, by omega⟩, z]
        · rw [if_neg (by omega)]
          exact h j (by omega))
      refine ⟨fun j hj => by rw [i1 j hj, sr j hj], fun j hj => ?_⟩
      rw [i2 j hj, v2_eq, if_neg (by omega)]
    · rw [if_neg q]
      exact ⟨fun j hj => h j (by omega), fun j _ => rfl⟩
theorem cr215 {i o : Nat} (hio : i ≠ o) : ∀ (f k : Nat) (v : VS), 18 < k + f → (∀ j : Nat, j < k → v 215 (18 * o + j) = v 215 (18 * i + j)) → (∀ j : Nat, j < 18 → (mo_cr215_3 f v i o k) 215 (18 * o + j) = v 215 (18 * i + j)) ∧ (∀ j : Nat, j < 18 * o ∨ 18 * o + 18 ≤ j → (mo_cr215_3 f v i o k) 215 j = v 215 j) := by
  intro f
  induction f with
  | zero => intro k v hf h; exact ⟨fun j hj => h j (by omega), fun j _ => rfl⟩
  | succ f ih =>
    intro k v hf h
    rw [mo_cr215_3, show (18 * (o : Int) + (k : Int)).toNat = 18 * o + k by omega, show (18 * (i : Int) + (k : Int)).toNat = 18 * i + k by omega, show ((k : Int) + 1) = ((k + 1 : Nat) : Int) by omega]
    by_cases q : (k : Int) < 18
    · rw [if_pos q]
      have sr : ∀ j : Nat, j < 18 → (v2 v 215 (18 * o + k) (v 215 (18 * i + k))) 215 (18 * i + j) = v 215 (18 * i + j) := fun j hj => by
        rw [v2_eq, if_neg]
        intro g
        rcases Nat.lt_or_gt_of_ne hio with z | z <;> omega
      obtain ⟨i1, i2⟩ := ih (k + 1) (v2 v 215 (18 * o + k) (v 215 (18 * i + k))) (by omega) (fun j hj => by
        rw [sr j (by omega), v2_eq]
        by_cases z : j = k
        · rw [if_pos ⟨rfl, by omega⟩, z]
        · rw [if_neg (by omega)]
          exact h j (by omega))
      refine ⟨fun j hj => by rw [i1 j hj, sr j hj], fun j hj => ?_⟩
      rw [i2 j hj, v2_eq, if_neg (by omega)]
    · rw [if_neg q]
      exact ⟨fun j hj => h j (by omega), fun j _ => rfl⟩
theorem cr216 {i o : Nat} (hio : i ≠ o) : ∀ (f k : Nat) (v : VS), 18 < k + f → (∀ j : Nat, j < k → v 216 (18 * o + j) = v 216 (18 * i + j)) → (∀ j : Nat, j < 18 → (mo_cr216_3 f v i o k) 216 (18 * o + j) = v 216 (18 * i + j)) ∧ (∀ j : Nat, j < 18 * o ∨ 18 * o + 18 ≤ j → (mo_cr216_3 f v i o k) 216 j = v 216 j) := by
  intro f
  induction f with
  | zero => intro k v hf h; exact ⟨fun j hj => h j (by omega), fun j _ => rfl⟩
  | succ f ih =>
    intro k v hf h
    rw [mo_cr216_3, show (18 * (o : Int) + (k : Int)).toNat = 18 * o + k by omega, show (18 * (i : Int) + (k : Int)).toNat = 18 * i + k by omega, show ((k : Int) + 1) = ((k + 1 : Nat) : Int) by omega]
    by_cases q : (k : Int) < 18
    · rw [if_pos q]
      have sr : ∀ j : Nat, j < 18 → (v2 v 216 (18 * o + k) (v 216 (18 * i + k))) 216 (18 * i + j) = v 216 (18 * i + j) := fun j hj => by
        rw [v2_eq, if_neg]
        intro g
        rcases Nat.lt_or_gt_of_ne hio with z | z <;> omega
      obtain ⟨i1, i2⟩ := ih (k + 1) (v2 v 216 (18 * o + k) (v 216 (18 * i + k))) (by omega) (fun j hj => by
        rw [sr j (by omega), v2_eq]
        by_cases z : j = k
        · rw [if_pos ⟨rfl, by omega⟩, z]
        · rw [if_neg (by omega)]
          exact h j (by omega))
      refine ⟨fun j hj => by rw [i1 j hj, sr j hj], fun j hj => ?_⟩
      rw [i2 j hj, v2_eq, if_neg (by omega)]
    · rw [if_neg q]
      exact ⟨fun j hj => h j (by omega), fun j _ => rfl⟩
theorem cr217 {i o : Nat} (hio : i ≠ o) : ∀ (f k : Nat) (v : VS), 18 < k + f → (∀ j : Nat, j < k → v 217 (18 * o + j) = v 217 (18 * i + j)) → (∀ j : Nat, j < 18 → (mo_cr217_3 f v i o k) 217 (18 * o + j) = v 217 (18 * i + j)) ∧ (∀ j : Nat, j < 18 * o ∨ 18 * o + 18 ≤ j → (mo_cr217_3 f v i o k) 217 j = v 217 j) := by
  intro f
  induction f with
  | zero => intro k v hf h; exact ⟨fun j hj => h j (by omega), fun j _ => rfl⟩
  | succ f ih =>
    intro k v hf h
    rw [mo_cr217_3, show (18 * (o : Int) + (k : Int)).toNat = 18 * o + k by omega, show (18 * (i : Int) + (k : Int)).toNat = 18 * i + k by omega, show ((k : Int) + 1) = ((k + 1 : Nat) : Int) by omega]
    by_cases q : (k : Int) < 18
    · rw [if_pos q]
      have sr : ∀ j : Nat, j < 18 → (v2 v 217 (18 * o + k) (v 217 (18 * i + k))) 217 (18 * i + j) = v 217 (18 * i + j) := fun j hj => by
        rw [v2_eq, if_neg]
        intro g
        rcases Nat.lt_or_gt_of_ne hio with z | z <;> omega
      obtain ⟨i1, i2⟩ := ih (k + 1) (v2 v 217 (18 * o + k) (v 217 (18 * i + k))) (by omega) (fun j hj => by
        rw [sr j (by omega), v2_eq]
        by_cases z : j = k
        · rw [if_pos ⟨rfl, by omega⟩, z]
        · rw [if_neg (by omega)]
          exact h j (by omega))
      refine ⟨fun j hj => by rw [i1 j hj, sr j hj], fun j hj => ?_⟩
      rw [i2 j hj, v2_eq, if_neg (by omega)]
    · rw [if_neg q]
      exact ⟨fun j hj => h j (by omega), fun j _ => rfl⟩
theorem copyBay_ok {v : VS} {i o : Nat} (hio : i ≠ o) : RCB o i (mo_copyBay v i o) v ∧ (∀ j : Nat, j ≠ o → (mo_copyBay v i o) 209 j = v 209 j) ∧ (∀ j : Nat, j < 11 * o ∨ 11 * o + 11 ≤ j → (mo_copyBay v i o) 210 j = v 210 j) ∧ (∀ j : Nat, j < 27 * o ∨ 27 * o + 27 ≤ j → (mo_copyBay v i o) 211 j = v 211 j) ∧ (∀ j : Nat, j < 48 * o ∨ 48 * o + 48 ≤ j → (mo_copyBay v i o) 212 j = v 212 j) ∧ (∀ j : Nat, j < 15 * o ∨ 15 * o + 15 ≤ j → (mo_copyBay v i o) 213 j = v 213 j) ∧ (∀ j : Nat, j < 12 * o ∨ 12 * o + 12 ≤ j → (mo_copyBay v i o) 214 j = v 214 j) ∧ (∀ j : Nat, j < 18 * o ∨ 18 * o + 18 ≤ j → (mo_copyBay v i o) 215 j = v 215 j) ∧ (∀ j : Nat, j < 18 * o ∨ 18 * o + 18 ≤ j → (mo_copyBay v i o) 216 j = v 216 j) ∧ (∀ j : Nat, j < 18 * o ∨ 18 * o + 18 ≤ j → (mo_copyBay v i o) 217 j = v 217 j) := by
  unfold mo_copyBay
  have a209 := fun u : VS => cr209 (i := i) (o := o) hio 2 0 u (by omega) (fun j hj => by omega)
  have a210 := fun u : VS => cr210 (i := i) (o := o) hio 12 0 u (by omega) (fun j hj => by omega)
  have a211 := fun u : VS => cr211 (i := i) (o := o) hio 28 0 u (by omega) (fun j hj => by omega)
  have a212 := fun u : VS => cr212 (i := i) (o := o) hio 49 0 u (by omega) (fun j hj => by omega)
  have a213 := fun u : VS => cr213 (i := i) (o := o) hio 16 0 u (by omega) (fun j hj => by omega)
  have a214 := fun u : VS => cr214 (i := i) (o := o) hio 13 0 u (by omega) (fun j hj => by omega)
  have a215 := fun u : VS => cr215 (i := i) (o := o) hio 19 0 u (by omega) (fun j hj => by omega)
  have a216 := fun u : VS => cr216 (i := i) (o := o) hio 19 0 u (by omega) (fun j hj => by omega)
  have a217 := fun u : VS => cr217 (i := i) (o := o) hio 19 0 u (by omega) (fun j hj => by omega)
  have b209 : ((mo_cr217 (mo_cr216 (mo_cr215 (mo_cr214 (mo_cr213 (mo_cr212 (mo_cr211 (mo_cr210 (mo_cr209 v i o) i o) i o) i o) i o) i o) i o) i o) i o)) 209 = (mo_cr209 v i o) 209 := by
    rw [o_mo_cr217 (by omega), o_mo_cr216 (by omega), o_mo_cr215 (by omega), o_mo_cr214 (by omega), o_mo_cr213 (by omega), o_mo_cr212 (by omega), o_mo_cr211 (by omega), o_mo_cr210 (by omega)]
  have d209 : v 209 = v 209 := by
    rfl
  obtain ⟨e209, g209⟩ := a209 v
  rw [d209] at e209 g209
  have b210 : ((mo_cr217 (mo_cr216 (mo_cr215 (mo_cr214 (mo_cr213 (mo_cr212 (mo_cr211 (mo_cr210 (mo_cr209 v i o) i o) i o) i o) i o) i o) i o) i o) i o)) 210 = (mo_cr210 (mo_cr209 v i o) i o) 210 := by
    rw [o_mo_cr217 (by omega), o_mo_cr216 (by omega), o_mo_cr215 (by omega), o_mo_cr214 (by omega), o_mo_cr213 (by omega), o_mo_cr212 (by omega), o_mo_cr211 (by omega)]
  have d210 : (mo_cr209 v i o) 210 = v 210 := by
    rw [o_mo_cr209 (by omega)]
  obtain ⟨e210, g210⟩ := a210 (mo_cr209 v i o)
  rw [d210] at e210 g210
  have b211 : ((mo_cr217 (mo_cr216 (mo_cr215 (mo_cr214 (mo_cr213 (mo_cr212 (mo_cr211 (mo_cr210 (mo_cr209 v i o) i o) i o) i o) i o) i o) i o) i o) i o)) 211 = (mo_cr211 (mo_cr210 (mo_cr209 v i o) i o) i o) 211 := by
    rw [o_mo_cr217 (by omega), o_mo_cr216 (by omega), o_mo_cr215 (by omega), o_mo_cr214 (by omega), o_mo_cr213 (by omega), o_mo_cr212 (by omega)]
  have d211 : (mo_cr210 (mo_cr209 v i o) i o) 211 = v 211 := by
    rw [o_mo_cr210 (by omega), o_mo_cr209 (by omega)]
  obtain ⟨e211, g211⟩ := a211 (mo_cr210 (mo_cr209 v i o) i o)
  rw [d211] at e211 g211
  have b212 : ((mo_cr217 (mo_cr216 (mo_cr215 (mo_cr214 (mo_cr213 (mo_cr212 (mo_cr211 (mo_cr210 (mo_cr209 v i o) i o) i o) i o) i o) i o) i o) i o) i o)) 212 = (mo_cr212 (mo_cr211 (mo_cr210 (mo_cr209 v i o) i o) i o) i o) 212 := by
    rw [o_mo_cr217 (by omega), o_mo_cr216 (by omega), o_mo_cr215 (by omega), o_mo_cr214 (by omega), o_mo_cr213 (by omega)]
  have d212 : (mo_cr211 (mo_cr210 (mo_cr209 v i o) i o) i o) 212 = v 212 := by
    rw [o_mo_cr211 (by omega), o_mo_cr210 (by omega), o_mo_cr209 (by omega)]
  obtain ⟨e212, g212⟩ := a212 (mo_cr211 (mo_cr210 (mo_cr209 v i o) i o) i o)
  rw [d212] at e212 g212
  have b213 : ((mo_cr217 (mo_cr216 (mo_cr215 (mo_cr214 (mo_cr213 (mo_cr212 (mo_cr211 (mo_cr210 (mo_cr209 v i o) i o) i o) i o) i o) i o) i o) i o) i o)) 213 = (mo_cr213 (mo_cr212 (mo_cr211 (mo_cr210 (mo_cr209 v i o) i o) i o) i o) i o) 213 := by
    rw [o_mo_cr217 (by omega), o_mo_cr216 (by omega), o_mo_cr215 (by omega), o_mo_cr214 (by omega)]
  have d213 : (mo_cr212 (mo_cr211 (mo_cr210 (mo_cr209 v i o) i o) i o) i o) 213 = v 213 := by
    rw [o_mo_cr212 (by omega), o_mo_cr211 (by omega), o_mo_cr210 (by omega), o_mo_cr209 (by omega)]
  obtain ⟨e213, g213⟩ := a213 (mo_cr212 (mo_cr211 (mo_cr210 (mo_cr209 v i o) i o) i o) i o)
  rw [d213] at e213 g213
  have b214 : ((mo_cr217 (mo_cr216 (mo_cr215 (mo_cr214 (mo_cr213 (mo_cr212 (mo_cr211 (mo_cr210 (mo_cr209 v i o) i o) i o) i o) i o) i o) i o) i o) i o)) 214 = (mo_cr214 (mo_cr213 (mo_cr212 (mo_cr211 (mo_cr210 (mo_cr209 v i o) i o) i o) i o) i o) i o) 214 := by
    rw [o_mo_cr217 (by omega), o_mo_cr216 (by omega), o_mo_cr215 (by omega)]
  have d214 : (mo_cr213 (mo_cr212 (mo_cr211 (mo_cr210 (mo_cr209 v i o) i o) i o) i o) i o) 214 = v 214 := by
    rw [o_mo_cr213 (by omega), o_mo_cr212 (by omega), o_mo_cr211 (by omega), o_mo_cr210 (by omega), o_mo_cr209 (by omega)]
  obtain ⟨e214, g214⟩ := a214 (mo_cr213 (mo_cr212 (mo_cr211 (mo_cr210 (mo_cr209 v i o) i o) i o) i o) i o)
  rw [d214] at e214 g214
  have b215 : ((mo_cr217 (mo_cr216 (mo_cr215 (mo_cr214 (mo_cr213 (mo_cr212 (mo_cr211 (mo_cr210 (mo_cr209 v i o) i o) i o) i o) i o) i o) i o) i o) i o)) 215 = (mo_cr215 (mo_cr214 (mo_cr213 (mo_cr212 (mo_cr211 (mo_cr210 (mo_cr209 v i o) i o) i o) i o) i o) i o) i o) 215 := by
    rw [o_mo_cr217 (by omega), o_mo_cr216 (by omega)]
  have d215 : (mo_cr214 (mo_cr213 (mo_cr212 (mo_cr211 (mo_cr210 (mo_cr209 v i o) i o) i o) i o) i o) i o) 215 = v 215 := by
    rw [o_mo_cr214 (by omega), o_mo_cr213 (by omega), o_mo_cr212 (by omega), o_mo_cr211 (by omega), o_mo_cr210 (by omega), o_mo_cr209 (by omega)]
  obtain ⟨e215, g215⟩ := a215 (mo_cr214 (mo_cr213 (mo_cr212 (mo_cr211 (mo_cr210 (mo_cr209 v i o) i o) i o) i o) i o) i o)
  rw [d215] at e215 g215
  have b216 : ((mo_cr217 (mo_cr216 (mo_cr215 (mo_cr214 (mo_cr213 (mo_cr212 (mo_cr211 (mo_cr210 (mo_cr209 v i o) i o) i o) i o) i o) i o) i o) i o) i o)) 216 = (mo_cr216 (mo_cr215 (mo_cr214 (mo_cr213 (mo_cr212 (mo_cr211 (mo_cr210 (mo_cr209 v i o) i o) i o) i o) i o) i o) i o) i o) 216 := by
    rw [o_mo_cr217 (by omega)]
  have d216 : (mo_cr215 (mo_cr214 (mo_cr213 (mo_cr212 (mo_cr211 (mo_cr210 (mo_cr209 v i o) i o) i o) i o) i o) i o) i o) 216 = v 216 := by
    rw [o_mo_cr215 (by omega), o_mo_cr214 (by omega), o_mo_cr213 (by omega), o_mo_cr212 (by omega), o_mo_cr211 (by omega), o_mo_cr210 (by omega), o_mo_cr209 (by omega)]
  obtain ⟨e216, g216⟩ := a216 (mo_cr215 (mo_cr214 (mo_cr213 (mo_cr212 (mo_cr211 (mo_cr210 (mo_cr209 v i o) i o) i o) i o) i o) i o) i o)
  rw [d216] at e216 g216
  have b217 : ((mo_cr217 (mo_cr216 (mo_cr215 (mo_cr214 (mo_cr213 (mo_cr212 (mo_cr211 (mo_cr210 (mo_cr209 v i o) i o) i o) i o) i o) i o) i o) i o) i o)) 217 = (mo_cr217 (mo_cr216 (mo_cr215 (mo_cr214 (mo_cr213 (mo_cr212 (mo_cr211 (mo_cr210 (mo_cr209 v i o) i o) i o) i o) i o) i o) i o) i o) i o) 217 := by
    rfl
  have d217 : (mo_cr216 (mo_cr215 (mo_cr214 (mo_cr213 (mo_cr212 (mo_cr211 (mo_cr210 (mo_cr209 v i o) i o) i o) i o) i o) i o) i o) i o) 217 = v 217 := by
    rw [o_mo_cr216 (by omega), o_mo_cr215 (by omega), o_mo_cr214 (by omega), o_mo_cr213 (by omega), o_mo_cr212 (by omega), o_mo_cr211 (by omega), o_mo_cr210 (by omega), o_mo_cr209 (by omega)]
  obtain ⟨e217, g217⟩ := a217 (mo_cr216 (mo_cr215 (mo_cr214 (mo_cr213 (mo_cr212 (mo_cr211 (mo_cr210 (mo_cr209 v i o) i o) i o) i o) i o) i o) i o) i o)
  rw [d217] at e217 g217
  refine ⟨⟨?_, fun j hj => ?_, fun j hj => ?_, fun j hj => ?_, fun j hj => ?_, fun j hj => ?_, fun j hj => ?_, fun j hj => ?_, fun j hj => ?_⟩, fun j hj => ?_, fun j hj => ?_, fun j hj => ?_, fun j hj => ?_, fun j hj => ?_, fun j hj => ?_, fun j hj => ?_, fun j hj => ?_, fun j hj => ?_⟩
  · rw [b209]
    have := e209 0 (by omega)
    rw [show 1 * o + 0 = o by omega, show 1 * i + 0 = i by omega] at this
    exact this
  · rw [b210]; exact e210 j hj
  · rw [b211]; exact e211 j hj
  · rw [b212]; exact e212 j hj
  · rw [b213]; exact e213 j hj
  · rw [b214]; exact e214 j hj
  · rw [b215]; exact e215 j hj
  · rw [b216]; exact e216 j hj
  · rw [b217]; exact e217 j hj
  · rw [b209]; exact g209 j (by omega)
  · rw [b210]; exact g210 j hj
  · rw [b211]; exact g211 j hj
  · rw [b212]; exact g212 j hj
  · rw [b213]; exact g213 j hj
  · rw [b214]; exact g214 j hj
  · rw [b215]; exact g215 j hj
  · rw [b216]; exact g216 j hj
  · rw [b217]; exact g217 j hj
