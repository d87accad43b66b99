
/-! reading the tape, token by token -/
def TK (a b : VS) (n : Nat) : Prop :=
  (n ≤ 2000) ∧
  (a 2 4 = n) ∧
  (b 203 6 = n) ∧
  (∀ j : Nat, j < n → a 1 j = b 208 j)
theorem TK.l {a b : VS} {n : Nat} (h : TK a b n) : n ≤ 2000 := h.1
theorem TK.c {a b : VS} {n : Nat} (h : TK a b n) : a 2 4 = n := h.2.1
theorem TK.m {a b : VS} {n : Nat} (h : TK a b n) : b 203 6 = n := h.2.2.1
theorem TK.t {a b : VS} {n : Nat} (h : TK a b n) : ∀ j : Nat, j < n → a 1 j = b 208 j := h.2.2.2
theorem TK.of {a b a' b' : VS} {n : Nat} (h : TK a b n) (e1 : a' 1 = a 1) (e2 : a' 2 4 = a 2 4) (e8 : b' 208 = b 208) (e6 : b' 203 6 = b 203 6) : TK a' b' n := ⟨h.l, by rw [e2, h.c], by rw [e6, h.m], fun j hj => by rw [e1, e8, h.t j hj]⟩
theorem v2_id5 {v : VS} {k j : Nat} {x : Int} (h : v k j = x) : v2 v k j x = v := by
  funext k' j'
  rw [v2_eq]
  split
  · rename_i q; rw [q.1, q.2, h]
  · rfl
theorem v2_two5 {v : VS} {k j : Nat} {x y : Int} : v2 (v2 v k j x) k j y = v2 v k j y := by
  funext k' j'
  rw [v2_eq, v2_eq, v2_eq]
  split <;> rfl
theorem adv8 {n : Nat} : ∀ (f p : Nat) (a b : VS), TK a b n → a 2 6 = p → b 203 7 = p → p ≤ n → n < p + f → ∃ p' : Nat, p ≤ p' ∧ p' ≤ n ∧ cl_advance_8 f a = v2 a 2 6 p' ∧ mo_next_0 f b = v2 b 203 7 p' ∧ (p' < n → a 1 p' ≠ 32 ∧ a 1 p' ≠ 10) := by
  intro f
  induction f with
  | zero => intro p a b h h1 h2 h3 h4; omega
  | succ f ih =>
    intro p a b h h1 h2 h3 h4
    rw [cl_advance_8, mo_next_0, h1, h2, h.c, h.m, toN]
    by_cases q : p < n
    · have eb := h.t p q
      rw [if_pos (show (p : Int) < n by omega), eb]
      have go : ∃ p' : Nat, p ≤ p' ∧ p' ≤ n ∧ cl_advance_8 f (v2 a 2 6 ((p : Int) + 1)) = v2 a 2 6 p' ∧ mo_next_0 f (v2 b 203 7 ((p : Int) + 1)) = v2 b 203 7 p' ∧ (p' < n → a 1 p' ≠ 32 ∧ a 1 p' ≠ 10) := by
        obtain ⟨p', g1, g2, g3, g4, g5⟩ := ih (p + 1) (v2 a 2 6 ((p : Int) + 1)) (v2 b 203 7 ((p : Int) + 1)) (h.of (v2_row (by omega)) (by rw [v2_eq, if_neg (by omega)]) (v2_row (by omega)) (by rw [v2_eq, if_neg (by omega)])) (by rw [v2_eq, if_pos ⟨rfl, rfl⟩]; omega) (by rw [v2_eq, if_pos ⟨rfl, rfl⟩]; omega) (by omega) (by omega)
        rw [v2_two5] at g3 g4
        rw [v2_row (by omega)] at g5
        exact ⟨p', by omega, g2, g3, g4, g5⟩
      by_cases x : b 208 p = 32
      · rw [if_pos x, if_pos ⟨by omega, by omega, by omega⟩]
        exact go
      · rw [if_neg x, if_neg (show ¬ ((p : Int) < n ∧ 32 ≤ b 208 p ∧ b 208 p ≤ 32) by omega)]
        by_cases y : b 208 p = 10
        · rw [if_pos y, if_pos ⟨by omega, by omega, by omega⟩]
          exact go
        · rw [if_neg y, if_neg (show ¬ ((p : Int) < n ∧ 10 ≤ b 208 p ∧ b 208 p ≤ 10) by omega)]
          exact ⟨p, by omega, h3, (v2_id5 h1).symm, (v2_id5 h2).symm, fun _ => by rw [eb]; exact ⟨x, y⟩⟩
    · rw [if_neg (by omega), if_neg (by omega), if_neg (by omega)]
      exact ⟨p, by omega, h3, (v2_id5 h1).symm, (v2_id5 h2).symm, fun z => by omega⟩
/-- a word as a number: letters to the base 27, -1 beyond twelve -/
def wfold (t : Nat → Int) : Nat → Int → Int → Nat → Int
  | 0, _, w, _ => w
  | m + 1, k, w, p => wfold t m (k + 1) (if 11 < k then -1 else 27 * w + t p - 96) (p + 1)
theorem adv103 {n : Nat} : ∀ (f p : Nat) (a b : VS) (k : Int), TK a b n → a 2 7 = p → b 203 7 = p → p ≤ n → n < p + f → ∃ p' : Nat, p ≤ p' ∧ p' ≤ n ∧ cl_advance_103 f a = v2 a 2 7 p' ∧ mo_next_102 f b k = v2 (v2 b 203 11 (wfold (a 1) (p' - p) k (b 203 11) p)) 203 7 p' ∧ (∀ j : Nat, p ≤ j → j < p' → 97 ≤ a 1 j ∧ a 1 j ≤ 122) ∧ (p' < n → ¬ (97 ≤ a 1 p' ∧ a 1 p' ≤ 122)) := by
  intro f
  induction f with
  | zero => intro p a b k h h1 h2 h3 h4; omega
  | succ f ih =>
    intro p a b k h h1 h2 h3 h4
    rw [cl_advance_103, mo_next_102, h1, h2, h.c, h.m, toN]
    by_cases q : p < n
    · have eb := h.t p q
      rw [if_pos (show (p : Int) < n by omega), ← eb]
      by_cases x : 97 ≤ a 1 p ∧ a 1 p ≤ 122
      · rw [if_pos (show (p : Int) < n ∧ 97 ≤ a 1 p ∧ a 1 p ≤ 122 by omega), if_pos (show (p : Int) < n ∧ 97 ≤ a 1 p ∧ a 1 p ≤ 122 by omega)]
        have go : ∀ w0 : Int, w0 = (if 11 < k then -1 else 27 * b 203 11 + a 1 p - 96) → ∃ p' : Nat, p ≤ p' ∧ p' ≤ n ∧ cl_advance_103 f (v2 a 2 7 ((p : Int) + 1)) = v2 a 2 7 p' ∧ mo_next_102 f (v2 (v2 b 203 11 w0) 203 7 ((p : Int) + 1)) (k + 1) = v2 (v2 b 203 11 (wfold (a 1) (p' - p) k (b 203 11) p)) 203 7 p' ∧ (∀ j : Nat, p ≤ j → j < p' → 97 ≤ a 1 j ∧ a 1 j ≤ 122) ∧ (p' < n → ¬ (97 ≤ a 1 p' ∧ a 1 p' ≤ 122)) := fun w0 hw0 => by
          obtain ⟨p', g1, g2, g3, g4, g5, g6⟩ := ih (p + 1) (v2 a 2 7 ((p : Int) + 1)) (v2 (v2 b 203 11 w0) 203 7 ((p : Int) + 1)) (k + 1) (h.of (v2_row (by omega)) (by rw [v2_eq, if_neg (by omega)]) (by rw [v2_row (by omega), v2_row (by omega)]) (by rw [v2_eq, if_neg (by omega), v2_eq, if_neg (by omega)])) (by rw [v2_eq, if_pos ⟨rfl, rfl⟩]; omega) (by rw [v2_eq, if_pos ⟨rfl, rfl⟩]; omega) (by omega) (by omega)
          rw [v2_two5] at g3
          rw [v2_row (by omega)] at g5 g6
          have ew : wfold (a 1) (p' - p) k (b 203 11) p = wfold (a 1) (p' - (p + 1)) (k + 1) w0 (p + 1) := by
            rw [show p' - p = (p' - (p + 1)) + 1 by omega, wfold, hw0]
          have e11 : (v2 (v2 b 203 11 w0) 203 7 ((p : Int) + 1)) 203 11 = w0 := by rw [v2_eq, if_neg (by omega), v2_eq, if_pos ⟨rfl, rfl⟩]
          rw [e11, v2_row (by omega)] at g4
          refine ⟨p', by omega, g2, g3, ?_, fun j j1 j2 => ?_, g6⟩
          · rw [g4, ew]
            funext k2 j2
            simp only [v2_eq]
            repeat' split
            all_goals first | rfl | omega
          · by_cases e : j = p
            · rw [e]; exact x
            · exact g5 j (by omega) j2
        by_cases z : 11 < k
        · rw [if_pos z, if_pos z, v2_two5]
          exact go _ (by rw [if_pos z])
        · rw [if_neg z, if_neg z]
          exact go _ (by rw [if_neg z])
      · rw [if_neg (show ¬ ((p : Int) < n ∧ 97 ≤ a 1 p ∧ a 1 p ≤ 122) by omega), if_neg (show ¬ ((p : Int) < n ∧ 97 ≤ a 1 p ∧ a 1 p ≤ 122) by omega)]
        refine ⟨p, by omega, h3, (v2_id5 h1).symm, ?_, fun j j1 j2 => by omega, fun _ => x⟩
        rw [Nat.sub_self, wfold, v2_id5 rfl, v2_id5 h2]
    · rw [if_neg (show ¬ (p : Int) < n by omega), if_neg (fun y => q (by omega))]
      refine ⟨p, by omega, h3, (v2_id5 h1).symm, ?_, fun j j1 j2 => by omega, fun y => by omega⟩
      rw [Nat.sub_self, wfold, v2_id5 rfl, v2_id5 h2]
theorem adv159 {n : Nat} : ∀ (f p : Nat) (a b : VS), TK a b n → a 2 7 = p → b 203 7 = p → p ≤ n → n < p + f → a 2 8 = min 1000000 (b 203 10) → 0 ≤ b 203 10 ∧ b 203 10 ≤ 1000009 → ∃ (p' : Nat) (x : Int), p ≤ p' ∧ p' ≤ n ∧ cl_advance_159 f a = v2 (v2 a 2 8 (min 1000000 x)) 2 7 p' ∧ mo_next_208 f b = v2 (v2 b 203 10 x) 203 7 p' ∧ (0 ≤ x ∧ x ≤ 1000009) := by
  intro f
  induction f with
  | zero => intro p a b h h1 h2 h3 h4; omega
  | succ f ih =>
    intro p a b h h1 h2 h3 h4 h5 h6
    rw [cl_advance_159, mo_next_208, h1, h2, h.c, h.m, toN]
    have stop : ∃ (p' : Nat) (x : Int), p ≤ p' ∧ p' ≤ n ∧ a = v2 (v2 a 2 8 (min 1000000 x)) 2 7 p' ∧ b = v2 (v2 b 203 10 x) 203 7 p' ∧ (0 ≤ x ∧ x ≤ 1000009) := by
      refine ⟨p, b 203 10, by omega, h3, ?_, ?_, h6⟩
      · rw [v2_id5 h5, v2_id5 h1]
      · rw [v2_id5 rfl, v2_id5 h2]
    by_cases q : p < n
    · have eb := h.t p q
      rw [if_pos (show (p : Int) < n by omega), ← eb]
      by_cases x : 48 ≤ a 1 p ∧ a 1 p ≤ 57
      · rw [if_pos (show (p : Int) < n ∧ 48 ≤ a 1 p ∧ a 1 p ≤ 57 by omega), if_pos (show (p : Int) < n ∧ 48 ≤ a 1 p ∧ a 1 p ≤ 57 by omega)]
        have go : ∀ c m : Int, c = min 1000000 m → (0 ≤ m ∧ m ≤ 1000009) → ∃ (p' : Nat) (x : Int), p ≤ p' ∧ p' ≤ n ∧ cl_advance_159 f (v2 (v2 a 2 8 c) 2 7 ((p : Int) + 1)) = v2 (v2 a 2 8 (min 1000000 x)) 2 7 p' ∧ mo_next_208 f (v2 (v2 b 203 10 m) 203 7 ((p : Int) + 1)) = v2 (v2 b 203 10 x) 203 7 p' ∧ (0 ≤ x ∧ x ≤ 1000009) := fun c m hc hm => by
          obtain ⟨p', y, g1, g2, g3, g4, g5⟩ := ih (p + 1) (v2 (v2 a 2 8 c) 2 7 ((p : Int) + 1)) (v2 (v2 b 203 10 m) 203 7 ((p : Int) + 1)) (h.of (by rw [v2_row (by omega), v2_row (by omega)]) (by rw [v2_eq, if_neg (by omega), v2_eq, if_neg (by omega)]) (by rw [v2_row (by omega), v2_row (by omega)]) (by rw [v2_eq, if_neg (by omega), v2_eq, if_neg (by omega)])) (by rw [v2_eq, if_pos ⟨rfl, rfl⟩]; omega) (by rw [v2_eq, if_pos ⟨rfl, rfl⟩]; omega) (by omega) (by omega) (by rw [v2_eq, if_neg (by omega), v2_eq, if_pos ⟨rfl, rfl⟩, v2_eq, if_neg (by omega), v2_eq, if_pos ⟨rfl, rfl⟩]; exact hc) (by rw [v2_eq, if_neg (by omega), v2_eq, if_pos ⟨rfl, rfl⟩]; exact hm)
          refine ⟨p', y, by omega, g2, ?_, ?_, g5⟩
          · rw [g3]
            funext k2 j2
            simp only [v2_eq]
            repeat' split
            all_goals first | rfl | omega
          · rw [g4]
            funext k2 j2
            simp only [v2_eq]
            repeat' split
            all_goals first | rfl | omega
        by_cases z : 100000 < b 203 10
        · rw [if_pos z]
          exact go _ _ (by rw [h5]; omega) (by omega)
        · rw [if_neg z]
          exact go _ _ (by rw [h5]; omega) (by omega)
      · rw [if_neg (show ¬ ((p : Int) < n ∧ 48 ≤ a 1 p ∧ a 1 p ≤ 57) by omega), if_neg (show ¬ ((p : Int) < n ∧ 48 ≤ a 1 p ∧ a 1 p ≤ 57) by omega)]
        exact stop
    · rw [if_neg (show ¬ (p : Int) < n by omega), if_neg (fun y => q (by omega))]
      exact stop
