/-! the reference's winds -/
theorem lw16 {v : VS} {t : Nat} : ∀ (f k : Nat) (g : Int), WB k (fun j => v 214 (2 * j)) t g → (k : Int) ≤ v 210 5 → v 210 5 < k + f → WB (v 210 5) (fun j => v 214 (2 * j)) t (mo_laysWinds_16 f v t g k) := by
  intro f
  induction f with
  | zero => intro k g h h1 h2; omega
  | succ f ih =>
    intro k g h h1 h2
    have hr := h.r
    rw [mo_laysWinds_16, show (2 * (k : Int)).toNat = 2 * k by omega, show ((k : Int) + 1) = ((k + 1 : Nat) : Int) by omega]
    have same : (¬ v 214 (2 * k) ≤ t ∨ (g ≠ -1 ∧ v 214 (2 * k) < v 214 (2 * g.toNat))) → WB ((k + 1 : Nat) : Int) (fun j => v 214 (2 * j)) t g := by
      intro c
      refine ⟨by omega, fun a j hj => ?_, fun a => h.le a, fun a j hj hle => ?_⟩
      · by_cases e : j = k
        · subst e
          show (t : Int) < v 214 (2 * j)
          omega
        · exact h.no a j (by omega)
      · by_cases e : j = k
        · subst e
          have hle : v 214 (2 * j) ≤ t := hle
          show v 214 (2 * j) < v 214 (2 * g.toNat) ∨ _
          omega
        · exact h.mx a j (by omega) hle
    have new : v 214 (2 * k) ≤ t → (g ≠ -1 → v 214 (2 * g.toNat) ≤ v 214 (2 * k)) → WB ((k + 1 : Nat) : Int) (fun j => v 214 (2 * j)) t (k : Int) := by
      intro c1 c2
      refine ⟨by omega, fun a => by omega, fun a => ?_, fun a j hj hle => ?_⟩
      · show v 214 (2 * ((k : Int)).toNat) ≤ t
        rw [toN]
        exact c1
      · show v 214 (2 * j) < v 214 (2 * ((k : Int)).toNat) ∨ (v 214 (2 * j) = v 214 (2 * ((k : Int)).toNat) ∧ (j : Int) ≤ k)
        rw [toN]
        have hle : v 214 (2 * j) ≤ t := hle
        by_cases e : j = k
        · subst e
          omega
        · by_cases z : g = -1
          · have q : (t : Int) < v 214 (2 * j) := h.no z j (by omega)
            omega
          · have q : v 214 (2 * j) < v 214 (2 * g.toNat) ∨ (v 214 (2 * j) = v 214 (2 * g.toNat) ∧ (j : Int) ≤ g) := h.mx z j (by omega) hle
            have := c2 z
            omega
    by_cases q : (k : Int) < v 210 5
    · rw [if_pos q]
      by_cases q1 : (t : Int) < v 214 (2 * k)
      · rw [if_pos q1]
        exact ih (k + 1) g (same (Or.inl (by omega))) (by omega) (by omega)
      · rw [if_neg q1]
        by_cases q2 : g = -1
        · rw [if_pos q2]
          exact ih (k + 1) k (new (by omega) (fun z => absurd q2 z)) (by omega) (by omega)
        · rw [if_neg q2, show (2 * g).toNat = 2 * g.toNat by omega]
          by_cases q3 : v 214 (2 * k) < v 214 (2 * g.toNat)
          · rw [if_pos q3]
            exact ih (k + 1) g (same (Or.inr ⟨q2, q3⟩)) (by omega) (by omega)
          · rw [if_neg q3]
            exact ih (k + 1) k (new (by omega) (fun z => by omega)) (by omega) (by omega)
    · rw [if_neg q, show v 210 5 = (k : Int) by omega]
      exact h
theorem lw2 : ∀ (f t : Nat) (v : VS), 0 ≤ v 210 5 → v 210 5 ≤ 6 → v 210 1 < t + f →
    (∀ t' : Nat, t' < t → (mo_laysWinds_2 f v t) 219 t' = v 219 t') ∧
    (∀ t' : Nat, t ≤ t' → (t' : Int) < v 210 1 → ∃ g : Int, WB (v 210 5) (fun j => v 214 (2 * j)) t' g ∧ (mo_laysWinds_2 f v t) 219 t' = v 203 27 + (if g = -1 ∨ v 203 34 = 3 then 0 else v 214 (2 * g.toNat + 1))) := by
  intro f
  induction f with
  | zero => intro t v h5 h6 hf; exact ⟨fun t' _ => rfl, fun t' t1 t2 => by omega⟩
  | succ f ih =>
    intro t v h5 h6 hf
    have hW := lw16 (v := v) (t := t) 7 0 (-1) ⟨by omega, fun _ k hk => by omega, fun a => absurd rfl a, fun a => absurd rfl a⟩ (by omega) (by omega)
    rw [show ((0 : Nat) : Int) = 0 from rfl] at hW
    rw [mo_laysWinds_2, toN, show ((t : Int) + 1) = ((t + 1 : Nat) : Int) by omega]
    obtain ⟨g, hg⟩ : ∃ g, g = mo_laysWinds_16 7 v (t : Int) (-1) 0 := ⟨_, rfl⟩
    rw [← hg] at hW ⊢
    have hr := hW.r
    have key : ∀ x : Int, x = v 203 27 + (if g = -1 ∨ v 203 34 = 3 then 0 else v 214 (2 * g.toNat + 1)) → (t : Int) < v 210 1 →
        (∀ t' : Nat, t' < t → (mo_laysWinds_2 f (v2 v 219 t x) ((t + 1 : Nat) : Int)) 219 t' = v 219 t') ∧
        (∀ t' : Nat, t ≤ t' → (t' : Int) < v 210 1 → ∃ g : Int, WB (v 210 5) (fun j => v 214 (2 * j)) t' g ∧ (mo_laysWinds_2 f (v2 v 219 t x) ((t + 1 : Nat) : Int)) 219 t' = v 203 27 + (if g = -1 ∨ v 203 34 = 3 then 0 else v 214 (2 * g.toNat + 1))) := by
      intro x hx ht
      have r : ∀ k, k ≠ 219 → (v2 v 219 t x) k = v k := fun k hk => v2_row hk
      obtain ⟨j1, j2⟩ := ih (t + 1) (v2 v 219 t x) (by rw [r 210 (by omega)]; exact h5) (by rw [r 210 (by omega)]; exact h6) (by rw [r 210 (by omega)]; omega)
      rw [r 210 (by omega), r 214 (by omega), r 203 (by omega)] at j2
      refine ⟨fun t' ht' => ?_, fun t' t1 t2 => ?_⟩
      · rw [j1 t' (by omega), v2_eq, if_neg (by omega)]
      · by_cases e : t' = t
        · subst e
          refine ⟨g, hW, ?_⟩
          rw [j1 t' (by omega), v2_eq, if_pos ⟨rfl, rfl⟩, hx]
        · exact j2 t' (by omega) t2
    by_cases q : (t : Int) < v 210 1
    · rw [if_pos q]
      by_cases q1 : g = -1
      · rw [if_pos q1]
        exact key _ (by rw [if_pos (Or.inl q1)]) q
      · rw [if_neg q1]
        by_cases q2 : v 203 34 = 3
        · rw [if_pos q2]
          exact key _ (by rw [if_pos (Or.inr q2)]) q
        · rw [if_neg q2]
          refine key _ ?_ q
          rw [if_neg (fun z => z.elim q1 q2), show (2 * g + 1).toNat = 2 * g.toNat + 1 by omega]
    · rw [if_neg q]
      exact ⟨fun t' _ => rfl, fun t' t1 t2 => by omega⟩
/-! a state of the class that is to be played, and one of the reference -/
def BR (s : VS) (u : VS) : Prop :=
  (∀ k : Nat, 33 ≤ k → k ≤ 66 → s k = u k) ∧
  (∃ w : Nat → Int, BQ 33 0 (fset u 213 w)) ∧
  (XI u) ∧
  (AIR u) ∧
  (∀ c : Nat, c < 9 → bt (s 67 0) c = bt (u 203 30) c) ∧
  (∀ e : Nat, e < 12 → bt (s 67 1) e = bt (u 203 31) e) ∧
  (s 67 4 = u 203 34) ∧
  (s 67 5 = u 203 35) ∧
  (u 203 33 = u 203 32 + s 68 0) ∧
  (0 ≤ u 203 32) ∧
  (∀ k : Nat, (k : Int) < s 68 0 → u 213 (3 * ((u 203 32).toNat + k) + 1) = s 70 k ∧ u 213 (3 * ((u 203 32).toNat + k)) = s 69 k ∧ u 213 (3 * ((u 203 32).toNat + k) + 2) = s 71 k) ∧
  (∀ t : Nat, (t : Int) < u 33 1 → (mo_laysWinds u) 219 t = xwind s t)
theorem BR.e {s : VS} {u : VS} (h : BR s u) : ∀ k : Nat, 33 ≤ k → k ≤ 66 → s k = u k := h.1
theorem BR.b {s : VS} {u : VS} (h : BR s u) : ∃ w : Nat → Int, BQ 33 0 (fset u 213 w) := h.2.1
theorem BR.x {s : VS} {u : VS} (h : BR s u) : XI u := h.2.2.1
theorem BR.a {s : VS} {u : VS} (h : BR s u) : AIR u := h.2.2.2.1
theorem BR.mu {s : VS} {u : VS} (h : BR s u) : ∀ c : Nat, c < 9 → bt (s 67 0) c = bt (u 203 30) c := h.2.2.2.2.1
theorem BR.cu {s : VS} {u : VS} (h : BR s u) : ∀ e : Nat, e < 12 → bt (s 67 1) e = bt (u 203 31) e := h.2.2.2.2.2.1
theorem BR.la {s : VS} {u : VS} (h : BR s u) : s 67 4 = u 203 34 := h.2.2.2.2.2.2.1
theorem BR.du {s : VS} {u : VS} (h : BR s u) : s 67 5 = u 203 35 := h.2.2.2.2.2.2.2.1
theorem BR.ns {s : VS} {u : VS} (h : BR s u) : u 203 33 = u 203 32 + s 68 0 := h.2.2.2.2.2.2.2.2.1
theorem BR.s0 {s : VS} {u : VS} (h : BR s u) : 0 ≤ u 203 32 := h.2.2.2.2.2.2.2.2.2.1
theorem BR.st {s : VS} {u : VS} (h : BR s u) : ∀ k : Nat, (k : Int) < s 68 0 → u 213 (3 * ((u 203 32).toNat + k) + 1) = s 70 k ∧ u 213 (3 * ((u 203 32).toNat + k)) = s 69 k ∧ u 213 (3 * ((u 203 32).toNat + k) + 2) = s 71 k := h.2.2.2.2.2.2.2.2.2.2.1
theorem BR.wi {s : VS} {u : VS} (h : BR s u) : ∀ t : Nat, (t : Int) < u 33 1 → (mo_laysWinds u) 219 t = xwind s t := h.2.2.2.2.2.2.2.2.2.2.2
theorem takes_eq {s u : VS} {e t : Nat} (hX : XI s) (h2 : u 212 (4 * e + 2) = s 40 e) (h3 : u 212 (4 * e + 3) = s 41 e) (hw : u 219 t = xwind s t) : mo_takesOf u e t = xlag s e (xwind s t) := by
  have h41 : 0 ≤ s 41 e ∧ s 41 e ≤ 2 := hX 41 e
  unfold mo_takesOf xlag
  rw [show ((4 * (e : Int)) + 3).toNat = 4 * e + 3 by omega, show ((4 * (e : Int)) + 2).toNat = 4 * e + 2 by omega, toN, toN, h2, h3, hw]
  obtain ⟨w, hw'⟩ : ∃ w, w = xwind s t := ⟨_, rfl⟩
  rw [← hw']
  have : s 41 e = 0 ∨ s 41 e = 1 ∨ s 41 e = 2 := by omega
  rcases this with q | q | q
  · rw [q]; simp
  · rw [q]
    simp only [if_true, show ¬ ((1 : Int) = 0) by omega, if_false]
    split <;> omega
  · rw [q]
    simp only [if_true, show ¬ ((2 : Int) = 0) by omega, show ¬ ((2 : Int) = 1) by omega, if_false]
    split <;> omega
theorem BQ.ex {u : VS} (h : BQ 33 0 u) : ∃ w : Nat → Int, BQ 33 0 (fset u 213 w) := ⟨u 213, by
  have e : fset u 213 (u 213) = u := by
    funext k
    rw [fset_at]
    split
    · rename_i q; rw [q]
    · rfl
  rw [e]
  exact h⟩
theorem BR.mp {s u : VS} (hs : SG s) (h : BR s u) : MP (pln (cP s)) (mo_laysWinds u) := by
  obtain ⟨bw, hb⟩ := h.b
  obtain ⟨c0, c1, c2, c3, c4, c5, c6, c7, c8, c9⟩ := cP_0 s
  have r : ∀ k, 209 ≤ k → k ≤ 218 → (mo_laysWinds u) k = u k := fun k a b => o_mo_laysWinds (by omega)
  have f : ∀ j, 30 ≤ j → j ≤ 35 → (mo_laysWinds u) 203 j = u 203 j := fun j a b => f_lw (by omega)
  have p0 : ∀ j, j ≠ 1 → j ≠ 6 → j ≠ 7 → j ≠ 8 → pln (cP s) 0 j = cP s 0 j := fun j a b c d => by rw [pln_0, if_neg a, if_neg b, if_neg c, if_neg d]
  have p1 : pln (cP s) 0 1 = s 33 1 := by rw [pln_0, if_pos rfl, c2]
  have q0 : pln (cP s) 0 0 = s 33 0 := by rw [p0 0 (by omega) (by omega) (by omega) (by omega), c0]
  have q2 : pln (cP s) 0 2 = s 33 1 := by rw [p0 2 (by omega) (by omega) (by omega) (by omega), c2]
  have q3 : pln (cP s) 0 3 = s 37 0 := by rw [p0 3 (by omega) (by omega) (by omega) (by omega), c3]
  have q4 : pln (cP s) 0 4 = (if s 67 4 = 4 then 1 else 0) := by rw [p0 4 (by omega) (by omega) (by omega) (by omega), c4]
  have q5 : pln (cP s) 0 5 = s 67 5 := by rw [p0 5 (by omega) (by omega) (by omega) (by omega), c5]
  have q9 : pln (cP s) 0 9 = s 68 0 := by rw [p0 9 (by omega) (by omega) (by omega) (by omega), c9]
  have hC : 0 ≤ s 33 0 ∧ s 33 0 ≤ 9 := hs.x 33 0
  have hS : 0 ≤ s 33 1 ∧ s 33 1 ≤ 300 := hs.x 33 1
  have hE : 0 ≤ s 37 0 ∧ s 37 0 ≤ 12 := hs.x 37 0
  have e33 := h.e 33 (by omega) (by omega)
  have e34 := h.e 34 (by omega) (by omega)
  have e35 := h.e 35 (by omega) (by omega)
  have e36 := h.e 36 (by omega) (by omega)
  have e37 := h.e 37 (by omega) (by omega)
  have e38 := h.e 38 (by omega) (by omega)
  have e39 := h.e 39 (by omega) (by omega)
  have e40 := h.e 40 (by omega) (by omega)
  have e41 := h.e 41 (by omega) (by omega)
  have e64 := h.e 64 (by omega) (by omega)
  have e65 := h.e 65 (by omega) (by omega)
  have e66 := h.e 66 (by omega) (by omega)
  have f0 : s 33 0 = u 33 0 := by rw [e33]
  have f1 : s 33 1 = u 33 1 := by rw [e33]
  have f3 : s 37 0 = u 37 0 := by rw [e37]
  have bC : u 33 0 = u 210 0 := hb.C
  have bS : u 33 1 = u 210 1 := hb.S
  have bE : u 37 0 = u 210 3 := hb.E
  have hea : ∀ e : Nat, (e : Int) < s 37 0 → u 38 e = u 212 (4 * e) ∧ u 39 e = u 212 (4 * e + 1) ∧ u 40 e = u 212 (4 * e + 2) ∧ u 41 e = u 212 (4 * e + 3) := by
    intro e he
    have q := hb.ea e (by show (e : Int) < u 37 0; rw [← e37]; exact he)
    simp only [Nat.mul_zero, Nat.zero_add] at q
    exact q
  have hch : ∀ c : Nat, c < 9 → u 34 c = u 211 (3 * c) ∧ u 35 c = u 211 (3 * c + 1) ∧ u 36 c = u 211 (3 * c + 2) := by
    intro c hc
    have q := hb.ch c hc
    simp only [Nat.mul_zero, Nat.zero_add] at q
    exact q
  have hF : u 50 0 = u 210 6 := hb.F
  have hG : u 54 0 = u 210 7 := hb.G
  have hH : u 58 0 = u 210 8 := hb.H
  have hfo : ∀ i : Nat, (i : Int) < u 50 0 → u 51 i = u 215 (3 * i) ∧ u 52 i = u 215 (3 * i + 1) ∧ u 53 i = u 215 (3 * i + 2) := by
    intro i hi
    have q := hb.fo i hi
    simp only [Nat.mul_zero, Nat.zero_add] at q
    exact q
  have hde : ∀ i : Nat, (i : Int) < u 54 0 → u 55 i = u 216 (3 * i) ∧ u 56 i = u 216 (3 * i + 1) ∧ u 57 i = u 216 (3 * i + 2) := by
    intro i hi
    have q := hb.de i hi
    simp only [Nat.mul_zero, Nat.zero_add] at q
    exact q
  have hfu : ∀ i : Nat, (i : Int) < u 58 0 → u 59 i = u 217 (3 * i) ∧ u 60 i = u 217 (3 * i + 1) ∧ u 61 i = u 217 (3 * i + 2) := by
    intro i hi
    have q := hb.fu i hi
    simp only [Nat.mul_zero, Nat.zero_add] at q
    exact q
  have b50 : 0 ≤ u 50 0 ∧ u 50 0 ≤ 6 := h.x 50 0
  have b54 : 0 ≤ u 54 0 ∧ u 54 0 ≤ 6 := h.x 54 0
  have b58 : 0 ≤ u 58 0 ∧ u 58 0 ≤ 6 := h.x 58 0
  have i215 : ∀ e t : Nat, e < 12 → t < 300 → (mo_isIn215 (mo_laysWinds u) (u 210 6) e t ≠ 0 ↔ bt (s 64 t) e = 1) := by
    intro e t he ht
    rw [e64, h.a.f e t he ht]
    unfold mo_isIn215
    have q := isIn215_ok (v := mo_laysWinds u) (n := u 210 6) (t := (t : Int)) (o := (e : Int)) 7 0 (by omega)
    rw [show ((0 : Nat) : Int) = 0 from rfl] at q
    rw [q, r 215 (by omega) (by omega)]
    constructor
    · rintro ⟨j, g1, g2, g3, g4, g5⟩
      obtain ⟨w1, w2, w3⟩ := hfo j (by omega)
      exact ⟨j, by omega, by omega, by omega, by omega⟩
    · rintro ⟨j, g2, g3, g4, g5⟩
      obtain ⟨w1, w2, w3⟩ := hfo j g2
      exact ⟨j, by omega, by omega, by omega, by omega, by omega⟩
  have i216 : ∀ c t : Nat, c < 9 → t < 300 → (mo_isIn216 (mo_laysWinds u) (u 210 7) c t ≠ 0 ↔ bt (s 65 t) c = 1) := by
    intro c t hc ht
    rw [e65, h.a.d c t hc ht]
    unfold mo_isIn216
    have q := isIn216_ok (v := mo_laysWinds u) (n := u 210 7) (t := (t : Int)) (o := (c : Int)) 7 0 (by omega)
    rw [show ((0 : Nat) : Int) = 0 from rfl] at q
    rw [q, r 216 (by omega) (by omega)]
    constructor
    · rintro ⟨j, g1, g2, g3, g4, g5⟩
      obtain ⟨w1, w2, w3⟩ := hde j (by omega)
      exact ⟨j, by omega, by omega, by omega, by omega⟩
    · rintro ⟨j, g2, g3, g4, g5⟩
      obtain ⟨w1, w2, w3⟩ := hde j g2
      exact ⟨j, by omega, by omega, by omega, by omega, by omega⟩
  have i217 : ∀ c t : Nat, c < 9 → t < 300 → (mo_isIn217 (mo_laysWinds u) (u 210 8) c t ≠ 0 ↔ bt (s 66 t) c = 1) := by
    intro c t hc ht
    rw [e66, h.a.u c t hc ht]
    unfold mo_isIn217
    have q := isIn217_ok (v := mo_laysWinds u) (n := u 210 8) (t := (t : Int)) (o := (c : Int)) 7 0 (by omega)
    rw [show ((0 : Nat) : Int) = 0 from rfl] at q
    rw [q, r 217 (by omega) (by omega)]
    constructor
    · rintro ⟨j, g1, g2, g3, g4, g5⟩
      obtain ⟨w1, w2, w3⟩ := hfu j (by omega)
      exact ⟨j, by omega, by omega, by omega, by omega⟩
    · rintro ⟨j, g2, g3, g4, g5⟩
      obtain ⟨w1, w2, w3⟩ := hfu j g2
      exact ⟨j, by omega, by omega, by omega, by omega, by omega⟩
  unfold MP
  rw [r 210 (by omega) (by omega), r 211 (by omega) (by omega), r 212 (by omega) (by omega), r 213 (by omega) (by omega), f 30 (by omega) (by omega), f 31 (by omega) (by omega), f 32 (by omega) (by omega), f 33 (by omega) (by omega), f 34 (by omega) (by omega), f 35 (by omega) (by omega), q0, p1, q2, q3, q4, q5, q9, pln_row (show 1 ≠ 0 by omega), pln_row (show 2 ≠ 0 by omega), pln_row (show 3 ≠ 0 by omega), pln_row (show 4 ≠ 0 by omega), pln_row (show 5 ≠ 0 by omega), pln_row (show 6 ≠ 0 by omega), pln_row (show 7 ≠ 0 by omega), pln_row (show 8 ≠ 0 by omega), pln_row (show 9 ≠ 0 by omega), pln_row (show 10 ≠ 0 by omega)]
  refine ⟨by omega, by omega, rfl, by omega, fun e he => ?_, fun e he => ?_, fun e t he ht => ?_, fun e t he ht => ?_, fun c t hc ht => ?_, fun c t hc ht => ?_, fun c hc => ?_, fun c hc => ?_, ?_, fun c hc => ?_, fun c hc => ?_, fun e he => ?_, h.du.symm, ?_, ?_, ?_, h.ns, h.s0, fun k hk => ?_⟩
  · obtain ⟨g1, -⟩ := hea e he
    rw [(cP_k s e).1, e38, g1]
    have x1 : 0 ≤ u 38 e ∧ u 38 e ≤ 8 := h.x 38 e
    have x2 := (hs.g.ea e he).1
    have x2 : s 38 e < s 33 0 := x2
    rw [e38] at x2
    omega
  · obtain ⟨-, g2, -⟩ := hea e he
    rw [(cP_k s e).2.1, e39, g2]
  · obtain ⟨-, -, g3, g4⟩ := hea e he
    rw [pln_row (by omega), cP_tk s (by omega) (by omega)]
    refine takes_eq hs.x ?_ ?_ ?_
    · rw [r 212 (by omega) (by omega), e40, g3]
    · rw [r 212 (by omega) (by omega), e41, g4]
    · exact h.wi t (by omega)
  · rw [pln_row (by omega), cP_fg s (by omega), ← h.la]
    have g := i215 e t (by omega) (by omega)
    by_cases z : s 67 4 = 0
    · rw [if_pos z]
      exact ⟨fun y => by omega, fun y => absurd z y.1⟩
    · rw [if_neg z]
      exact ⟨fun y => ⟨z, g.mpr y⟩, fun y => g.mp y.2⟩
  · rw [pln_row (by omega), cP_df s (by omega), ← h.la]
    have g := i216 c t (by omega) (by omega)
    by_cases z : s 67 4 = 1
    · rw [if_pos z]
      exact ⟨fun y => by omega, fun y => absurd z y.1⟩
    · rw [if_neg z]
      exact ⟨fun y => ⟨z, g.mpr y⟩, fun y => g.mp y.2⟩
  · rw [pln_row (by omega), cP_fn, ← h.la]
    have g := i217 c t (by omega) (by omega)
    by_cases z : s 67 4 = 2
    · rw [if_pos z, if_pos (Or.inl z)]
    · rw [if_neg z]
      by_cases y : bt (s 66 t) c = 1
      · rw [if_neg (fun w => w.elim z (g.mpr y)), y]
      · rw [if_pos (Or.inr (by
          by_cases w : mo_isIn217 (mo_laysWinds u) (u 210 8) c t = 0
          · exact w
          · exact absurd (g.mp w) y))]
        have := bt01 (s 66 t) c
        omega
  · rw [(cP_k s c).2.2.1, ← h.la, e35, (hch c (by omega)).2.1]
  · rw [(cP_k s c).2.2.2.1, e36, (hch c (by omega)).2.2]
  · rw [← h.la]
    split
    · rename_i z
      exact ⟨fun y => by omega, fun y => absurd z y⟩
    · rename_i z
      exact ⟨fun _ => z, fun _ => rfl⟩
  · rw [(cP_k s c).2.2.2.2.1, ← h.la, e34, (hch c (by omega)).1]
    split
    · rename_i z
      exact ⟨fun _ => z, fun _ => rfl⟩
    · rename_i z
      exact ⟨fun y => by omega, fun y => absurd y z⟩
  · rw [(cP_k s c).2.2.2.2.2.1]
    exact h.mu c (by omega)
  · rw [(cP_k s e).2.2.2.2.2.2.1]
    exact h.cu e (by omega)
  · rw [pln_0]; simp
  · rw [pln_0]; simp
  · rw [pln_0]; simp
  · obtain ⟨-, -, -, -, -, -, -, k8, k9, k10⟩ := cP_k s k
    have hN : 0 ≤ s 68 0 ∧ s 68 0 ≤ 5 := hs.x 68 0
    rw [k8, k9, k10, if_pos (by omega), if_pos (by omega), if_pos (by omega)]
    exact h.st k hk
/-- the reference's run, out of what the class is to play -/
theorem BR.run {s u : VS} (hs : SG s) (h : BR s u) : RM (arun (pln (cP s))) (mo_run u) := run_RM hs.pw.toPln (h.mp hs)
theorem WB.of {n : Int} {f f' : Nat → Int} {t : Nat} {g : Int} (h : WB n f t g) (e : ∀ k : Nat, (k : Int) < n → f' k = f k) : WB n f' t g := by
  have r := h.r
  refine ⟨r, fun a k hk => by rw [e k hk]; exact h.no a k hk, fun a => by rw [e _ (by omega)]; exact h.le a, fun a k hk => by rw [e k hk, e _ (by omega)]; exact h.mx a k hk⟩
theorem wi0 {s u : VS} (hX : XI u) (hb : ∃ w : Nat → Int, BQ 33 0 (fset u 213 w)) (ha : AIR u) (e63 : s 63 = u 63) (hl : s 67 4 = u 203 34) (h28 : u 203 28 = -1) (h72 : ∀ j, j < 10 → s 72 j = u 203 27) : ∀ t : Nat, (t : Int) < u 33 1 → (mo_laysWinds u) 219 t = xwind s t := by
  intro t ht
  obtain ⟨bw, hb⟩ := hb
  have hS : 0 ≤ u 33 1 ∧ u 33 1 ≤ 300 := hX 33 1
  have bS : u 33 1 = u 210 1 := hb.S
  have hW : 0 ≤ u 46 0 ∧ u 46 0 ≤ 6 := hX 46 0
  have bW : u 46 0 = u 210 5 := hb.W
  have e28 : (mo_laysWinds_2 301 u 0) 203 28 = -1 := by rw [o_mo_laysWinds_2 (by omega)]; exact h28
  unfold mo_laysWinds
  rw [if_pos e28]
  obtain ⟨-, q⟩ := lw2 301 0 u (by omega) (by omega) (by omega)
  obtain ⟨g, g1, g2⟩ := q t (by omega) (by omega)
  obtain ⟨g', g3, g4⟩ := ha.w t ht
  have hwi : ∀ i : Nat, (i : Int) < u 46 0 → u 47 i = u 214 (2 * i + 1) ∧ u 48 i = u 214 (2 * i) := by
    intro i hi
    have q := hb.wi i hi
    simp only [Nat.mul_zero, Nat.zero_add] at q
    exact q
  have g5 : WB (u 46 0) (u 48) t g := by
    rw [bW]
    exact g1.of (fun k hk => (hwi k (by omega)).2)
  have eg : g' = g := g3.uniq g5
  subst eg
  have r := g5.r
  rw [show ((0 : Nat) : Int) = 0 from rfl] at g2
  rw [g2]
  unfold xwind
  rw [h72 _ (by omega), hl, toN, e63, g4]
  by_cases z : g' = -1
  · rw [if_pos (Or.inl z), if_pos z]
    split <;> rfl
  · rw [if_neg z]
    by_cases y : u 203 34 = 3
    · rw [if_pos (Or.inr y), if_pos y]
    · rw [if_neg (fun w => w.elim z y), if_neg y, (hwi g'.toNat (by omega)).1]
