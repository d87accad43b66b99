/-! slots: rows of a log, bets -/
theorem SLQ.num {v : VS} (h : SLQ v) {q : Nat} (hq : q < 4) (hv : v (107 + 2 * q) 0 ≠ 0) {j : Nat} (hj : (j : Int) < v (107 + 2 * q) 2) : v (108 + 2 * q) j = v 206 (60 * q + j) := h.ce q j hq hv hj
theorem XI.len {v : VS} (h : XI v) {q : Nat} (hq : q < 4) : 0 ≤ v (107 + 2 * q) 2 ∧ v (107 + 2 * q) 2 ≤ 60 := by
  have : q = 0 ∨ q = 1 ∨ q = 2 ∨ q = 3 := by omega
  rcases this with rfl | rfl | rfl | rfl
  · exact h 107 2
  · exact h 109 2
  · exact h 111 2
  · exact h 113 2
theorem thr46 {v w : VS} {q : Nat} (hs : SLQ v) (hx : XI v) (hq : q < 4) (hv : v (107 + 2 * q) 0 ≠ 0) (h3 : v (107 + 2 * q) 2 % 3 = 0) (e5 : w 205 = v 205) (e6 : w 206 = v 206) (eS : w 210 1 = v 33 1) (eC : w 210 0 = v 33 0) : ∀ (f i : Nat), i % 3 = 0 → (i : Int) ≤ v (107 + 2 * q) 2 → v (107 + 2 * q) 2 < i + f →
    ((cl_hasThrees_13 f v q (v 33 1) (v 33 0) i = 0 ∧ mo_whyNot_46 f w q i = -2) ∨ (cl_hasThrees_13 f v q (v 33 1) (v 33 0) i = 1 ∧ mo_whyNot_46 f w q i = 0 ∧ ∀ j : Nat, i ≤ j → j % 3 = 0 → (j : Int) < v (107 + 2 * q) 2 → (0 ≤ v (108 + 2 * q) j ∧ v (108 + 2 * q) j < v 33 1) ∧ (0 ≤ v (108 + 2 * q) (j + 1) ∧ v (108 + 2 * q) (j + 1) < v 33 0))) := by
  have hl := hx.len hq
  have e2 := (hs.wd q hq hv).2
  intro f
  induction f with
  | zero => intro i _ h1 h2; omega
  | succ f ih =>
    intro i hi h1 h2
    rw [cl_hasThrees_13, mo_whyNot_46, e5, e6, eS, eC, toN, toN, ← e2, show ((i : Int) + 1).toNat = i + 1 by omega, show (60 * (q : Int) + (i : Int)).toNat = 60 * q + i by omega, show (60 * (q : Int) + (i : Int) + 1).toNat = 60 * q + (i + 1) by omega, show ((i : Int) + 3) = ((i + 3 : Nat) : Int) by omega]
    by_cases c : (i : Int) < v (107 + 2 * q) 2
    · have n0 := hs.num hq hv (j := i) (by omega)
      have n1 := hs.num hq hv (j := i + 1) (by omega)
      rw [if_pos (show (i : Int) + 2 < v (107 + 2 * q) 2 by omega), if_pos c, ← n0, ← n1]
      by_cases c1 : 0 ≤ v (108 + 2 * q) i ∧ v (108 + 2 * q) i < v 33 1
      · rw [if_pos c1, if_pos c1]
        by_cases c2 : 0 ≤ v (108 + 2 * q) (i + 1) ∧ v (108 + 2 * q) (i + 1) < v 33 0
        · rw [if_pos c2, if_pos c2]
          rcases ih (i + 3) (by omega) (by omega) (by omega) with g | ⟨g1, g2, g3⟩
          · exact Or.inl g
          · refine Or.inr ⟨g1, g2, fun j j1 j2 j3 => ?_⟩
            by_cases z : j = i
            · rw [z]; exact ⟨c1, c2⟩
            · exact g3 j (by omega) j2 j3
        · rw [if_neg c2, if_neg c2]; exact Or.inl ⟨rfl, rfl⟩
      · rw [if_neg c1, if_neg c1]; exact Or.inl ⟨rfl, rfl⟩
    · rw [if_neg (show ¬ (i : Int) + 2 < v (107 + 2 * q) 2 by omega), if_neg c]
      exact Or.inr ⟨rfl, rfl, fun j j1 j2 j3 => by omega⟩
/-- why a row is refused -/
theorem l_ref {v w : VS} (h : INV v) (e : ∀ k, 204 ≤ k → k ≤ 218 → w k = v k) (s : Int) : mo_whyNot w s = cl_refusal v s ∧ (cl_refusal v s = 0 → (0 ≤ s ∧ s < 4) ∧ 0 < v 33 2 ∧ v (107 + 2 * s.toNat) 0 ≠ 0 ∧ v (107 + 2 * s.toNat) 2 % 3 = 0 ∧ ∀ j : Nat, j % 3 = 0 → (j : Int) < v (107 + 2 * s.toNat) 2 → (0 ≤ v (108 + 2 * s.toNat) j ∧ v (108 + 2 * s.toNat) j < v 33 1) ∧ (0 ≤ v (108 + 2 * s.toNat) (j + 1) ∧ v (108 + 2 * s.toNat) (j + 1) < v 33 0)) := by
  obtain ⟨b0, b1, b3, b4, bL, -⟩ := h.b0
  unfold mo_whyNot cl_refusal
  rw [e 209 (by omega) (by omega), bL, e 204 (by omega) (by omega)]
  by_cases c : 0 ≤ s ∧ s < 4
  · rw [if_pos (show 0 ≤ s ∧ s ≤ 3 by omega), if_pos c]
    obtain ⟨q, rfl⟩ := Int.eq_ofNat_of_zero_le c.1
    have hq : q < 4 := by omega
    rw [toN]
    by_cases c1 : 0 < v 33 2
    · rw [if_pos c1, if_pos c1]
      have hh := h.i.s.has q hq
      by_cases c2 : v (107 + 2 * q) 0 = 0
      · rw [if_pos c2, if_pos (hh.mp c2)]
        exact ⟨rfl, fun g => by omega⟩
      · rw [if_neg c2, if_neg (fun g => c2 (hh.mpr g)), e 205 (by omega) (by omega), ← (h.i.s.wd q hq c2).2]
        have hl := h.i.x.len hq
        unfold cl_hasThrees
        by_cases c3 : v (107 + 2 * q) 2 % 3 = 0
        · rw [if_pos c3, if_pos c3]
          have t := thr46 h.i.s h.i.x hq c2 c3 (w := w) (e 205 (by omega) (by omega)) (e 206 (by omega) (by omega)) (by rw [e 210 (by omega) (by omega), b1]) (by rw [e 210 (by omega) (by omega), b0]) 63 0 (by omega) (by omega) (by omega)
          rw [show ((0 : Nat) : Int) = 0 from rfl] at t
          rcases t with ⟨t1, t2⟩ | ⟨t1, t2, t3⟩
          · rw [t1, t2, if_pos rfl]
            exact ⟨rfl, fun g => by omega⟩
          · rw [t1, t2, if_neg (by omega)]
            exact ⟨rfl, fun _ => ⟨c, c1, c2, c3, fun j j1 j2 => t3 j (by omega) j1 j2⟩⟩
        · rw [if_neg c3, if_neg c3, if_pos rfl]
          exact ⟨rfl, fun g => by omega⟩
    · rw [if_neg c1, if_neg c1]
      exact ⟨rfl, fun g => by omega⟩
  · rw [if_neg (show ¬ (0 ≤ s ∧ s ≤ 3) by omega), if_neg c]
    exact ⟨rfl, fun g => by omega⟩
theorem is_slot {v : VS} {k : Nat} (h : 107 ≤ k ∧ k ≤ 114) : (cl_asItIs v) k = v k := is_r (by omega)
theorem log30 {A : SS} {P x u : VS} (h : QQ A P x u) {q : Nat} (hq : q < 4) (hv : x (107 + 2 * q) 0 ≠ 0) (h3 : x (107 + 2 * q) 2 % 3 = 0) (hok : ∀ j : Nat, j % 3 = 0 → (j : Int) < x (107 + 2 * q) 2 → (0 ≤ x (108 + 2 * q) j ∧ x (108 + 2 * q) j < x 33 1) ∧ (0 ≤ x (108 + 2 * q) (j + 1) ∧ x (108 + 2 * q) (j + 1) < x 33 0)) : ∀ (f i : Nat) (n : Int), i % 3 = 0 → cl_log_30 f x q n i = mo_log_26 f u q n i := by
  have e2 := (h.iv.i.s.wd q hq hv).2
  intro f
  induction f with
  | zero => intro i n _; rfl
  | succ f ih =>
    intro i n hi
    rw [cl_log_30, mo_log_26, h.sl 205 (by omega) (by omega), h.sl 206 (by omega) (by omega), toN, toN, ← e2, show ((i : Int) + 1).toNat = i + 1 by omega, show ((i : Int) + 2).toNat = i + 2 by omega, show (60 * (q : Int) + (i : Int)).toNat = 60 * q + i by omega, show (60 * (q : Int) + (i : Int) + 1).toNat = 60 * q + (i + 1) by omega, show (60 * (q : Int) + (i : Int) + 2).toNat = 60 * q + (i + 2) by omega, show ((i : Int) + 3) = ((i + 3 : Nat) : Int) by omega, show n + 0 = n by omega]
    by_cases c : (i : Int) < x (107 + 2 * q) 2
    · have n0 := h.iv.i.s.num hq hv (j := i) (by omega)
      have n1 := h.iv.i.s.num hq hv (j := i + 1) (by omega)
      have n2 := h.iv.i.s.num hq hv (j := i + 2) (by omega)
      obtain ⟨o1, o2⟩ := hok i hi c
      rw [if_pos (show (i : Int) + 2 < x (107 + 2 * q) 2 by omega), if_pos c, ← n0, ← n1, ← n2, h.sl2 o2 o1]
      split
      · exact ih _ _ (by omega)
      · exact ih _ _ (by omega)
    · rw [if_neg (show ¬ (i : Int) + 2 < x (107 + 2 * q) 2 by omega), if_neg c]
theorem q_log {v : VS} (h : INV v) (s : Int) : (mo_log (cl_log v s).2 s).1 = (cl_log v s).1 ∧ INV (mo_log (cl_log v s).2 s).2 := by
  have q := h.qq
  obtain ⟨r1, r2⟩ := l_ref h (w := v2 v 203 0 0) (fun k a b => v2_row (by omega)) s
  obtain ⟨r3, -⟩ := l_ref h (w := v2 (cl_asItIs v) 203 0 0) (fun k a b => by rw [v2_row (by omega), is_r (by omega)]) s
  unfold cl_log
  by_cases z : cl_refusal v s = 0
  · rw [if_pos z]
    obtain ⟨c, c1, c2, c3, c4⟩ := r2 z
    obtain ⟨k, rfl⟩ := Int.eq_ofNat_of_zero_le c.1
    rw [toN] at c2 c3 c4 ⊢
    have hk : k < 4 := by omega
    show (mo_log (cl_asItIs v) k).1 = _ ∧ INV (mo_log (cl_asItIs v) k).2
    unfold mo_log
    rw [r3, if_pos z]
    refine ⟨?_, h.is.told⟩
    have e7 : (cl_asItIs v) (107 + 2 * k) = v (107 + 2 * k) := is_slot (by omega)
    have e8 : (cl_asItIs v) (108 + 2 * k) = v (108 + 2 * k) := is_slot (by omega)
    exact (log30 q hk (by rw [e7]; exact c2) (by rw [e7]; exact c3) (by rw [e7, e8, INV.is33]; exact c4) 63 0 0 (by omega)).symm
  · rw [if_neg z]
    show (mo_log v s).1 = _ ∧ INV (mo_log v s).2
    unfold mo_log
    rw [r1, if_neg z]
    exact ⟨rfl, h.thr⟩
/-! whether there was a strike -/
theorem ws3 {A : SS} {P x u : VS} (h : QQ A P x u) {s c g : Int} : ∀ (f i : Nat), (i : Int) ≤ A.1 0 0 → A.1 0 0 < i + f → (cl_wasStruck79_3 f x s c g i = 0 ∨ cl_wasStruck79_3 f x s c g i = 1) ∧ (cl_wasStruck79_3 f x s c g i = 1 ↔ ∃ j : Nat, i ≤ j ∧ (j : Int) < A.1 0 0 ∧ A.1 1 j = s ∧ A.1 2 j = c ∧ A.1 3 j = g) := by
  intro f
  induction f with
  | zero => intro i h1 h2; omega
  | succ f ih =>
    intro i h1 h2
    rw [cl_wasStruck79_3, h.ra.n, toN, show ((i : Int) + 1) = ((i + 1 : Nat) : Int) by omega]
    by_cases q : (i : Int) < A.1 0 0
    · obtain ⟨x0, x1, x2, -⟩ := h.rd q
      obtain ⟨j1, j2⟩ := ih (i + 1) (by omega) (by omega)
      rw [if_pos q, x0, x1, x2]
      by_cases z0 : s < A.1 1 i
      · rw [if_pos z0]
        refine ⟨Or.inl rfl, fun y => by omega, fun ⟨j, y1, y2, y3, _⟩ => ?_⟩
        have := h.aw.srt i j y1 y2
        omega
      · rw [if_neg z0]
        by_cases z : A.1 1 i = s ∧ A.1 2 i = c ∧ A.1 3 i = g
        · rw [if_pos z.1, if_pos z.2.1, if_pos z.2.2]
          exact ⟨Or.inr rfl, fun _ => ⟨i, Nat.le_refl _, q, z⟩, fun _ => rfl⟩
        · have key : (cl_wasStruck79_3 f x s c g ((i + 1 : Nat) : Int) = 0 ∨ cl_wasStruck79_3 f x s c g ((i + 1 : Nat) : Int) = 1) ∧ (cl_wasStruck79_3 f x s c g ((i + 1 : Nat) : Int) = 1 ↔ ∃ j : Nat, i ≤ j ∧ (j : Int) < A.1 0 0 ∧ A.1 1 j = s ∧ A.1 2 j = c ∧ A.1 3 j = g) := by
            refine ⟨j1, fun y => ?_, fun ⟨j, y1, y2, y3⟩ => j2.mpr ⟨j, ?_, y2, y3⟩⟩
            · obtain ⟨j, y1, y2⟩ := j2.mp y
              exact ⟨j, by omega, y2⟩
            · by_cases e : j = i
              · rw [e] at y3; exact absurd y3 z
              · omega
          by_cases z1 : A.1 1 i = s
          · rw [if_pos z1]
            by_cases z2 : A.1 2 i = c
            · rw [if_pos z2, if_neg (fun y => z ⟨z1, z2, y⟩)]; exact key
            · rw [if_neg z2]; exact key
          · rw [if_neg z1]; exact key
    · rw [if_neg q]
      exact ⟨Or.inl rfl, fun y => by omega, fun ⟨j, y1, y2, _⟩ => by omega⟩
theorem is3 {A : SS} {u : VS} {P : VS} {T C : Nat} (hm : RM A u) (hA : AW P T C A) {s c g : Int} : ∀ (f i : Nat), (i : Int) ≤ A.1 0 0 → A.1 0 0 < i + f → (mo_isStrike_3 f u s c g i = 0 ∨ mo_isStrike_3 f u s c g i = 1) ∧ (mo_isStrike_3 f u s c g i = 1 ↔ ∃ j : Nat, i ≤ j ∧ (j : Int) < A.1 0 0 ∧ A.1 1 j = s ∧ A.1 2 j = c ∧ A.1 3 j = g) := by
  intro f
  induction f with
  | zero => intro i h1 h2; omega
  | succ f ih =>
    intro i h1 h2
    rw [mo_isStrike_3, hm.n, show ((i : Int) + 1) = ((i + 1 : Nat) : Int) by omega]
    by_cases q : (i : Int) < A.1 0 0
    · have m : ∀ k, k < 5 → mo_at u i ((k : Nat) : Int) = A.1 (1 + k) i := fun k hk => by rw [at_n]; exact hm.st k i hk q
      have m0 : mo_at u i 0 = A.1 1 i := m 0 (by omega)
      have m1 : mo_at u i 1 = A.1 2 i := m 1 (by omega)
      have m2 : mo_at u i 2 = A.1 3 i := m 2 (by omega)
      obtain ⟨j1, j2⟩ := ih (i + 1) (by omega) (by omega)
      rw [if_pos q, m0, m1, m2]
      have key : (¬ (A.1 1 i = s ∧ A.1 2 i = c)) → (mo_isStrike_3 f u s c g ((i + 1 : Nat) : Int) = 0 ∨ mo_isStrike_3 f u s c g ((i + 1 : Nat) : Int) = 1) ∧ (mo_isStrike_3 f u s c g ((i + 1 : Nat) : Int) = 1 ↔ ∃ j : Nat, i ≤ j ∧ (j : Int) < A.1 0 0 ∧ A.1 1 j = s ∧ A.1 2 j = c ∧ A.1 3 j = g) := by
        intro z
        refine ⟨j1, fun y => ?_, fun ⟨j, y1, y2, y3⟩ => j2.mpr ⟨j, ?_, y2, y3⟩⟩
        · obtain ⟨j, y1, y2⟩ := j2.mp y
          exact ⟨j, by omega, y2⟩
        · by_cases e : j = i
          · rw [e] at y3; exact absurd ⟨y3.1, y3.2.1⟩ z
          · omega
      by_cases z1 : A.1 1 i = s
      · rw [if_pos z1]
        by_cases z2 : A.1 2 i = c
        · rw [if_pos z2]
          by_cases z3 : A.1 3 i = g
          · rw [if_pos z3]
            exact ⟨Or.inr rfl, fun _ => ⟨i, Nat.le_refl _, q, z1, z2, z3⟩, fun _ => rfl⟩
          · rw [if_neg z3]
            refine ⟨Or.inl rfl, fun y => by omega, fun ⟨j, y1, y2, y3, y4, y5⟩ => ?_⟩
            by_cases e : j = i
            · rw [e] at y5; exact absurd y5 z3
            · have := hA.od i j (by omega) y2
              omega
        · rw [if_neg z2]; exact key (fun y => z2 y.2)
      · rw [if_neg z1]; exact key (fun y => z1 y.1)
    · rw [if_neg q]
      exact ⟨Or.inl rfl, fun y => by omega, fun ⟨j, y1, y2, _⟩ => by omega⟩
theorem QQ.ws {A : SS} {P x u : VS} (h : QQ A P x u) (s c g : Int) : cl_wasStruck79 x s c g = mo_isStrike u s c g := by
  have hn := h.nb
  obtain ⟨a1, a2⟩ := ws3 h (s := s) (c := c) (g := g) 301 0 (by omega) (by omega)
  obtain ⟨b1, b2⟩ := is3 h.rm h.aw (s := s) (c := c) (g := g) 301 0 (by omega) (by omega)
  rw [show ((0 : Nat) : Int) = 0 from rfl] at a1 a2 b1 b2
  unfold cl_wasStruck79 mo_isStrike
  by_cases z : cl_wasStruck79_3 301 x s c g 0 = 1
  · rw [z, b2.mpr (a2.mp z)]
  · by_cases y : mo_isStrike_3 301 u s c g 0 = 1
    · exact absurd (a2.mpr (b2.mp y)) z
    · omega
theorem odd2 {A : SS} {P x u : VS} (h : QQ A P x u) {q : Nat} (hq : q < 4) (hv : x (107 + 2 * q) 0 ≠ 0) (h3 : x (107 + 2 * q) 2 % 3 = 0) : ∀ (f g i : Nat), ((3 * i : Nat) : Int) ≤ x (107 + 2 * q) 2 → x (107 + 2 * q) 2 < ((3 * i : Nat) : Int) + f → x (107 + 2 * q) 2 < ((3 * (i + g) : Nat) : Int) → cl_firstOdd79_2 f x q ((3 * i : Nat) : Int) = mo_oddOf_2 g u q i := by
  have e2 := (h.iv.i.s.wd q hq hv).2
  have hl := h.iv.i.x.len hq
  intro f
  induction f with
  | zero => intro g i h0 h1 h2; omega
  | succ f ih =>
    intro g i h0 h1 h2
    cases g with
    | zero => omega
    | succ g =>
      rw [cl_firstOdd79_2, mo_oddOf_2, h.sl 205 (by omega) (by omega), h.sl 206 (by omega) (by omega), toN, toN, ← e2, show (((3 * i : Nat) : Int) + 1).toNat = 3 * i + 1 by omega, show (((3 * i : Nat) : Int) + 2).toNat = 3 * i + 2 by omega, show (60 * (q : Int) + 3 * (i : Int)).toNat = 60 * q + 3 * i by omega, show (60 * (q : Int) + 3 * (i : Int) + 1).toNat = 60 * q + (3 * i + 1) by omega, show (60 * (q : Int) + 3 * (i : Int) + 2).toNat = 60 * q + (3 * i + 2) by omega, show (((3 * i : Nat) : Int) + 3) = ((3 * (i + 1) : Nat) : Int) by omega, show ((i : Int) + 1) = ((i + 1 : Nat) : Int) by omega]
      by_cases c : 3 * (i : Int) < x (107 + 2 * q) 2
      · have n0 := h.iv.i.s.num hq hv (j := 3 * i) (by omega)
        have n1 := h.iv.i.s.num hq hv (j := 3 * i + 1) (by omega)
        have n2 := h.iv.i.s.num hq hv (j := 3 * i + 2) (by omega)
        rw [if_pos (show ((3 * i : Nat) : Int) + 2 < x (107 + 2 * q) 2 by omega), if_pos c, ← n0, ← n1, ← n2, h.ws]
        split
        · omega
        · exact ih g (i + 1) (by omega) (by omega) (by omega)
      · rw [if_neg (show ¬ ((3 * i : Nat) : Int) + 2 < x (107 + 2 * q) 2 by omega), if_neg c]
theorem q_odd {v : VS} (h : INV v) (s : Int) : (mo_odd (cl_odd v s).2 s).1 = (cl_odd v s).1 ∧ INV (mo_odd (cl_odd v s).2 s).2 := by
  have q := h.qq
  obtain ⟨r1, r2⟩ := l_ref h (w := v2 v 203 0 0) (fun k a b => v2_row (by omega)) s
  obtain ⟨r3, -⟩ := l_ref h (w := v2 (cl_asItIs v) 203 0 0) (fun k a b => by rw [v2_row (by omega), is_r (by omega)]) s
  unfold cl_odd
  by_cases z : cl_refusal v s = 0
  · rw [if_pos z]
    obtain ⟨c, c1, c2, c3, c4⟩ := r2 z
    obtain ⟨k, rfl⟩ := Int.eq_ofNat_of_zero_le c.1
    rw [toN] at c2 c3 c4 ⊢
    have hk : k < 4 := by omega
    show (mo_odd (cl_asItIs v) k).1 = _ ∧ INV (mo_odd (cl_asItIs v) k).2
    unfold mo_odd
    rw [r3, if_pos z]
    refine ⟨?_, h.is.told⟩
    have e7 : (cl_asItIs v) (107 + 2 * k) = v (107 + 2 * k) := is_slot (by omega)
    have hl := h.i.x.len hk
    exact (odd2 q hk (by rw [e7]; exact c2) (by rw [e7]; exact c3) 63 21 0 (by rw [e7]; omega) (by rw [e7]; omega) (by rw [e7]; omega)).symm
  · rw [if_neg z]
    show (mo_odd v s).1 = _ ∧ INV (mo_odd v s).2
    unfold mo_odd
    rw [r1, if_neg z]
    exact ⟨rfl, h.thr⟩
/-! bets -/
theorem near15 {A : SS} {P x u : VS} (h : QQ A P x u) {q : Nat} (hq : q < 4) (hv : x (107 + 2 * q) 0 ≠ 0) (hC : x (107 + 2 * q) 2 = x 33 0) (hok : ∀ j : Nat, (j : Int) < x (107 + 2 * q) 2 → 0 ≤ x (108 + 2 * q) j ∧ x (108 + 2 * q) j < x 33 1) : ∀ (f j : Nat) (g m m' : Int), ((m = 300 ∧ m' = 1000000) ∨ (m = m' ∧ m ≤ 299)) → cl_nearest_15 f x q g m j = mo_bets_104 f u q g m' j := by
  have h9 := h.C9
  have hS := h.S3
  have hT := h.pT
  intro f
  induction f with
  | zero => intro j g m m' _; rfl
  | succ f ih =>
    intro j g m m' hm
    rw [cl_nearest_15, mo_bets_104, h.bC, toN, show (60 * (q : Int) + (j : Int)).toNat = 60 * q + j by omega, show ((j : Int) + 1) = ((j + 1 : Nat) : Int) by omega]
    by_cases c : (j : Int) < x 33 0
    · have hj : j < 9 := by omega
      have n0 := h.iv.i.s.num hq hv (j := j) (by omega)
      have ok := hok j (by omega)
      rw [if_pos c, if_pos c, h.nx j, h.f0 hj, h.fa hj, h.sl 206 (by omega) (by omega), ← n0]
      rcases h.f1 j with g0 | ⟨g1, g2, g3, -⟩
      · rw [if_pos g0, if_pos g0, if_neg (by omega)]
        exact ih _ _ _ _ hm
      · obtain ⟨F, hF⟩ : ∃ F : Nat, A.1 13 j = F := ⟨(A.1 13 j).toNat, by omega⟩
        have hs := (h.aw.st F (by omega)).1
        rw [hF, if_neg (show ¬ ((F : Int) = -1) by omega), if_neg (show ¬ ((F : Int) = -1) by omega), if_neg (show ¬ ((F : Int) = -1) by omega), toN, (h.rd (i := F) (by omega)).1]
        obtain ⟨d, hd⟩ : ∃ d, d = iab (A.1 1 F - x (108 + 2 * q) j) := ⟨_, rfl⟩
        have hd2 : (0 ≤ A.1 1 F - x (108 + 2 * q) j → d = A.1 1 F - x (108 + 2 * q) j) ∧ (A.1 1 F - x (108 + 2 * q) j < 0 → d = 0 - (A.1 1 F - x (108 + 2 * q) j)) := by
          rw [hd]
          unfold iab
          split <;> omega
        rw [← hd]
        have key : ∀ e : Int, e = d → (if d < m then cl_nearest_15 f x q j d ((j + 1 : Nat) : Int) else cl_nearest_15 f x q g m ((j + 1 : Nat) : Int)) = (if e < m' then mo_bets_104 f u q j e ((j + 1 : Nat) : Int) else mo_bets_104 f u q g m' ((j + 1 : Nat) : Int)) := by
          intro e he
          subst he
          by_cases y : e < m
          · rw [if_pos y, if_pos (by omega)]
            exact ih _ _ _ _ (Or.inr ⟨rfl, by omega⟩)
          · rw [if_neg y, if_neg (by omega)]
            exact ih _ _ _ _ hm
        by_cases y : x (108 + 2 * q) j - A.1 1 F < 0
        · rw [if_pos y]
          exact key _ (by omega)
        · rw [if_neg y]
          exact key _ (by omega)
    · rw [if_neg c, if_neg c]
theorem secs2 {v w : VS} {q : Nat} (hs : SLQ v) (hx : XI v) (hq : q < 4) (hv : v (107 + 2 * q) 0 ≠ 0) (e5 : w 205 = v 205) (e6 : w 206 = v 206) (eS : w 210 1 = v 33 1) : ∀ (f i : Nat), (i : Int) ≤ v (107 + 2 * q) 2 → v (107 + 2 * q) 2 < i + f →
    ((cl_hasSeconds_2 f v q (v 33 1) i = 0 ∧ mo_bets_55 f w q i = (-2, w)) ∨ (cl_hasSeconds_2 f v q (v 33 1) i = 1 ∧ mo_bets_55 f w q i = (mo_bets_104 10 (mo_told w) q (-1) 1000000 0, mo_told w) ∧ ∀ j : Nat, i ≤ j → (j : Int) < v (107 + 2 * q) 2 → 0 ≤ v (108 + 2 * q) j ∧ v (108 + 2 * q) j < v 33 1)) := by
  have e2 := (hs.wd q hq hv).2
  intro f
  induction f with
  | zero => intro i h1 h2; omega
  | succ f ih =>
    intro i h1 h2
    rw [cl_hasSeconds_2, mo_bets_55, e5, e6, eS, toN, toN, ← e2, show (60 * (q : Int) + (i : Int)).toNat = 60 * q + i by omega, show ((i : Int) + 1) = ((i + 1 : Nat) : Int) by omega]
    by_cases c : (i : Int) < v (107 + 2 * q) 2
    · have n0 := hs.num hq hv (j := i) c
      rw [if_pos c, if_pos c, ← n0]
      by_cases c1 : 0 ≤ v (108 + 2 * q) i ∧ v (108 + 2 * q) i < v 33 1
      · rw [if_pos c1, if_pos c1]
        rcases ih (i + 1) (by omega) (by omega) with g | ⟨g1, g2, g3⟩
        · exact Or.inl g
        · refine Or.inr ⟨g1, g2, fun j j1 j2 => ?_⟩
          by_cases z : j = i
          · rw [z]; exact c1
          · exact g3 j (by omega) j2
      · rw [if_neg c1, if_neg c1]; exact Or.inl ⟨rfl, rfl⟩
    · rw [if_neg c, if_neg c]
      exact Or.inr ⟨rfl, rfl, fun j j1 j2 => by omega⟩
theorem q_bets {v : VS} (h : INV v) (s : Int) : (mo_bets (cl_bets v s).2 s).1 = (cl_bets v s).1 ∧ INV (mo_bets (cl_bets v s).2 s).2 := by
  have q := h.qq
  have h9 : 0 ≤ v 33 0 ∧ v 33 0 ≤ 9 := h.i.x 33 0
  obtain ⟨b0, b1, b3, b4, bL, -⟩ := h.b0
  obtain ⟨i0, i1, i3, i4, iL⟩ := h.isb
  unfold cl_bets
  by_cases c : 0 ≤ s ∧ s < 4
  · rw [if_pos c]
    obtain ⟨k, rfl⟩ := Int.eq_ofNat_of_zero_le c.1
    have hk : k < 4 := by omega
    have hh := h.i.s.has k hk
    rw [toN]
    by_cases c1 : 0 < v 33 2
    · rw [if_pos c1]
      by_cases c2 : v (107 + 2 * k) 0 = 0
      · rw [if_pos c2]
        show (mo_bets v k).1 = _ ∧ INV (mo_bets v k).2
        unfold mo_bets
        rw [bL, if_pos (by omega), if_pos c1, toN, if_pos (hh.mp c2)]
        exact ⟨rfl, h.thr⟩
      · rw [if_neg c2]
        have ew := (h.i.s.wd k hk c2).2
        by_cases c3 : v (107 + 2 * k) 2 = v 33 0
        · rw [if_pos c3]
          have em : ∀ x : VS, (∀ j, 204 ≤ j → j ≤ 218 → x j = v j) → mo_bets x k = mo_bets_55 61 (v2 x 203 0 0) k 0 := by
            intro x ex
            unfold mo_bets
            rw [ex 209 (by omega) (by omega), ex 204 (by omega) (by omega), ex 205 (by omega) (by omega), ex 210 (by omega) (by omega), bL, b0, if_pos (by omega), if_pos c1, toN, if_neg (fun g => c2 (hh.mpr g)), if_pos (by rw [← ew]; exact c3)]
          have t : ∀ x : VS, (∀ j, 204 ≤ j → j ≤ 218 → x j = v j) → _ := fun x ex => secs2 h.i.s h.i.x hk c2 (w := v2 x 203 0 0) (by rw [v2_row (by omega)]; exact ex 205 (by omega) (by omega)) (by rw [v2_row (by omega)]; exact ex 206 (by omega) (by omega)) (by rw [v2_row (by omega), ex 210 (by omega) (by omega)]; exact b1) 61 0 (by omega) (by omega)
          have t1 := t v (fun j _ _ => rfl)
          have t2 := t (cl_asItIs v) (fun j a b => is_r (by omega))
          rw [show ((0 : Nat) : Int) = 0 from rfl] at t1 t2
          unfold cl_hasSeconds
          by_cases c4 : cl_hasSeconds_2 61 v k (v 33 1) 0 = 0
          · rw [if_pos c4]
            show (mo_bets v k).1 = _ ∧ INV (mo_bets v k).2
            rcases t1 with ⟨-, t3⟩ | ⟨t3, -⟩
            · rw [em v (fun j _ _ => rfl), t3]
              exact ⟨rfl, h.thr⟩
            · omega
          · rw [if_neg c4]
            rcases t2 with ⟨t3, -⟩ | ⟨-, t3, t4⟩
            · exact absurd t3 c4
            · have e7 : (cl_asItIs v) (107 + 2 * k) = v (107 + 2 * k) := is_slot (by omega)
              have e8 : (cl_asItIs v) (108 + 2 * k) = v (108 + 2 * k) := is_slot (by omega)
              show (mo_bets (cl_asItIs v) k).1 = _ ∧ INV (mo_bets (cl_asItIs v) k).2
              rw [em (cl_asItIs v) (fun j a b => is_r (by omega)), t3]
              refine ⟨?_, h.is.told⟩
              exact (near15 q hk (by rw [e7]; exact c2) (by rw [e7, INV.is33]; exact c3) (by rw [e7, e8, INV.is33]; exact fun j hj => t4 j (by omega) hj) 10 0 (-1) 300 1000000 (Or.inl ⟨rfl, rfl⟩)).symm
        · rw [if_neg c3]
          show (mo_bets v k).1 = _ ∧ INV (mo_bets v k).2
          unfold mo_bets
          rw [bL, b0, if_pos (by omega), if_pos c1, toN, if_neg (fun g => c2 (hh.mpr g)), if_neg (by rw [← ew]; exact c3)]
          exact ⟨rfl, h.thr⟩
    · rw [if_neg c1]
      show (mo_bets v k).1 = _ ∧ INV (mo_bets v k).2
      unfold mo_bets
      rw [bL, if_pos (by omega), if_neg c1]
      exact ⟨rfl, h.thr⟩
  · rw [if_neg c]
    show (mo_bets v s).1 = _ ∧ INV (mo_bets v s).2
    unfold mo_bets
    rw [if_neg (by omega)]
    exact ⟨rfl, h.thr⟩
