
/-! a run that ends before the others: the strikes of its seconds -/
def LT5 (k : Nat) (a b : SS) : Prop := SKP a b ∧ ∀ i : Nat, a.1 0 0 ≤ (i : Int) → (i : Int) < b.1 0 0 → (k : Int) ≤ b.1 1 i
theorem LT5.refl (k : Nat) (a : SS) : LT5 k a a := ⟨SKP.refl a, fun i h1 h2 => by omega⟩
theorem LT5.trans {k : Nat} {a b c : SS} (h : LT5 k a b) (g : LT5 k b c) : LT5 k a c := by
  refine ⟨h.1.trans g.1, fun i h1 h2 => ?_⟩
  by_cases q : (i : Int) < b.1 0 0
  · rw [g.1.2 1 i (by omega) (by omega) q]
    exact h.2 i h1 q
  · exact g.2 i (by omega) h2
theorem LT5.step {P : VS} {a : SS} {k t : Nat} (c : Nat) (h0 : 0 ≤ a.1 0 0) (hk : k ≤ t) : LT5 k a (astep P a t c) := by
  refine ⟨SKP.step t c h0, ?_⟩
  unfold astep
  split
  · exact (LT5.refl k a).2
  · unfold avis
    split
    · exact (LT5.refl k a).2
    · have hl : ∀ r j, ∀ i : Nat, a.1 0 0 ≤ (i : Int) → (i : Int) < (alose a r j).1 0 0 → (k : Int) ≤ (alose a r j).1 1 i := fun r j i h1 h2 => by
        rw [alose_row (by omega)] at h2
        omega
      unfold avisL
      split
      · exact hl _ _
      · split
        · exact hl _ _
        · split
          · exact hl _ _
          · rename_i x r _ _ _ _
            intro i h1 h2
            rw [ago_row (by omega), (aring_r (i := 0)).1, aoth_row (by omega)] at h2
            rw [ago_row (by omega)]
            obtain ⟨-, -, -, a1, -⟩ := aring_r (P := P) (a := aoth a r.length) (t := t) (c := c) (i := i) (x := abest x r)
            rw [aoth_row (by omega)] at a1
            rw [a1, if_pos (by omega)]
            omega
theorem LT5.inL {P : VS} {a : SS} {k t : Nat} (h0 : 0 ≤ a.1 0 0) (hk : k ≤ t) : ∀ m : Nat, LT5 k a (ainL P t m a) := by
  intro m
  induction m with
  | zero => exact LT5.refl k a
  | succ m ih =>
    rw [ainL]
    exact ih.trans (LT5.step m (by have := ih.1.1; omega) hk)
theorem LT5.outL {P : VS} {a : SS} {k : Nat} (h0 : 0 ≤ a.1 0 0) : ∀ d : Nat, LT5 k (aoutL P k a) (aoutL P (k + d) a) := by
  have n0 : ∀ j : Nat, 0 ≤ (aoutL P j a).1 0 0 := by
    intro j
    induction j with
    | zero => exact h0
    | succ j ih =>
      rw [aoutL]
      have := (LT5.inL (P := P) (k := 0) (t := j) ih (by omega) (P 0 0).toNat).1.1
      omega
  intro d
  induction d with
  | zero => exact LT5.refl k _
  | succ d ih =>
    rw [show k + (d + 1) = (k + d) + 1 by omega, aoutL]
    exact ih.trans (LT5.inL (n0 _) (by omega) _)
/-- parameters that differ in the last second alone -/
theorem astep_pln {P : VS} (h6 : P 0 6 = -1) (h7 : P 0 7 = 300) (h8 : P 0 8 = 300) (a : SS) (t c : Nat) : astep (pln P) a t c = astep P a t c := by
  have hE := PEQ.toPln P
  have hu : ∀ n, auw (pln P) t c n = auw P t c n := fun n => by
    unfold auw
    rw [pln_0, pln_0, pln_0, h6, h7, h8]
    simp
  unfold astep avis
  split
  · rfl
  · split
    · rfl
    · unfold avisL
      rw [hE.1 6 (by omega), hE.1 4 (by omega), hE.1 5 (by omega), hE.2 4 (by omega) (by omega) (by omega) (by omega), hE.go, aring_eq (hu _)]
theorem aoutL_pln {P : VS} (h6 : P 0 6 = -1) (h7 : P 0 7 = 300) (h8 : P 0 8 = 300) (a : SS) : ∀ k : Nat, aoutL (pln P) k a = aoutL P k a := by
  have e0 : pln P 0 0 = P 0 0 := by rw [pln_0]; simp
  have q : ∀ (t m : Nat) (b : SS), ainL (pln P) t m b = ainL P t m b := by
    intro t m
    induction m with
    | zero => intro b; rfl
    | succ m ih => intro b; rw [ainL, ainL, ih, astep_pln h6 h7 h8]
  intro k
  induction k with
  | zero => rfl
  | succ k ih => rw [aoutL, aoutL, e0, ih, q]
theorem LT5.run {P : VS} (hP : PW P) (h6 : P 0 6 = -1) (h7 : P 0 7 = 300) (h8 : P 0 8 = 300) : LT5 (P 0 1).toNat (arun P) (arun (pln P)) := by
  have hT := hP.T
  have e1 : pln P 0 1 = P 0 2 := by rw [pln_0, if_pos rfl]
  unfold arun
  rw [abeg_pln, e1, aoutL_pln h6 h7 h8]
  have hA := AW.beg hP
  have q := LT5.outL (P := P) (a := abeg P) (k := (P 0 1).toNat) hA.n.1 ((P 0 2).toNat - (P 0 1).toNat)
  rw [show (P 0 1).toNat + ((P 0 2).toNat - (P 0 1).toNat) = (P 0 2).toNat by omega] at q
  exact q
def WSK (A : SS) (s c g : Int) : Prop := ∃ j : Nat, (j : Int) < A.1 0 0 ∧ A.1 1 j = s ∧ A.1 2 j = c ∧ A.1 3 j = g
theorem WSK.pre {P : VS} (hP : PW P) (h6 : P 0 6 = -1) (h7 : P 0 7 = 300) (h8 : P 0 8 = 300) {s c g : Int} (hs : s < P 0 1) : WSK (arun P) s c g ↔ WSK (arun (pln P)) s c g := by
  obtain ⟨⟨k1, k2⟩, k3⟩ := LT5.run hP h6 h7 h8
  constructor
  · intro ⟨j, j1, j2⟩
    refine ⟨j, by omega, ?_⟩
    rw [k2 1 j (by omega) (by omega) j1, k2 2 j (by omega) (by omega) j1, k2 3 j (by omega) (by omega) j1]
    exact j2
  · intro ⟨j, j1, j2⟩
    by_cases q : (j : Int) < (arun P).1 0 0
    · refine ⟨j, q, ?_⟩
      rw [← k2 1 j (by omega) (by omega) q, ← k2 2 j (by omega) (by omega) q, ← k2 3 j (by omega) (by omega) q]
      exact j2
    · have := k3 j (by omega) j1
      omega
/-- one start alone: nothing is struck before it -/
theorem aout_one {P : VS} {t0 : Nat} (h9 : P 0 9 = 1) (h8 : P 8 0 = t0) : ∀ k : Nat, k ≤ t0 → aoutL P k (abeg P) = abeg P := by
  have hb : abeg P = aput anil t0 (P 9 0).toNat (P 10 0, -1, -1) := by
    unfold abeg
    rw [h9]
    show aput anil (P 8 0).toNat (P 9 0).toNat (P 10 0, -1, -1) = _
    rw [h8, toN]
  have he : ∀ t c : Nat, t < t0 → (abeg P).2 t c = [] := by
    intro t c ht
    rw [hb]
    show fset anil.2 t0 _ t c = _
    rw [fset_at, if_neg (by omega)]
    rfl
  have hin : ∀ (t m : Nat), t < t0 → ainL P t m (abeg P) = abeg P := by
    intro t m ht
    induction m with
    | zero => rfl
    | succ m ih =>
      rw [ainL, ih]
      unfold astep avis
      rw [he t m ht]
      dsimp only
      split <;> rfl
  intro k
  induction k with
  | zero => intro _; rfl
  | succ k ih => intro hk; rw [aoutL, ih (by omega), hin k _ (by omega)]
theorem WSK.late {P : VS} (hP : PW P) {t0 : Nat} (h9 : P 0 9 = 1) (h8 : P 8 0 = t0) (ht : (t0 : Int) ≤ P 0 1) {s c g : Int} (h : WSK (arun P) s c g) : (t0 : Int) ≤ s := by
  obtain ⟨j, j1, j2, -⟩ := h
  have hA := AW.beg hP
  have q := LT5.outL (P := P) (a := abeg P) (k := t0) hA.n.1 ((P 0 1).toNat - t0)
  rw [show t0 + ((P 0 1).toNat - t0) = (P 0 1).toNat by omega, aout_one h9 h8 t0 (by omega)] at q
  have e : (abeg P).1 = anil.1 := by unfold abeg; exact abegL_1 _ _
  have e0 : (abeg P).1 0 0 = 0 := by rw [e]; rfl
  have := q.2 j (by rw [e0]; omega) j1
  have j2 : (aoutL P (P 0 1).toNat (abeg P)).1 1 j = s := j2
  omega
theorem ws91 {A : SS} {P x : VS} {T C : Nat} (ra : RA 91 A x) (aw : AW P T C A) {s c g : Int} : ∀ (f i : Nat), (i : Int) ≤ A.1 0 0 → A.1 0 0 < i + f → (cl_wasStruck91_3 f x s c g i = 0 ∨ cl_wasStruck91_3 f x s c g i = 1) ∧ (cl_wasStruck91_3 f x s c g i = 1 ↔ ∃ j : Nat, i ≤ j ∧ (j : Int) < A.1 0 0 ∧ A.1 1 j = s ∧ A.1 2 j = c ∧ A.1 3 j = g) := by
  intro f
  induction f with
  | zero => intro i h1 h2; omega
  | succ f ih =>
    intro i h1 h2
    rw [cl_wasStruck91_3, ra.n, toN, show ((i : Int) + 1) = ((i + 1 : Nat) : Int) by omega]
    by_cases q : (i : Int) < A.1 0 0
    · have x0 : x 92 i = A.1 1 i := ra.st 1 i (by omega) (by omega) q
      have x1 : x 93 i = A.1 2 i := ra.st 2 i (by omega) (by omega) q
      have x2 : x 94 i = A.1 3 i := ra.st 3 i (by omega) (by omega) q
      obtain ⟨j1, j2⟩ := ih (i + 1) (by omega) (by omega)
      rw [if_pos q, x0, x1, x2]
      by_cases z0 : s < A.1 1 i
      · rw [if_pos z0]
        refine ⟨Or.inl rfl, fun y => by omega, fun ⟨j, y1, y2, y3, _⟩ => ?_⟩
        have := aw.srt i j y1 y2
        omega
      · rw [if_neg z0]
        by_cases z : A.1 1 i = s ∧ A.1 2 i = c ∧ A.1 3 i = g
        · rw [if_pos z.1, if_pos z.2.1, if_pos z.2.2]
          exact ⟨Or.inr rfl, fun _ => ⟨i, Nat.le_refl _, q, z⟩, fun _ => rfl⟩
        · have key : (cl_wasStruck91_3 f x s c g ((i + 1 : Nat) : Int) = 0 ∨ cl_wasStruck91_3 f x s c g ((i + 1 : Nat) : Int) = 1) ∧ (cl_wasStruck91_3 f x s c g ((i + 1 : Nat) : Int) = 1 ↔ ∃ j : Nat, i ≤ j ∧ (j : Int) < A.1 0 0 ∧ A.1 1 j = s ∧ A.1 2 j = c ∧ A.1 3 j = g) := by
            refine ⟨j1, fun y => ?_, fun ⟨j, y1, y2, y3⟩ => j2.mpr ⟨j, ?_, y2, y3⟩⟩
            · obtain ⟨j, y1, y2⟩ := j2.mp y
              exact ⟨j, by omega, y2⟩
            · by_cases e : j = i
              · rw [e] at y3; exact absurd y3 z
              · omega
          by_cases z1 : A.1 1 i = s
          · rw [if_pos z1]
            by_cases z2 : A.1 2 i = c
            · rw [if_pos z2, if_neg (fun y => z ⟨z1, z2, y⟩)]; exact key
            · rw [if_neg z2]; exact key
          · rw [if_neg z1]; exact key
    · rw [if_neg q]
      exact ⟨Or.inl rfl, fun y => by omega, fun ⟨j, y1, y2, _⟩ => by omega⟩
theorem ws91_0 {A : SS} {P x : VS} {T C : Nat} (ra : RA 91 A x) (aw : AW P T C A) {s c g : Int} : cl_wasStruck91 x s c g = 0 ↔ ¬ WSK A s c g := by
  have hn := aw.n
  obtain ⟨a1, a2⟩ := ws91 ra aw (s := s) (c := c) (g := g) 301 0 (by omega) (by omega)
  rw [show ((0 : Nat) : Int) = 0 from rfl] at a1 a2
  unfold cl_wasStruck91
  constructor
  · intro y ⟨j, j1, j2⟩
    have := a2.mpr ⟨j, by omega, j1, j2⟩
    omega
  · intro y
    rcases a1 with z | z
    · exact z
    · obtain ⟨j, j0, j1, j2⟩ := a2.mp z
      exact absurd ⟨j, j1, j2⟩ y
theorem is_0 {A : SS} {P u : VS} {T C : Nat} (rm : RM A u) (aw : AW P T C A) {s c g : Int} : mo_isStrike u s c g = 0 ↔ ¬ WSK A s c g := by
  have hn := aw.n
  obtain ⟨a1, a2⟩ := is3 rm aw (s := s) (c := c) (g := g) 301 0 (by omega) (by omega)
  rw [show ((0 : Nat) : Int) = 0 from rfl] at a1 a2
  unfold mo_isStrike
  constructor
  · intro y ⟨j, j1, j2⟩
    have := a2.mpr ⟨j, by omega, j1, j2⟩
    omega
  · intro y
    rcases a1 with z | z
    · exact z
    · obtain ⟨j, j0, j1, j2⟩ := a2.mp z
      exact absurd ⟨j, j1, j2⟩ y
/-- every three of the slot is struck -/
def OD (N : Int) (w : Nat → Int) (A : SS) : Prop := ∀ i : Nat, ((3 * i : Nat) : Int) < N → WSK A (w (3 * i)) (w (3 * i + 1)) (w (3 * i + 2))
theorem odd91 {A : SS} {P x : VS} {T C : Nat} (ra : RA 91 A x) (aw : AW P T C A) {q : Nat} (h3 : x (107 + 2 * q) 2 % 3 = 0) : ∀ (f i : Nat), ((3 * i : Nat) : Int) ≤ x (107 + 2 * q) 2 → x (107 + 2 * q) 2 < ((3 * i : Nat) : Int) + f → (cl_firstOdd91_2 f x q ((3 * i : Nat) : Int) = -1 ↔ ∀ j : Nat, i ≤ j → ((3 * j : Nat) : Int) < x (107 + 2 * q) 2 → WSK A (x (108 + 2 * q) (3 * j)) (x (108 + 2 * q) (3 * j + 1)) (x (108 + 2 * q) (3 * j + 2))) := by
  intro f
  induction f with
  | zero => intro i h0 h1; omega
  | succ f ih =>
    intro i h0 h1
    rw [cl_firstOdd91_2, toN, show (((3 * i : Nat) : Int) + 1).toNat = 3 * i + 1 by omega, show (((3 * i : Nat) : Int) + 2).toNat = 3 * i + 2 by omega, show (((3 * i : Nat) : Int) + 3) = ((3 * (i + 1) : Nat) : Int) by omega]
    by_cases c : ((3 * i : Nat) : Int) + 2 < x (107 + 2 * q) 2
    · rw [if_pos c]
      by_cases z : WSK A (x (108 + 2 * q) (3 * i)) (x (108 + 2 * q) (3 * i + 1)) (x (108 + 2 * q) (3 * i + 2))
      · rw [if_neg (fun y => (ws91_0 ra aw).mp y z), ih (i + 1) (by omega) (by omega)]
        exact ⟨fun a j j1 j2 => by
          by_cases e : j = i
          · rw [e]; exact z
          · exact a j (by omega) j2, fun a j j1 j2 => a j (by omega) j2⟩
      · rw [if_pos ((ws91_0 ra aw).mpr z)]
        exact ⟨fun a => by omega, fun a => absurd (a i (by omega) (by omega)) z⟩
    · rw [if_neg c]
      exact ⟨fun _ j j1 j2 => by omega, fun _ => rfl⟩
theorem odd91_OD {A : SS} {P x : VS} {T C : Nat} (ra : RA 91 A x) (aw : AW P T C A) {q : Nat} (h3 : x (107 + 2 * q) 2 % 3 = 0) (hl : 0 ≤ x (107 + 2 * q) 2 ∧ x (107 + 2 * q) 2 ≤ 60) : cl_firstOdd91 x q = -1 ↔ OD (x (107 + 2 * q) 2) (x (108 + 2 * q)) A := by
  have r := odd91 ra aw h3 63 0 (by omega) (by omega)
  unfold cl_firstOdd91
  exact r.trans ⟨fun a j j1 => a j (by omega) j1, fun a j _ j1 => a j j1⟩
theorem oddof {A : SS} {P u : VS} {T C : Nat} (rm : RM A u) (aw : AW P T C A) {q : Nat} {w : Nat → Int} (h3 : u 205 q % 3 = 0) (hw : ∀ j : Nat, (j : Int) < u 205 q → w j = u 206 (60 * q + j)) : ∀ (f i : Nat), ((3 * i : Nat) : Int) ≤ u 205 q → u 205 q < ((3 * (i + f) : Nat) : Int) → (mo_oddOf_2 f u q i = -1 ↔ ∀ j : Nat, i ≤ j → ((3 * j : Nat) : Int) < u 205 q → WSK A (w (3 * j)) (w (3 * j + 1)) (w (3 * j + 2))) := by
  intro f
  induction f with
  | zero => intro i h0 h1; omega
  | succ f ih =>
    intro i h0 h1
    rw [mo_oddOf_2, toN, show (60 * (q : Int) + 3 * (i : Int)).toNat = 60 * q + 3 * i by omega, show (60 * (q : Int) + 3 * (i : Int) + 1).toNat = 60 * q + (3 * i + 1) by omega, show (60 * (q : Int) + 3 * (i : Int) + 2).toNat = 60 * q + (3 * i + 2) by omega, show ((i : Int) + 1) = ((i + 1 : Nat) : Int) by omega]
    by_cases c : 3 * (i : Int) < u 205 q
    · rw [if_pos c, ← hw (3 * i) (by omega), ← hw (3 * i + 1) (by omega), ← hw (3 * i + 2) (by omega)]
      by_cases z : WSK A (w (3 * i)) (w (3 * i + 1)) (w (3 * i + 2))
      · rw [if_neg (fun y => (is_0 rm aw).mp y z), ih (i + 1) (by omega) (by omega)]
        exact ⟨fun a j j1 j2 => by
          by_cases e : j = i
          · rw [e]; exact z
          · exact a j (by omega) j2, fun a j j1 j2 => a j (by omega) j2⟩
      · rw [if_pos ((is_0 rm aw).mpr z)]
        exact ⟨fun a => by omega, fun a => absurd (a i (by omega) (by omega)) z⟩
    · rw [if_neg c]
      exact ⟨fun _ j j1 j2 => by omega, fun _ => rfl⟩
theorem oddof_OD {A : SS} {P u : VS} {T C : Nat} (rm : RM A u) (aw : AW P T C A) {q : Nat} {w : Nat → Int} (h3 : u 205 q % 3 = 0) (hl : 0 ≤ u 205 q ∧ u 205 q ≤ 60) (hw : ∀ j : Nat, (j : Int) < u 205 q → w j = u 206 (60 * q + j)) : mo_oddOf u (q : Int) = -1 ↔ OD (u 205 q) w A := by
  have r := oddof rm aw h3 hw 21 0 (by omega) (by omega)
  unfold mo_oddOf
  exact r.trans ⟨fun a j j1 => a j (by omega) j1, fun a j _ j1 => a j j1⟩
