/-! to muffle who does not strike changes nothing -/
def PM6 (D : Int → Prop) (P P' : VS) : Prop := (∀ k, k ≠ 6 → P' k = P k) ∧ (∀ c : Nat, D c → P' 6 c = 1) ∧ (∀ c : Nat, ¬ D c → P' 6 c = P 6 c)
theorem PM6.carry {D : Int → Prop} {P P' : VS} (h : PM6 D P P') (a : SS) (i e : Nat) : acarry P' a i e = acarry P a i e := by
  unfold acarry ahear aat
  rw [h.1 0 (by omega), h.1 (100 + e) (by omega), h.1 (200 + e) (by omega), h.1 1 (by omega), h.1 (300 + (P 1 e).toNat) (by omega), h.1 (400 + (P 1 e).toNat) (by omega), h.1 3 (by omega)]
theorem PM6.goL {D : Int → Prop} {P P' : VS} (h : PM6 D P P') (i : Nat) : ∀ (m : Nat) (a : SS), agoL P' i m a = agoL P i m a := by
  intro m
  induction m with
  | zero => intro a; rfl
  | succ m ih =>
    intro a
    rw [agoL, agoL, ih]
    unfold agoE
    rw [h.1 2 (by omega), h.1 7 (by omega), h.carry]
theorem PM6.go {D : Int → Prop} {P P' : VS} (h : PM6 D P P') (a : SS) (i : Nat) : ago P' a i = ago P a i := by
  unfold ago
  rw [h.1 0 (by omega), h.goL]
theorem PM6.ring {D : Int → Prop} {P P' : VS} (h : PM6 D P P') (a : SS) (t c : Nat) (x : Int × Int × Int) : aring P' a t c x = aring P a t c x := by
  apply aring_eq
  unfold auw
  rw [h.1 0 (by omega)]
def MU (D : Int → Prop) (a a' : SS) : Prop := a' = a ∨ ∃ i : Nat, (i : Int) < a.1 0 0 ∧ D (a.1 2 i)
theorem MU.step {D : Int → Prop} {P P' : VS} {a a' : SS} {t c : Nat} (hD : PM6 D P P') (h : MU D a a') (hA : AW P t c a) : MU D (astep P a t c) (astep P' a' t c) := by
  have h0 := hA.n
  rcases h with rfl | ⟨i, h1, h2⟩
  · unfold astep
    by_cases o : a'.1 0 1 ≠ 0
    · rw [if_pos o, if_pos o]; exact Or.inl rfl
    · rw [if_neg o, if_neg o]
      unfold avis
      cases hl : a'.2 t c with
      | nil => exact Or.inl rfl
      | cons x r =>
        show MU D (avisL P a' t c x r) (avisL P' a' t c x r)
        unfold avisL
        rw [hD.1 4 (by omega), hD.1 5 (by omega), hD.1 0 (by omega), hD.go, hD.ring]
        by_cases d : D c
        · rw [if_pos (hD.2.1 c d)]
          by_cases q1 : P 6 c = 1
          · rw [if_pos q1]; exact Or.inl rfl
          · rw [if_neg q1]
            have key : ∀ i : Nat, a'.1 12 c = 1 → ∀ r j, MU D (alose a' r j) (alose a' r 4) → True := fun _ _ _ _ _ => trivial
            have hs : a'.1 12 c = 1 → ∀ r j s, MU D (alose a' r j) s := by
              intro w r j s
              obtain ⟨-, g2, g3, -⟩ := hA.ye c w
              refine Or.inr ⟨(a'.1 13 c).toNat, ?_, ?_⟩
              · rw [alose_row (by omega)]; omega
              · rw [alose_row (by omega), g3]; exact d
            by_cases q2 : a'.1 12 c = 1 ∧ P 0 4 = 0 ∧ (t : Int) - a'.1 10 c ≤ P 4 c
            · rw [if_pos q2]; exact hs q2.1 _ _ _
            · rw [if_neg q2]
              by_cases q3 : a'.1 12 c = 1 ∧ P 5 c = 1 ∧ (abest x r).1 ≤ a'.1 11 c
              · rw [if_pos q3]; exact hs q3.1 _ _ _
              · rw [if_neg q3]
                refine Or.inr ⟨(a'.1 0 0).toNat, ?_, ?_⟩
                · rw [ago_row (by omega), (aring_r (i := 0)).1, aoth_row (by omega)]; omega
                · rw [ago_row (by omega), (aring_r (i := (a'.1 0 0).toNat)).2.2.2.2.1, aoth_row (by omega), if_pos rfl]; exact d
        · rw [hD.2.2 c d]; exact Or.inl rfl
  · right
    have k := SKP.step (P := P) (a := a) t c h0.1
    refine ⟨i, by have := k.1; omega, ?_⟩
    rw [k.2 2 i (by omega) (by omega) h1]
    exact h2
theorem MU.inL {D : Int → Prop} {P P' : VS} {a a' : SS} {t : Nat} (hP : PW P) (hD : PM6 D P P') (h : MU D a a') (hA : AW P t 0 a) (ht : (t : Int) < P 0 1) : ∀ k : Nat, (k : Int) ≤ P 0 0 → MU D (ainL P t k a) (ainL P' t k a') := by
  intro k
  induction k with
  | zero => intro _; exact h
  | succ k ih => intro hk; exact (ih (by omega)).step hD (hA.inL hP ht k (by omega))
theorem MU.outL {D : Int → Prop} {P P' : VS} {a a' : SS} (hP : PW P) (hD : PM6 D P P') (h : MU D a a') (hA : AW P 0 0 a) : ∀ k : Nat, (k : Int) ≤ P 0 1 → MU D (aoutL P k a) (aoutL P' k a') := by
  have hC := hP.C
  intro k
  induction k with
  | zero => intro _; exact h
  | succ k ih =>
    intro hk
    rw [aoutL, aoutL, hD.1 0 (by omega)]
    exact (ih (by omega)).inL hP hD (hA.outL hP k (by omega)) (by omega) _ (by omega)
theorem MU.run {D : Int → Prop} {P P' : VS} (hP : PW P) (hD : PM6 D P P') : MU D (arun P) (arun P') := by
  have q : ∀ m a, abegL P' m a = abegL P m a := by
    intro m
    induction m with
    | zero => intro a; rfl
    | succ m ih => intro a; rw [abegL, abegL, ih, hD.1 8 (by omega), hD.1 9 (by omega), hD.1 10 (by omega)]
  have e : abeg P' = abeg P := by
    unfold abeg
    rw [hD.1 0 (by omega), q]
  unfold arun
  rw [e, hD.1 0 (by omega)]
  exact MU.outL hP hD (Or.inl rfl) (AW.beg hP) _ (by have := hP.T; omega)
/-! to cut ears by which nothing is struck changes no strike -/
def PM7 (D : Int → Bool) (P P' : VS) : Prop := (∀ k, k ≠ 7 → P' k = P k) ∧ (∀ e : Nat, D e = true → P' 7 e = 1) ∧ (∀ e : Nat, D e = false → P' 7 e = P 7 e) ∧ D (-1) = false
theorem abest_spl : ∀ (r : List (Int × Int × Int)) (x : Int × Int × Int), ∃ l1 l2, x :: r = l1 ++ abest x r :: l2 ∧ (∀ y, y ∈ l1 → y.1 < (abest x r).1) ∧ (∀ y, y ∈ l2 → y.1 ≤ (abest x r).1) := by
  intro r
  induction r with
  | nil => intro x; exact ⟨[], [], rfl, fun y hy => by simp at hy, fun y hy => by simp at hy⟩
  | cons y r ih =>
    intro x
    by_cases q : x.1 < y.1
    · have e : abest x (y :: r) = abest y r := by
        show abest (if x.1 < y.1 then y else x) r = _
        rw [if_pos q]
      obtain ⟨l1, l2, h1, h2, h3⟩ := ih y
      rw [e]
      refine ⟨x :: l1, l2, by rw [h1]; rfl, fun z hz => ?_, h3⟩
      rw [List.mem_cons] at hz
      rcases hz with rfl | hz
      · have hy : y ∈ l1 ++ abest y r :: l2 := by rw [← h1]; exact List.mem_cons_self
        rw [List.mem_append, List.mem_cons] at hy
        rcases hy with g | g | g
        · have := h2 y g; omega
        · rw [← g]; exact q
        · have := h3 y g; omega
      · exact h2 z hz
    · have e : abest x (y :: r) = abest x r := by
        show abest (if x.1 < y.1 then y else x) r = _
        rw [if_neg q]
      obtain ⟨l1, l2, h1, h2, h3⟩ := ih x
      rw [e]
      cases l1 with
      | nil =>
        rw [List.nil_append, List.cons.injEq] at h1
        refine ⟨[], y :: l2, ?_, fun z hz => by simp at hz, fun z hz => ?_⟩
        · rw [List.nil_append, ← h1.1, h1.2]
        · rw [List.mem_cons] at hz
          rcases hz with rfl | hz
          · rw [← h1.1]; omega
          · exact h3 z hz
      | cons w l1 =>
        rw [List.cons_append, List.cons.injEq] at h1
        obtain ⟨g1, g2⟩ := h1
        subst g1
        refine ⟨x :: y :: l1, l2, ?_, fun z hz => ?_, h3⟩
        · rw [List.cons_append, List.cons_append, ← g2]
        · have hx := h2 x List.mem_cons_self
          rw [List.mem_cons, List.mem_cons] at hz
          rcases hz with rfl | rfl | hz
          · exact hx
          · omega
          · exact h2 z (List.mem_cons_of_mem _ hz)
theorem abest_le : ∀ (l2 : List (Int × Int × Int)) (b : Int × Int × Int), (∀ y, y ∈ l2 → y.1 ≤ b.1) → abest b l2 = b := by
  intro l2
  induction l2 with
  | nil => intro b _; rfl
  | cons y l2 ih =>
    intro b h
    show abest (if b.1 < y.1 then y else b) l2 = b
    rw [if_neg (by have := h y List.mem_cons_self; omega)]
    exact ih b (fun z hz => h z (List.mem_cons_of_mem _ hz))
theorem abest_of {b x : Int × Int × Int} {r l1 l2 : List (Int × Int × Int)} (h : x :: r = l1 ++ b :: l2) (h1 : ∀ y, y ∈ l1 → y.1 < b.1) (h2 : ∀ y, y ∈ l2 → y.1 ≤ b.1) : abest x r = b := by
  cases l1 with
  | nil =>
    rw [List.nil_append, List.cons.injEq] at h
    rw [h.1, h.2]
    exact abest_le l2 b h2
  | cons w l1 =>
    rw [List.cons_append, List.cons.injEq] at h
    obtain ⟨g1, g2⟩ := h
    subst g1
    rw [g2]
    have e : abest x (l1 ++ b :: l2) = abest (abest x l1) (b :: l2) := by
      unfold abest
      rw [List.foldl_append]
    rw [e]
    have q := h1 _ (abest_mem l1 x)
    show abest (if (abest x l1).1 < b.1 then b else abest x l1) l2 = b
    rw [if_pos q]
    exact abest_le l2 b h2
def nD (D : Int → Bool) (x : Int × Int × Int) : Bool := !D x.2.2
def EQ5 (D : Int → Bool) (a : SS) (a' : SS) : Prop :=
  (∀ k : Nat, k < 6 ∨ 9 < k → a'.1 k = a.1 k) ∧
  (∀ t c : Nat, a'.2 t c = (a.2 t c).filter (nD D))
theorem EQ5.r {D : Int → Bool} {a : SS} {a' : SS} (h : EQ5 D a a') : ∀ k : Nat, k < 6 ∨ 9 < k → a'.1 k = a.1 k := h.1
theorem EQ5.d {D : Int → Bool} {a : SS} {a' : SS} (h : EQ5 D a a') : ∀ t c : Nat, a'.2 t c = (a.2 t c).filter (nD D) := h.2
def EA (D : Int → Bool) (a a' : SS) : Prop := EQ5 D a a' ∨ ∃ i : Nat, (i : Int) < a.1 0 0 ∧ D (a.1 5 i) = true
theorem EQ5.inc {D : Int → Bool} {a a' : SS} (h : EQ5 D a a') {k j k' j' : Nat} (hk : 6 ≤ k ∧ k ≤ 9) (hk' : 6 ≤ k' ∧ k' ≤ 9) : EQ5 D (ainc a k j) (ainc a' k' j') := ⟨fun z hz => by rw [ainc_row (by omega), ainc_row (by omega)]; exact h.r z hz, h.d⟩
theorem EQ5.incl {D : Int → Bool} {a a' : SS} (h : EQ5 D a a') {k j : Nat} (hk : 6 ≤ k ∧ k ≤ 9) : EQ5 D (ainc a k j) a' := ⟨fun z hz => by rw [ainc_row (by omega)]; exact h.r z hz, h.d⟩
theorem EQ5.put {D : Int → Bool} {a a' : SS} (h : EQ5 D a a') {t c : Nat} {x : Int × Int × Int} (hx : D x.2.2 = false) : EQ5 D (aput a t c x) (aput a' t c x) := by
  refine ⟨h.r, fun t' c' => ?_⟩
  rw [aput_due, aput_due]
  split
  · rw [h.d, List.filter_append]
    have e : nD D x = true := by unfold nD; rw [hx]; rfl
    rw [List.filter_cons, if_pos e, List.filter_nil]
  · exact h.d t' c'
theorem EQ5.putl {D : Int → Bool} {a a' : SS} (h : EQ5 D a a') {t c : Nat} {x : Int × Int × Int} (hx : D x.2.2 = true) : EQ5 D (aput a t c x) a' := by
  refine ⟨h.r, fun t' c' => ?_⟩
  rw [aput_due]
  split
  · rename_i q
    rw [q.1, q.2, h.d, List.filter_append]
    have e : ¬ nD D x = true := by unfold nD; rw [hx]; simp
    rw [List.filter_cons, if_neg e, List.filter_nil, List.append_nil]
  · exact h.d t' c'
theorem EQ5.goE {D : Int → Bool} {P P' : VS} (hD : PM7 D P P') {a a' : SS} (h : EQ5 D a a') (i e : Nat) : EQ5 D (agoE P a i e) (agoE P' a' i e) := by
  have e1 := h.r 1 (by omega)
  have e2 := h.r 2 (by omega)
  have e3 := h.r 3 (by omega)
  unfold agoE
  rw [hD.1 2 (by omega), e2]
  by_cases q : D e = true
  · rw [if_neg (show ¬ (P 2 e = a.1 2 i ∧ P' 7 e = 0) from fun g => by rw [hD.2.1 e q] at g; omega)]
    split
    · unfold acarry
      split
      · exact (h.incl (by omega)).incl (by omega)
      · split
        · exact ((h.incl (by omega)).incl (by omega)).incl (by omega)
        · split
          · exact (h.incl (by omega)).incl (by omega)
          · unfold ahear
            split
            · exact (h.incl (by omega)).incl (by omega)
            · split
              · exact (h.incl (by omega)).incl (by omega)
              · exact ((h.incl (by omega)).incl (by omega)).putl q
    · exact h
  · have q : D e = false := by simpa using q
    rw [hD.2.2.1 e q]
    by_cases z : P 2 e = a.1 2 i ∧ P 7 e = 0
    · rw [if_pos z, if_pos z]
      have h9 : EQ5 D (ainc a 9 e) (ainc a' 9 e) := h.inc (by omega) (by omega)
      have r1 : (ainc a' 9 e).1 1 = (ainc a 9 e).1 1 := h9.r 1 (by omega)
      have r3 : (ainc a' 9 e).1 3 = (ainc a 9 e).1 3 := h9.r 3 (by omega)
      have eat : aat P' (ainc a' 9 e) i e = aat P (ainc a 9 e) i e := by
        unfold aat
        rw [r1, hD.1 (100 + e) (by omega)]
      unfold acarry
      rw [eat, hD.1 0 (by omega), hD.1 (200 + e) (by omega), hD.1 1 (by omega), hD.1 (300 + (P 1 e).toNat) (by omega)]
      split
      · exact h9.inc (by omega) (by omega)
      · split
        · exact (h9.inc (by omega) (by omega)).inc (by omega) (by omega)
        · split
          · exact h9.inc (by omega) (by omega)
          · unfold ahear
            rw [r3, hD.1 0 (by omega), hD.1 (400 + (P 1 e).toNat) (by omega), hD.1 3 (by omega)]
            split
            · exact h9.inc (by omega) (by omega)
            · split
              · exact h9.inc (by omega) (by omega)
              · exact (h9.inc (by omega) (by omega)).put q
    · rw [if_neg z, if_neg z]
      exact h
theorem EQ5.goL {D : Int → Bool} {P P' : VS} (hD : PM7 D P P') {a a' : SS} (h : EQ5 D a a') (i : Nat) : ∀ m : Nat, EQ5 D (agoL P i m a) (agoL P' i m a') := by
  intro m
  induction m with
  | zero => exact h
  | succ m ih => exact ih.goE hD i m
theorem EQ5.go {D : Int → Bool} {P P' : VS} (hD : PM7 D P P') {a a' : SS} (h : EQ5 D a a') (i : Nat) : EQ5 D (ago P a i) (ago P' a' i) := by
  have e0 := h.r 0 (by omega)
  unfold ago
  rw [hD.1 0 (by omega), e0]
  split
  · exact h
  · exact h.goL hD i _
theorem EQ5.ring {D : Int → Bool} {P P' : VS} (hD : PM7 D P P') {a a' : SS} (h : EQ5 D a a') (t c : Nat) (x : Int × Int × Int) : EQ5 D (aring P a t c x) (aring P' a' t c x) := by
  have ea : aring P' a' t c x = aring P a' t c x := by
    apply aring_eq
    unfold auw
    rw [hD.1 0 (by omega)]
  rw [ea]
  refine ⟨fun k hk => ?_, h.d⟩
  funext j
  have e0 := h.r 0 (by omega)
  have e12 := h.r 12 (by omega)
  have e13 := h.r 13 (by omega)
  have e14 := h.r 14 (by omega)
  have ek := h.r k hk
  unfold aring
  simp only [v2_eq, e0, e12, e13, e14, ek]
theorem EA.step {D : Int → Bool} {P P' : VS} {a a' : SS} {t c : Nat} (hD : PM7 D P P') (h : EA D a a') (h0 : 0 ≤ a.1 0 0) : EA D (astep P a t c) (astep P' a' t c) := by
  rcases h with h | ⟨i, h1, h2⟩
  · have e0 := h.r 0 (by omega)
    have e10 := h.r 10 (by omega)
    have e11 := h.r 11 (by omega)
    have e12 := h.r 12 (by omega)
    have hlo : ∀ r j, EQ5 D (alose a r j) a' := fun r j => ⟨fun k hk => by rw [alose_row (by omega)]; exact h.r k hk, h.d⟩
    have hll : ∀ r j r' j', EQ5 D (alose a r j) (alose a' r' j') := fun r j r' j' => ⟨fun k hk => by rw [alose_row (by omega), alose_row (by omega)]; exact h.r k hk, h.d⟩
    unfold astep
    rw [e0]
    by_cases o : a.1 0 1 ≠ 0
    · rw [if_pos o, if_pos o]; exact Or.inl h
    · rw [if_neg o, if_neg o]
      unfold avis
      rw [h.d]
      cases hl : a.2 t c with
      | nil => exact Or.inl h
      | cons x r =>
        show EA D (avisL P a t c x r) (match (x :: r).filter (nD D) with
          | [] => a'
          | x' :: r' => avisL P' a' t c x' r')
        obtain ⟨l1, l2, s1, s2, s3⟩ := abest_spl r x
        cases hf : (x :: r).filter (nD D) with
        | nil =>
          show EA D (avisL P a t c x r) a'
          unfold avisL
          split
          · exact Or.inl (hlo _ _)
          · split
            · exact Or.inl (hlo _ _)
            · split
              · exact Or.inl (hlo _ _)
              · right
                have hb : D (abest x r).2.2 = true := by
                  have : abest x r ∉ (x :: r).filter (nD D) := by rw [hf]; simp
                  rw [List.mem_filter] at this
                  have g : ¬ nD D (abest x r) = true := fun g => this ⟨abest_mem r x, g⟩
                  unfold nD at g
                  simpa using g
                refine ⟨(a.1 0 0).toNat, ?_, ?_⟩
                · rw [ago_row (by omega), (aring_r (i := 0)).1, aoth_row (by omega)]; omega
                · rw [ago_row (by omega), (aring_r (i := (a.1 0 0).toNat)).2.2.2.2.2.2.2.1, aoth_row (by omega), if_pos rfl]; exact hb
        | cons x' r' =>
          show EA D (avisL P a t c x r) (avisL P' a' t c x' r')
          have hle : (abest x' r').1 ≤ (abest x r).1 := by
            have m1 := abest_mem r' x'
            rw [← hf, List.mem_filter, s1, List.mem_append, List.mem_cons] at m1
            rcases m1.1 with g | g | g
            · have := s2 _ g; omega
            · rw [g]; exact Int.le_refl _
            · exact s3 _ g
          unfold avisL
          rw [hD.1 6 (by omega), hD.1 4 (by omega), hD.1 5 (by omega), hD.1 0 (by omega), e10, e11, e12, e0]
          by_cases q1 : P 6 c = 1
          · rw [if_pos q1, if_pos q1]; exact Or.inl (hll _ _ _ _)
          · rw [if_neg q1, if_neg q1]
            by_cases q2 : a.1 12 c = 1 ∧ P 0 4 = 0 ∧ (t : Int) - a.1 10 c ≤ P 4 c
            · rw [if_pos q2, if_pos q2]; exact Or.inl (hll _ _ _ _)
            · rw [if_neg q2, if_neg q2]
              by_cases q3 : a.1 12 c = 1 ∧ P 5 c = 1 ∧ (abest x r).1 ≤ a.1 11 c
              · rw [if_pos q3, if_pos ⟨q3.1, q3.2.1, by omega⟩]; exact Or.inl (hll _ _ _ _)
              · rw [if_neg q3]
                by_cases d : D (abest x r).2.2 = true
                · right
                  refine ⟨(a.1 0 0).toNat, ?_, ?_⟩
                  · rw [ago_row (by omega), (aring_r (i := 0)).1, aoth_row (by omega)]; omega
                  · rw [ago_row (by omega), (aring_r (i := (a.1 0 0).toNat)).2.2.2.2.2.2.2.1, aoth_row (by omega), if_pos rfl]; exact d
                · left
                  have nd : nD D (abest x r) = true := by unfold nD; simpa using d
                  have eb : abest x' r' = abest x r := by
                    have s4 : x' :: r' = l1.filter (nD D) ++ abest x r :: l2.filter (nD D) := by
                      rw [← hf, s1, List.filter_append, List.filter_cons, if_pos nd]
                    exact abest_of s4 (fun y hy => s2 y (List.mem_filter.mp hy).1) (fun y hy => s3 y (List.mem_filter.mp hy).1)
                  rw [eb, if_neg q3]
                  have ho : EQ5 D (aoth a r.length) (aoth a' r'.length) := ⟨fun k hk => by rw [aoth_row (by omega), aoth_row (by omega)]; exact h.r k hk, h.d⟩
                  exact (ho.ring hD t c _).go hD _
  · right
    have k := SKP.step (P := P) (a := a) t c h0
    refine ⟨i, by have := k.1; omega, ?_⟩
    rw [k.2 5 i (by omega) (by omega) h1]
    exact h2
theorem EA.inL {D : Int → Bool} {P P' : VS} {a a' : SS} {t : Nat} (hP : PW P) (hD : PM7 D P P') (h : EA D a a') (hA : AW P t 0 a) (ht : (t : Int) < P 0 1) : ∀ k : Nat, (k : Int) ≤ P 0 0 → EA D (ainL P t k a) (ainL P' t k a') := by
  intro k
  induction k with
  | zero => intro _; exact h
  | succ k ih => intro hk; exact (ih (by omega)).step hD (hA.inL hP ht k (by omega)).n.1
theorem EA.outL {D : Int → Bool} {P P' : VS} {a a' : SS} (hP : PW P) (hD : PM7 D P P') (h : EA D a a') (hA : AW P 0 0 a) : ∀ k : Nat, (k : Int) ≤ P 0 1 → EA D (aoutL P k a) (aoutL P' k a') := by
  have hC := hP.C
  intro k
  induction k with
  | zero => intro _; exact h
  | succ k ih =>
    intro hk
    rw [aoutL, aoutL, hD.1 0 (by omega)]
    exact (ih (by omega)).inL hP hD (hA.outL hP k (by omega)) (by omega) _ (by omega)
theorem EA.run {D : Int → Bool} {P P' : VS} (hP : PW P) (hD : PM7 D P P') : EA D (arun P) (arun P') := by
  have q : ∀ m : Nat, EQ5 D (abegL P m anil) (abegL P' m anil) := by
    intro m
    induction m with
    | zero => exact ⟨fun k hk => rfl, fun t c => rfl⟩
    | succ m ih =>
      rw [abegL, abegL, hD.1 8 (by omega), hD.1 9 (by omega), hD.1 10 (by omega)]
      exact ih.put hD.2.2.2
  unfold arun
  rw [hD.1 0 (by omega)]
  refine EA.outL hP hD (Or.inl ?_) (AW.beg hP) _ (by have := hP.T; omega)
  unfold abeg
  rw [hD.1 0 (by omega)]
  exact q _
